/-! ===== the class: the predictive table runs ===== -/
def PUL : List Nat := [145, 146, 147]
section PR_
variable {u : Nat} {n : Nat} {L : Nat → Nat → Int} {g : GT}
theorem CTB.ownp {kd : Nat} {J J' L : Nat → Nat → Int} (h : CTB u g kd J L) (f : Fr PUL J J') : CTB u g kd J' L :=
  h.fr f (by decide) (fun a ha => by rw [f a (by simp at ha; simp [PUL]; omega)]) rfl
theorem X5_push {J : Nat → Nat → Int} {h : Nat} (e : J 145 4 = (h : Int)) (hh : h < 1501) (x : Int) : f_X5_push 145 x (hp u J L) = some (hp u (gx_u (gx_u J 146 h x) 145 4 ((h : Int) + 1)) L) := by
  have e1 : ∀ y, gx_u J 146 h y 145 = J 145 := fun y => gu_ne (by decide)
  simp (disch := omega) only [f_X5_push, ↓dhi_P, ↓dhg_P_0, ↓dhq_P_0, ↓dhG_P_1, ↓dhG_P_2, ↓dhG_P_3, ↓dhg_P_4, ↓dhq_P_4, ↓dhG_P_5, ↓dhg_P_6, ↓dhq_P_6, ↓dha_146, ↓dhs_146, ↓dhl_146, Option.bind_some, ↓nm_eq, ↓sm_inl, ↓sm_inr, ↓dzo_0, ↓dzo_1, ↓drg_ok, ↓if_pos, ↓if_neg, if_pos, if_neg, if_true, if_false, Int.toNat_natCast, rg_ok, e, e1]
theorem X5_next0 {J : Nat → Nat → Int} (e : J 145 4 = 0) : f_X5_next 145 (hp u J L) = some (-1) := by
  simp (disch := omega) only [f_X5_next, b_X5_next_33, ↓dhi_P, ↓dhg_P_0, ↓dhq_P_0, ↓dhG_P_1, ↓dhG_P_2, ↓dhG_P_3, ↓dhg_P_4, ↓dhq_P_4, ↓dhG_P_5, ↓dhg_P_6, ↓dhq_P_6, ↓dha_146, ↓dhs_146, ↓dhl_146, Option.bind_some, ↓nm_eq, ↓sm_inl, ↓sm_inr, ↓dzo_0, ↓dzo_1, ↓drg_ok, ↓if_pos, ↓if_neg, if_pos, if_neg, if_true, if_false, Int.toNat_natCast, rg_ok, e]
theorem X5_next {J : Nat → Nat → Int} {h : Nat} (e : J 145 4 = ((h + 1 : Nat) : Int)) (hh : h < 1501) : f_X5_next 145 (hp u J L) = some (J 146 h) := by
  have ei : (((h + 1 : Nat) : Int) - 1).toNat = h := by omega
  simp (disch := omega) only [f_X5_next, b_X5_next_33, ↓dhi_P, ↓dhg_P_0, ↓dhq_P_0, ↓dhG_P_1, ↓dhG_P_2, ↓dhG_P_3, ↓dhg_P_4, ↓dhq_P_4, ↓dhG_P_5, ↓dhg_P_6, ↓dhq_P_6, ↓dha_146, ↓dhs_146, ↓dhl_146, Option.bind_some, ↓nm_eq, ↓sm_inl, ↓sm_inr, ↓dzo_0, ↓dzo_1, ↓drg_ok, ↓if_pos, ↓if_neg, if_pos, if_neg, if_true, if_false, Int.toNat_natCast, rg_ok, e, ei]
theorem X5_pop {J : Nat → Nat → Int} {h : Nat} (e : J 145 4 = ((h + 1 : Nat) : Int)) (hh : h < 1501) : f_X5_pop 145 (hp u J L) = some (J 146 h, hp u (gx_u J 145 4 (h : Int)) L) := by
  have en := X5_next (u := u) (L := L) e hh
  have e1 : ((h + 1 : Nat) : Int) - 1 = (h : Int) := by omega
  simp (disch := omega) only [f_X5_pop, ↓dhi_P, ↓dhg_P_0, ↓dhq_P_0, ↓dhG_P_1, ↓dhG_P_2, ↓dhG_P_3, ↓dhg_P_4, ↓dhq_P_4, ↓dhG_P_5, ↓dhg_P_6, ↓dhq_P_6, ↓dha_146, ↓dhs_146, ↓dhl_146, Option.bind_some, ↓nm_eq, ↓sm_inl, ↓sm_inr, ↓dzo_0, ↓dzo_1, ↓drg_ok, ↓if_pos, ↓if_neg, if_pos, if_neg, if_true, if_false, Int.toNat_natCast, rg_ok, ↓bnd en, e, e1]
/-- a right is put on the stack, its last symbol first -/
theorem X5_app14 (hn : 1000000000000000000000000000000 ≤ n) {J0 : Nat → Nat → Int} (h : CTB u g 0 J0 L) {q : Nat} (hq : q < Gn g) {β : List Nat} :
    ∀ (m f : Nat) (J : Nat → Nat → Int), m < f → m ≤ Gl g q → Fr [145, 146] J0 J → (∀ k, k ≠ 4 → J 145 k = J0 145 k) → J 145 4 = ((((rh g q).drop m ++ β).length : Nat) : Int) → AX nJx J 146 ((rh g q).drop m ++ β) → β.length ≤ 1495 →
    ∃ J', l_X5_apply_14 n f 145 (q : Int) ((m : Int) - 1) (hp u J L) = b_X5_apply_40 n 145 (q : Int) (hp u J' L) ∧ Fr [145, 146] J0 J' ∧ (∀ k, k ≠ 4 → J' 145 k = J0 145 k) ∧ J' 145 4 = (((rh g q ++ β).length : Nat) : Int) ∧ AX nJx J' 146 (rh g q ++ β) := by
  have hg := h.1.gr
  have h24 := hg.1
  have h5 := hg.2.2.2.1 q
  have hgm := gU_mem u
  intro m
  induction m with
  | zero =>
    intro f J hf _ f1 q1 e hA _
    obtain ⟨f', rfl⟩ : ∃ f', f = f' + 1 := ⟨f - 1, by omega⟩
    refine ⟨J, ?_, f1, q1, e, hA⟩
    have e0 : ((0 : Nat) : Int) - 1 = -1 := rfl
    rw [e0]
    simp (disch := omega) only [l_X5_apply_14, b_X5_apply_14, Option.bind_some, ↓nm_eq, ↓sm_inl, ↓sm_inr, ↓dzo_0, ↓dzo_1, ↓drg_ok, ↓if_pos, ↓if_neg, if_pos, if_neg, if_true, if_false, Int.toNat_natCast, rg_ok]
  | succ m ih =>
    intro f J hf hm f1 q1 e hA hβ
    obtain ⟨f', rfl⟩ : ∃ f', f = f' + 1 := ⟨f - 1, by omega⟩
    have e0 : ((m + 1 : Nat) : Int) - 1 = (m : Int) := by omega
    have hC := h.ownp (f1.up (fun a z => by simp at z; simp [PUL]; omega))
    have hw := hC.1.1.1
    have hcg := hC.1.1.2
    have es := X4_symbol (u := u) (L := L) hgm hw (p := q) (k := m) (by rw [hcg]; omega)
    rw [hcg] at es
    have hl : ((rh g q).drop (m + 1) ++ β).length = Gl g q - (m + 1) + β.length := by rw [List.length_append, List.length_drop, rh_len]
    have epu := X5_push (u := u) (L := L) (J := J) (h := ((rh g q).drop (m + 1) ++ β).length) e (by omega) (Gs g q m : Int)
    have ek : (m : Int) + -1 = (m : Int) - 1 := by omega
    have hA' := AX_push (c := nJx) (x := Gs g q m) hA
    have hd : (rh g q).drop m ++ β = Gs g q m :: ((rh g q).drop (m + 1) ++ β) := by rw [rh_drop (by omega)]; rfl
    obtain ⟨J', i1, i2, i3, i4, i5⟩ := ih f' (gx_u (gx_u J 146 ((rh g q).drop (m + 1) ++ β).length (Gs g q m : Int)) 145 4 ((((rh g q).drop (m + 1) ++ β).length : Int) + 1)) (by omega) (by omega) ((f1.wr (by simp)).wr (by simp)) (fun k hk => by rw [gu_at_ne hk, gu_ne (by decide)]; exact q1 k hk) (by rw [gu_at_eq rfl, hd, List.length_cons]; rfl) (by rw [hd]; exact AX_fr hA' (fun i _ => by rw [gu_ne (by decide)]; rfl)) hβ
    refine ⟨J', ?_, i2, i3, i4, i5⟩
    rw [e0, ← i1]
    simp (disch := omega) only [l_X5_apply_14, b_X5_apply_14, ↓dhi_F, ↓dhG_F_0, ↓dhg_F_1, ↓dhq_F_1, ↓dhg_F_2, ↓dhq_F_2, ↓dhg_F_3, ↓dhq_F_3, ↓dhg_F_4, ↓dhq_F_4, ↓dhG_F_5, ↓dhG_F_6, ↓dhG_F_7, ↓dhG_F_8, ↓dhG_F_9, ↓dhg_F_10, ↓dhq_F_10, ↓dhG_F_11, ↓dhG_F_12, ↓dhG_F_13, ↓dhi_P, ↓dhg_P_0, ↓dhq_P_0, ↓dhG_P_1, ↓dhG_P_2, ↓dhG_P_3, ↓dhg_P_4, ↓dhq_P_4, ↓dhG_P_5, ↓dhg_P_6, ↓dhq_P_6, ↓dhi_G hgm, ↓dhG_G_0 hgm, ↓dhG_G_1 hgm, ↓dhG_G_2 hgm, ↓dhg_G_3 hgm, ↓dhq_G_3 hgm, ↓dhG_G_4 hgm, ↓dhG_G_5 hgm, ↓dhg_G_6 hgm, ↓dhq_G_6 hgm, ↓dhg_G_7 hgm, ↓dhq_G_7 hgm, ↓dhG_G_8 hgm, ↓dhG_G_9 hgm, ↓dha_G_1 hgm, ↓dhs_G_1 hgm, ↓dhl_G_1 hgm, ↓dha_G_2 hgm, ↓dhs_G_2 hgm, ↓dhl_G_2 hgm, ↓dha_G_3 hgm, ↓dhs_G_3 hgm, ↓dhl_G_3 hgm, ↓dha_G_4 hgm, ↓dhl_G_4 hgm, ↓dha_G_5 hgm, ↓dhs_G_5 hgm, ↓dhl_G_5 hgm, Option.bind_some, ↓nm_eq, ↓sm_inl, ↓sm_inr, ↓dzo_0, ↓dzo_1, ↓drg_ok, ↓if_pos, ↓if_neg, if_pos, if_neg, if_true, if_false, Int.toNat_natCast, rg_ok, ↓bnd X3_grammar, ↓bnd es, ↓bnd epu, ek]
/-- the parser's memory -/
def PM (J : Nat → Nat → Int) (β : List Nat) (qs : List Nat) : Prop := (J 145 4 = (β.length : Int) ∧ AX nJx J 146 β) ∧ J 145 6 = (qs.length : Int) ∧ AX nJx J 147 qs
theorem X5_apply (hn : 1000000000000000000000000000000 ≤ n) {J : Nat → Nat → Int} (h : CTB u g 0 J L) {q : Nat} (hq : q < Gn g) {β qs : List Nat} (hM : PM J β qs) (hβ : β.length ≤ 1495) (hqs : qs.length < 300) :
    ∃ J', f_X5_apply n 145 (q : Int) (hp u J L) = some (hp u J' L) ∧ Fr PUL J J' ∧ PM J' (rh g q ++ β) (q :: qs) := by
  have hg := h.1.gr
  have h24 := hg.1
  have h5 := hg.2.2.2.1 q
  have hgm := gU_mem u
  have el := X4_length (u := u) (L := L) hgm h.1.1.1 (p := q) (by omega)
  rw [h.1.1.2] at el
  have hd : (rh g q).drop (Gl g q) = [] := by
    apply List.eq_nil_of_length_eq_zero
    rw [List.length_drop, rh_len]; omega
  obtain ⟨J1, e1, f1, q1, e4, hA⟩ := X5_app14 (u := u) hn h hq (β := β) (Gl g q) n J (by omega) (Nat.le_refl _) Fr.rf (fun _ _ => rfl) (by rw [hd]; exact hM.1.1) (by rw [hd]; exact hM.1.2) hβ
  have e6 : J1 145 6 = (qs.length : Int) := (q1 6 (by decide)).trans hM.2.1
  have e6' : gx_u J1 147 qs.length (q : Int) 145 6 = (qs.length : Int) := by rw [gu_ne (by decide)]; exact e6
  have e40 : b_X5_apply_40 n 145 (q : Int) (hp u J1 L) = some (hp u (gx_u (gx_u J1 147 qs.length (q : Int)) 145 6 ((qs.length : Int) + 1)) L) := by
    simp (disch := omega) only [b_X5_apply_40, ↓dhi_P, ↓dhg_P_0, ↓dhq_P_0, ↓dhG_P_1, ↓dhG_P_2, ↓dhG_P_3, ↓dhg_P_4, ↓dhq_P_4, ↓dhG_P_5, ↓dhg_P_6, ↓dhq_P_6, ↓dha_147, ↓dhs_147, ↓dhl_147, Option.bind_some, ↓nm_eq, ↓sm_inl, ↓sm_inr, ↓dzo_0, ↓dzo_1, ↓drg_ok, ↓if_pos, ↓if_neg, if_pos, if_neg, if_true, if_false, Int.toNat_natCast, rg_ok, e6, e6', Int.toNat_natCast]
  refine ⟨gx_u (gx_u J1 147 qs.length (q : Int)) 145 6 ((qs.length : Int) + 1), ?_, ((f1.up (fun a z => by simp at z; simp [PUL]; omega)).wr (by decide)).wr (by decide), ⟨?_, ?_⟩, gu_at_eq rfl, ?_⟩
  · rw [← e40, ← e1]
    simp (disch := omega) only [f_X5_apply, ↓dhi_F, ↓dhG_F_0, ↓dhg_F_1, ↓dhq_F_1, ↓dhg_F_2, ↓dhq_F_2, ↓dhg_F_3, ↓dhq_F_3, ↓dhg_F_4, ↓dhq_F_4, ↓dhG_F_5, ↓dhG_F_6, ↓dhG_F_7, ↓dhG_F_8, ↓dhG_F_9, ↓dhg_F_10, ↓dhq_F_10, ↓dhG_F_11, ↓dhG_F_12, ↓dhG_F_13, ↓dhi_P, ↓dhg_P_0, ↓dhq_P_0, ↓dhG_P_1, ↓dhG_P_2, ↓dhG_P_3, ↓dhg_P_4, ↓dhq_P_4, ↓dhG_P_5, ↓dhg_P_6, ↓dhq_P_6, ↓dhi_G hgm, ↓dhG_G_0 hgm, ↓dhG_G_1 hgm, ↓dhG_G_2 hgm, ↓dhg_G_3 hgm, ↓dhq_G_3 hgm, ↓dhG_G_4 hgm, ↓dhG_G_5 hgm, ↓dhg_G_6 hgm, ↓dhq_G_6 hgm, ↓dhg_G_7 hgm, ↓dhq_G_7 hgm, ↓dhG_G_8 hgm, ↓dhG_G_9 hgm, ↓dha_G_1 hgm, ↓dhs_G_1 hgm, ↓dhl_G_1 hgm, ↓dha_G_2 hgm, ↓dhs_G_2 hgm, ↓dhl_G_2 hgm, ↓dha_G_3 hgm, ↓dhs_G_3 hgm, ↓dhl_G_3 hgm, ↓dha_G_4 hgm, ↓dhl_G_4 hgm, ↓dha_G_5 hgm, ↓dhs_G_5 hgm, ↓dhl_G_5 hgm, Option.bind_some, ↓nm_eq, ↓sm_inl, ↓sm_inr, ↓dzo_0, ↓dzo_1, ↓drg_ok, ↓if_pos, ↓if_neg, if_pos, if_neg, if_true, if_false, Int.toNat_natCast, rg_ok, ↓bnd X3_grammar, ↓bnd el]
  · rw [gu_at_ne (by decide), gu_ne (by decide)]; exact e4
  · exact AX_fr hA (fun i _ => by rw [gu_ne (by decide), gu_ne (by decide)])
  · have hq1 : AX nJx J1 147 qs := AX_fr hM.2.2 (fun i _ => by rw [f1 147 (by decide)])
    exact AX_fr (AX_push (c := nJx) (x := q) hq1) (fun i _ => by rw [gu_ne (by decide)]; rfl)
theorem X5_applyN {J : Nat → Nat → Int} (hn : 1000000000000000000000000000000 ≤ n) : f_X5_apply n 145 (-1) (hp u J L) = some (hp u J L) := by
  have hgm := gU_mem u
  have el := X4_lengthM (u := u) (I := J) (L := L) (v := gU u)
  obtain ⟨m, hm⟩ : ∃ m, n = m + 1 := ⟨n - 1, by omega⟩
  have e14 : l_X5_apply_14 n n 145 (-1) (0 - 1) (hp u J L) = some (hp u J L) := by
    conv => lhs; arg 2; rw [hm]
    simp (disch := omega) only [l_X5_apply_14, b_X5_apply_14, b_X5_apply_40, Option.bind_some, ↓nm_eq, ↓sm_inl, ↓sm_inr, ↓dzo_0, ↓dzo_1, ↓drg_ok, ↓if_pos, ↓if_neg, if_pos, if_neg, if_true, if_false, Int.toNat_natCast, rg_ok]
  rw [← e14]
  simp (disch := omega) only [f_X5_apply, ↓dhi_F, ↓dhG_F_0, ↓dhg_F_1, ↓dhq_F_1, ↓dhg_F_2, ↓dhq_F_2, ↓dhg_F_3, ↓dhq_F_3, ↓dhg_F_4, ↓dhq_F_4, ↓dhG_F_5, ↓dhG_F_6, ↓dhG_F_7, ↓dhG_F_8, ↓dhG_F_9, ↓dhg_F_10, ↓dhq_F_10, ↓dhG_F_11, ↓dhG_F_12, ↓dhG_F_13, ↓dhi_P, ↓dhg_P_0, ↓dhq_P_0, ↓dhG_P_1, ↓dhG_P_2, ↓dhG_P_3, ↓dhg_P_4, ↓dhq_P_4, ↓dhG_P_5, ↓dhg_P_6, ↓dhq_P_6, ↓dhi_G hgm, ↓dhG_G_0 hgm, ↓dhG_G_1 hgm, ↓dhG_G_2 hgm, ↓dhg_G_3 hgm, ↓dhq_G_3 hgm, ↓dhG_G_4 hgm, ↓dhG_G_5 hgm, ↓dhg_G_6 hgm, ↓dhq_G_6 hgm, ↓dhg_G_7 hgm, ↓dhq_G_7 hgm, ↓dhG_G_8 hgm, ↓dhG_G_9 hgm, ↓dha_G_1 hgm, ↓dhs_G_1 hgm, ↓dhl_G_1 hgm, ↓dha_G_2 hgm, ↓dhs_G_2 hgm, ↓dhl_G_2 hgm, ↓dha_G_3 hgm, ↓dhs_G_3 hgm, ↓dhl_G_3 hgm, ↓dha_G_4 hgm, ↓dhl_G_4 hgm, ↓dha_G_5 hgm, ↓dhs_G_5 hgm, ↓dhl_G_5 hgm, Option.bind_some, ↓nm_eq, ↓sm_inl, ↓sm_inr, ↓dzo_0, ↓dzo_1, ↓drg_ok, ↓if_pos, ↓if_neg, if_pos, if_neg, if_true, if_false, Int.toNat_natCast, rg_ok, ↓bnd X3_grammar, ↓bnd el]
/-- the parts of one production -/
theorem X5_parts (hn : 1000000000000000000000000000000 ≤ n) {J0 : Nat → Nat → Int} (h : CTB u g 0 J0 L) {q m T : Nat} (hq : q < Gn g) (hm : m < 300) {β W : List Nat} (r20 : Nat → Int → gi_H → Option (Int × gi_H)) :
    zLP (Gl g q) (fun f k (s : Nat × (Nat → Nat → Int) × List Nat × List Nat) => l_X5_worthOfTree_38 n r20 f 145 (m : Int) (q : Int) (s.1 : Int) (k : Int) (hp u s.2.1 L))
      (fun k s => Fr [145, 146] J0 s.2.1 ∧ (∀ k, k ≠ 4 → s.2.1 145 k = J0 145 k) ∧ s.2.1 145 4 = (s.2.2.2.length : Int) ∧ AX nJx s.2.1 146 s.2.2.2 ∧ con ((rh g q).drop k ++ β) s.2.2.1 s.2.2.2 ∧ s.1 + (vC ((rh g q).drop k) k s.2.2.2).1 = T ∧ (vC ((rh g q).drop k) k s.2.2.2).2 = W ∧ s.1 ≤ 30 + 5045 * k ∧ s.2.2.2.length ≤ 1500)
      (fun res => ∃ J, res = r20 145 ((m : Int) + -1) (hp u J L) ∧ Fr [145, 146] J0 J ∧ (∀ k, k ≠ 4 → J 145 k = J0 145 k) ∧ J 145 4 = ((((T % 1009) :: W).length : Nat) : Int) ∧ AX nJx J 146 ((T % 1009) :: W)) := by
  have hg := h.1.gr
  have h24 := hg.1
  have h5 := hg.2.2.2.1 q
  have hgm := gU_mem u
  refine zlp ?_ ?_
  · rintro f k ⟨acc, J, V, V'⟩ hk ⟨f1, q1, e4, hA, hc, hT, hW, hb, hl⟩
    dsimp only at f1 q1 e4 hA hc hT hW hb hl ⊢
    right
    have hC := h.ownp (f1.up (fun a z => by simp at z; simp [PUL]; omega))
    have hw := hC.1.1.1
    have hcg := hC.1.1.2
    have el := X4_length (u := u) (L := L) hgm hw (p := q) (by omega)
    rw [hcg] at el
    have es := X4_symbol (u := u) (L := L) hgm hw (p := q) (k := k) (by rw [hcg]; omega)
    rw [hcg] at es
    have hsr := hg.2.2.2.2.2 q k hk
    have ek : (k : Int) + 1 = ((k + 1 : Nat) : Int) := rfl
    rw [rh_drop hk] at hc hT hW
    obtain ⟨v, V1, h1, hv, h2⟩ := hc
    rcases h2 with ⟨hs, hv2, h3⟩ | ⟨hs, V2, h3, h4⟩
    · have et := X11_isT1 (Gs g q k) hs (hp u J L)
      have e2 : vC (Gs g q k :: (rh g q).drop (k + 1)) k V' = ((k + 1) * (Gs g q k + 1) + (vC ((rh g q).drop (k + 1)) (k + 1) V').1, (vC ((rh g q).drop (k + 1)) (k + 1) V').2) := by rw [vC.eq_def]; dsimp only; rw [if_pos hs]
      rw [e2] at hT hW
      have hbd : (k + 1) * (Gs g q k + 1) ≤ 5 * 8 := Nat.mul_le_mul (by omega) (by omega)
      refine ⟨(acc + (k + 1) * (Gs g q k + 1), J, V1, V'), ?_, f1, q1, e4, hA, h3, by dsimp only at hT ⊢; omega, hW, by dsimp only; omega, hl⟩
      have es1 : (Gs g q k : Int) + 1 = ((Gs g q k + 1 : Nat) : Int) := rfl
      have em := ws_cast k (Gs g q k + 1)
      have ea : (acc : Int) + (((k + 1) * (Gs g q k + 1) : Nat) : Int) = ((acc + (k + 1) * (Gs g q k + 1) : Nat) : Int) := rfl
      simp (disch := omega) only [l_X5_worthOfTree_38, b_X5_worthOfTree_38, b_X5_worthOfTree_88, ↓dhi_F, ↓dhG_F_0, ↓dhg_F_1, ↓dhq_F_1, ↓dhg_F_2, ↓dhq_F_2, ↓dhg_F_3, ↓dhq_F_3, ↓dhg_F_4, ↓dhq_F_4, ↓dhG_F_5, ↓dhG_F_6, ↓dhG_F_7, ↓dhG_F_8, ↓dhG_F_9, ↓dhg_F_10, ↓dhq_F_10, ↓dhG_F_11, ↓dhG_F_12, ↓dhG_F_13, ↓dhi_P, ↓dhg_P_0, ↓dhq_P_0, ↓dhG_P_1, ↓dhG_P_2, ↓dhG_P_3, ↓dhg_P_4, ↓dhq_P_4, ↓dhG_P_5, ↓dhg_P_6, ↓dhq_P_6, ↓dhi_G hgm, ↓dhG_G_0 hgm, ↓dhG_G_1 hgm, ↓dhG_G_2 hgm, ↓dhg_G_3 hgm, ↓dhq_G_3 hgm, ↓dhG_G_4 hgm, ↓dhG_G_5 hgm, ↓dhg_G_6 hgm, ↓dhq_G_6 hgm, ↓dhg_G_7 hgm, ↓dhq_G_7 hgm, ↓dhG_G_8 hgm, ↓dhG_G_9 hgm, ↓dha_G_1 hgm, ↓dhs_G_1 hgm, ↓dhl_G_1 hgm, ↓dha_G_2 hgm, ↓dhs_G_2 hgm, ↓dhl_G_2 hgm, ↓dha_G_3 hgm, ↓dhs_G_3 hgm, ↓dhl_G_3 hgm, ↓dha_G_4 hgm, ↓dhl_G_4 hgm, ↓dha_G_5 hgm, ↓dhs_G_5 hgm, ↓dhl_G_5 hgm, Option.bind_some, ↓nm_eq, ↓sm_inl, ↓sm_inr, ↓dzo_0, ↓dzo_1, ↓drg_ok, ↓if_pos, ↓if_neg, if_pos, if_neg, if_true, if_false, Int.toNat_natCast, rg_ok, ↓bnd X3_grammar, ↓bnd el, ↓bnd es, ↓bnd et, es1, em, ws_cast2, ea, ek]
    · have et := X11_isT0 (Gs g q k) (by omega) (by omega) (hp u J L)
      have e2 : vC (Gs g q k :: (rh g q).drop (k + 1)) k V' = ((k + 1) * v + (vC ((rh g q).drop (k + 1)) (k + 1) V2).1, (vC ((rh g q).drop (k + 1)) (k + 1) V2).2) := by rw [h3, vC.eq_def]; dsimp only; rw [if_neg hs]
      rw [e2] at hT hW
      rw [h3] at e4 hA hl
      have hbd : (k + 1) * v ≤ 5 * 1009 := Nat.mul_le_mul (by omega) (by omega)
      have hl2 : V2.length + 1 ≤ 1500 := hl
      have epo := X5_pop (u := u) (L := L) (J := J) (h := V2.length) e4 (by omega)
      have hAv : J 146 V2.length = (v : Int) := hA.1
      rw [hAv] at epo
      refine ⟨(acc + (k + 1) * v, gx_u J 145 4 (V2.length : Int), V1, V2), ?_, f1.wr (by simp), fun j hj => by dsimp only; rw [gu_at_ne hj]; exact q1 j hj, by dsimp only; rw [gu_at_eq rfl], by dsimp only; exact AX_fr hA.2 (fun i _ => by rw [gu_ne (by decide)]), h4, by dsimp only at hT ⊢; omega, hW, by dsimp only; omega, by dsimp only; omega⟩
      have em := ws_cast k v
      have ea : (acc : Int) + (((k + 1) * v : Nat) : Int) = ((acc + (k + 1) * v : Nat) : Int) := rfl
      simp (disch := omega) only [l_X5_worthOfTree_38, b_X5_worthOfTree_38, b_X5_worthOfTree_88, ↓dhi_F, ↓dhG_F_0, ↓dhg_F_1, ↓dhq_F_1, ↓dhg_F_2, ↓dhq_F_2, ↓dhg_F_3, ↓dhq_F_3, ↓dhg_F_4, ↓dhq_F_4, ↓dhG_F_5, ↓dhG_F_6, ↓dhG_F_7, ↓dhG_F_8, ↓dhG_F_9, ↓dhg_F_10, ↓dhq_F_10, ↓dhG_F_11, ↓dhG_F_12, ↓dhG_F_13, ↓dhi_P, ↓dhg_P_0, ↓dhq_P_0, ↓dhG_P_1, ↓dhG_P_2, ↓dhG_P_3, ↓dhg_P_4, ↓dhq_P_4, ↓dhG_P_5, ↓dhg_P_6, ↓dhq_P_6, ↓dhi_G hgm, ↓dhG_G_0 hgm, ↓dhG_G_1 hgm, ↓dhG_G_2 hgm, ↓dhg_G_3 hgm, ↓dhq_G_3 hgm, ↓dhG_G_4 hgm, ↓dhG_G_5 hgm, ↓dhg_G_6 hgm, ↓dhq_G_6 hgm, ↓dhg_G_7 hgm, ↓dhq_G_7 hgm, ↓dhG_G_8 hgm, ↓dhG_G_9 hgm, ↓dha_G_1 hgm, ↓dhs_G_1 hgm, ↓dhl_G_1 hgm, ↓dha_G_2 hgm, ↓dhs_G_2 hgm, ↓dhl_G_2 hgm, ↓dha_G_3 hgm, ↓dhs_G_3 hgm, ↓dhl_G_3 hgm, ↓dha_G_4 hgm, ↓dhl_G_4 hgm, ↓dha_G_5 hgm, ↓dhs_G_5 hgm, ↓dhl_G_5 hgm, Option.bind_some, ↓nm_eq, ↓sm_inl, ↓sm_inr, ↓dzo_0, ↓dzo_1, ↓drg_ok, ↓if_pos, ↓if_neg, if_pos, if_neg, if_true, if_false, Int.toNat_natCast, rg_ok, ↓bnd X3_grammar, ↓bnd el, ↓bnd es, ↓bnd et, ↓bnd epo, em, ws_cast2, ea, ek]
  · rintro f ⟨acc, J, V, V'⟩ ⟨f1, q1, e4, hA, hc, hT, hW, hb, hl⟩
    dsimp only at f1 q1 e4 hA hc hT hW hb hl ⊢
    have hC := h.ownp (f1.up (fun a z => by simp at z; simp [PUL]; omega))
    have hw := hC.1.1.1
    have hcg := hC.1.1.2
    have el := X4_length (u := u) (L := L) hgm hw (p := q) (by omega)
    rw [hcg] at el
    have hd : (rh g q).drop (Gl g q) = [] := by
      apply List.eq_nil_of_length_eq_zero
      rw [List.length_drop, rh_len]; omega
    rw [hd] at hT hW
    have hT' : acc = T := hT
    have hW' : V' = W := hW
    subst hT'; subst hW'
    have epu := X5_push (u := u) (L := L) (J := J) (h := V'.length) e4 (by omega) ((acc % 1009 : Nat) : Int)
    have hdg : gi_dg (acc : Int) 1009 = some () := dg_ok (by omega) (by omega) (by decide) (by decide)
    have emd : (acc : Int) % 1009 = ((acc % 1009 : Nat) : Int) := by omega
    refine ⟨gx_u (gx_u J 146 V'.length ((acc % 1009 : Nat) : Int)) 145 4 ((V'.length : Int) + 1), ?_, (f1.wr (by simp)).wr (by simp), fun j hj => by rw [gu_at_ne hj, gu_ne (by decide)]; exact q1 j hj, gu_at_eq rfl, AX_fr (AX_push (c := nJx) (x := acc % 1009) hA) (fun i _ => by rw [gu_ne (by decide)]; rfl)⟩
    simp (disch := omega) only [l_X5_worthOfTree_38, b_X5_worthOfTree_38, b_X5_worthOfTree_106, ↓dhi_F, ↓dhG_F_0, ↓dhg_F_1, ↓dhq_F_1, ↓dhg_F_2, ↓dhq_F_2, ↓dhg_F_3, ↓dhq_F_3, ↓dhg_F_4, ↓dhq_F_4, ↓dhG_F_5, ↓dhG_F_6, ↓dhG_F_7, ↓dhG_F_8, ↓dhG_F_9, ↓dhg_F_10, ↓dhq_F_10, ↓dhG_F_11, ↓dhG_F_12, ↓dhG_F_13, ↓dhi_P, ↓dhg_P_0, ↓dhq_P_0, ↓dhG_P_1, ↓dhG_P_2, ↓dhG_P_3, ↓dhg_P_4, ↓dhq_P_4, ↓dhG_P_5, ↓dhg_P_6, ↓dhq_P_6, ↓dhi_G hgm, ↓dhG_G_0 hgm, ↓dhG_G_1 hgm, ↓dhG_G_2 hgm, ↓dhg_G_3 hgm, ↓dhq_G_3 hgm, ↓dhG_G_4 hgm, ↓dhG_G_5 hgm, ↓dhg_G_6 hgm, ↓dhq_G_6 hgm, ↓dhg_G_7 hgm, ↓dhq_G_7 hgm, ↓dhG_G_8 hgm, ↓dhG_G_9 hgm, ↓dha_G_1 hgm, ↓dhs_G_1 hgm, ↓dhl_G_1 hgm, ↓dha_G_2 hgm, ↓dhs_G_2 hgm, ↓dhl_G_2 hgm, ↓dha_G_3 hgm, ↓dhs_G_3 hgm, ↓dhl_G_3 hgm, ↓dha_G_4 hgm, ↓dhl_G_4 hgm, ↓dha_G_5 hgm, ↓dhs_G_5 hgm, ↓dhl_G_5 hgm, Option.bind_some, ↓nm_eq, ↓sm_inl, ↓sm_inr, ↓dzo_0, ↓dzo_1, ↓drg_ok, ↓if_pos, ↓if_neg, if_pos, if_neg, if_true, if_false, Int.toNat_natCast, rg_ok, ↓bnd X3_grammar, ↓bnd el, ↓bnd hdg, emd, ↓bnd epu]
theorem X5_tree20 (hn : 1000000000000000000000000000000 ≤ n) {J0 : Nat → Nat → Int} (h : CTB u g 0 J0 L) :
    ∀ (es : List (Bool × Nat)) (f : Nat) (J : Nat → Nat → Int) (β V V' : List Nat) (v : Nat), (prs es).length < f → pC g es β → con β V V' → gC g (prs es) V' = [v] → Fr [145, 146] J0 J → (∀ k, k ≠ 4 → J 145 k = J0 145 k) → AX nJx J0 147 (prs es) → J 145 4 = (V'.length : Int) → AX nJx J 146 V' → V'.length + (prs es).length ≤ 1500 → es.length ≤ 300 →
    ∃ J', l_X5_worthOfTree_20 n f 145 (((prs es).length : Int) - 1) (hp u J L) = some ((v : Int), hp u J' L) ∧ Fr [145, 146] J0 J' ∧ (∀ k, k ≠ 4 → J' 145 k = J0 145 k) := by
  have hg := h.1.gr
  have h24 := hg.1
  intro es
  induction es with
  | nil =>
    intro f J β V V' v hf hpc hc hv f1 q1 _ e4 hA hl _
    obtain ⟨f', rfl⟩ : ∃ f', f = f' + 1 := ⟨f - 1, by omega⟩
    have hv' : V' = [v] := hv
    subst hv'
    have epo := X5_pop (u := u) (L := L) (J := J) (h := 0) e4 (by omega)
    have hAv : J 146 0 = (v : Int) := hA.1
    rw [hAv] at epo
    refine ⟨gx_u J 145 4 0, ?_, f1.wr (by simp), fun j hj => by rw [gu_at_ne hj]; exact q1 j hj⟩
    have e0 : (((prs []).length : Nat) : Int) - 1 = -1 := rfl
    have e00 : ((0 : Nat) : Int) = 0 := rfl
    rw [e00] at epo
    rw [e0]
    simp (disch := omega) only [l_X5_worthOfTree_20, b_X5_worthOfTree_20, b_X5_worthOfTree_121, ↓dhi_P, ↓dhg_P_0, ↓dhq_P_0, ↓dhG_P_1, ↓dhG_P_2, ↓dhG_P_3, ↓dhg_P_4, ↓dhq_P_4, ↓dhG_P_5, ↓dhg_P_6, ↓dhq_P_6, Option.bind_some, ↓nm_eq, ↓sm_inl, ↓sm_inr, ↓dzo_0, ↓dzo_1, ↓drg_ok, ↓if_pos, ↓if_neg, if_pos, if_neg, if_true, if_false, Int.toNat_natCast, rg_ok, ↓bnd epo]
  | cons e es ih =>
    intro f J β V V' v hf hpc hc hv f1 q1 h147 e4 hA hl hes
    have hes' : es.length + 1 ≤ 300 := hes
    rcases hpc with ⟨e1, e2, hpc⟩ | ⟨e1, e2, β', h1, h2⟩
    · have a2 : prs (e :: es) = prs es := by rw [prs, if_neg (by rw [e1]; decide)]
      rw [a2] at hf hv h147 hl ⊢
      exact ih f J (e.2 :: β) ((e.2 + 1) :: V) V' v hf hpc ⟨e.2 + 1, V, rfl, by omega, Or.inl ⟨e2, rfl, hc⟩⟩ hv f1 q1 h147 e4 hA hl (by omega)
    · have a2 : prs (e :: es) = e.2 :: prs es := by rw [prs, if_pos e1]
      rw [a2] at hf hv h147 hl ⊢
      obtain ⟨f', rfl⟩ : ∃ f', f = f' + 1 := ⟨f - 1, by omega⟩
      have hf' : (prs es).length + 1 < f' + 1 := hf
      have hl' : V'.length + ((prs es).length + 1) ≤ 1500 := hl
      have hlp := prs_len es
      rw [h1] at hc
      have hs := con_sum (rh g e.2) 0 hc
      rw [rh_len] at hs
      have hcl := con_len hc
      have hvr := vR_le (Gl g e.2) 0 V hcl.2.2.1 (by have := hg.2.2.2.1 e.2; omega)
      have e7 : J 147 (prs es).length = (e.2 : Int) := by rw [f1 147 (by decide)]; exact h147.1
      have h5 := hg.2.2.2.1 e.2
      -- what is left on the stack
      have hWl : (vC (rh g e.2) 0 V').2.length ≤ V'.length := by
        have key : ∀ (l : List Nat) (i : Nat) (X : List Nat), (vC l i X).2.length ≤ X.length := by
          intro l
          induction l with
          | nil => intro i X; exact Nat.le_refl _
          | cons s l ihl =>
            intro i X
            rw [vC.eq_def]
            dsimp only
            split
            · exact ihl (i + 1) X
            · cases X with
              | nil => exact Nat.le_refl _
              | cons x X => exact Nat.le_trans (ihl (i + 1) X) (Nat.le_succ _)
        exact key _ _ _
      obtain ⟨J1, i1, i2, i3, i4, i5⟩ := X5_parts (u := u) (L := L) hn h (q := e.2) (m := (prs es).length) (T := e.2 + 1 + (vC (rh g e.2) 0 V').1) e2 (by omega) (β := β') (W := (vC (rh g e.2) 0 V').2) (l_X5_worthOfTree_20 n f') (Gl g e.2) n 0 (e.2 + 1, J, V, V') (by omega) (by omega) ⟨f1, q1, e4, hA, hc, rfl, rfl, by dsimp only; omega, by dsimp only; omega⟩
      dsimp only at i1
      have hv' : gC g (prs es) (((e.2 + 1 + (vC (rh g e.2) 0 V').1) % 1009) :: (vC (rh g e.2) 0 V').2) = [v] := hv
      obtain ⟨J', j1, j2, j3⟩ := ih f' J1 _ (((e.2 + 1 + (vC (rh g e.2) 0 V').1) % 1009) :: (vR (Gl g e.2) 0 V).2) _ v (by omega) h2 ⟨_, _, rfl, Nat.mod_lt _ (by decide), Or.inr ⟨by omega, _, rfl, hs.2⟩⟩ hv' i2 i3 h147.2 i4 i5 (by simp only [List.length_cons]; omega) (by omega)
      refine ⟨J', ?_, j2, j3⟩
      have ek : ((prs es).length : Int) + -1 = ((prs es).length : Int) - 1 := by omega
      rw [ek, j1] at i1
      rw [← i1]
      have e0 : (((e.2 :: prs es).length : Nat) : Int) - 1 = ((prs es).length : Int) := by simp only [List.length_cons]; omega
      have ez : ((0 : Nat) : Int) = 0 := rfl
      have eq1 : (e.2 : Int) + 1 = ((e.2 + 1 : Nat) : Int) := rfl
      rw [e0, ez]
      simp (disch := omega) only [l_X5_worthOfTree_20, b_X5_worthOfTree_20, ↓dhi_P, ↓dhg_P_0, ↓dhq_P_0, ↓dhG_P_1, ↓dhG_P_2, ↓dhG_P_3, ↓dhg_P_4, ↓dhq_P_4, ↓dhG_P_5, ↓dhg_P_6, ↓dhq_P_6, ↓dha_147, ↓dhs_147, ↓dhl_147, Option.bind_some, ↓nm_eq, ↓sm_inl, ↓sm_inr, ↓dzo_0, ↓dzo_1, ↓drg_ok, ↓if_pos, ↓if_neg, if_pos, if_neg, if_true, if_false, Int.toNat_natCast, rg_ok, Int.toNat_natCast, e7, eq1]
theorem X5_worthOfTree (hn : 1000000000000000000000000000000 ≤ n) {J : Nat → Nat → Int} (h : CTB u g 0 J L) {es : List (Bool × Nat)} {v : Nat} (hpc : pC g es []) (hv : gC g (prs es) [] = [v]) (h6 : J 145 6 = ((prs es).length : Int)) (h147 : AX nJx J 147 (prs es)) (hes : es.length ≤ 300) :
    ∃ J', f_X5_worthOfTree n 145 (hp u J L) = some ((v : Int), hp u J' L) ∧ Fr PUL J J' := by
  have hl := prs_len es
  obtain ⟨J', e, f, -⟩ := X5_tree20 (u := u) hn h es n (gx_u J 145 4 0) [] [] [] v (by omega) hpc ⟨rfl, rfl⟩ hv (Fr.rf.wr (by simp)) (fun k hk => gu_at_ne hk) h147 (gu_at_eq rfl) trivial (by simp only [List.length_nil]; omega) hes
  refine ⟨J', ?_, f.up (fun a z => by simp at z; simp [PUL]; omega)⟩
  have g6 : gx_u J 145 4 0 145 6 = ((prs es).length : Int) := by rw [gu_at_ne (by decide)]; exact h6
  have emin : gi_min ((prs es).length : Int) 300 = ((prs es).length : Int) := by unfold gi_min; split <;> omega
  rw [← e]
  simp (disch := omega) only [f_X5_worthOfTree, ↓dhi_P, ↓dhg_P_0, ↓dhq_P_0, ↓dhG_P_1, ↓dhG_P_2, ↓dhG_P_3, ↓dhg_P_4, ↓dhq_P_4, ↓dhG_P_5, ↓dhg_P_6, ↓dhq_P_6, ↓dha_147, ↓dhs_147, ↓dhl_147, Option.bind_some, ↓nm_eq, ↓sm_inl, ↓sm_inr, ↓dzo_0, ↓dzo_1, ↓drg_ok, ↓if_pos, ↓if_neg, if_pos, if_neg, if_true, if_false, Int.toNat_natCast, rg_ok, g6, emin]
end PR_
