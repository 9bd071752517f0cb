/-! ===== the class: a table of states runs ===== -/
/-- the class's stacks hold these -/
def CRn (v : Nat) (J : Nat → Nat → Int) (st wo : Nat → Nat) (t : Nat) : Prop := J v 12 = (t : Int) + 1 ∧ ∀ i, i ≤ t → J (v + 1) i = (st i : Int) ∧ J (v + 2) i = (wo i : Int)
def CSE (w : Nat → Nat) (J : Nat → Nat → Int) : Prop := ∀ i, i < 13 → J 63 i = (w i : Int)
theorem tb_ne3 {kd : Nat} (hk : 1 ≤ kd ∧ kd ≤ 3) : (∀ a, a ∈ CKL → a ∉ [tb kd, tb kd + 1, tb kd + 2]) ∧ (61 ∉ [tb kd, tb kd + 1, tb kd + 2] ∧ 62 ∉ [tb kd, tb kd + 1, tb kd + 2] ∧ 63 ∉ [tb kd, tb kd + 1, tb kd + 2]) ∧ ∀ a, a ∈ [148, 151, 154] → a ≠ tb kd → a ∉ [tb kd, tb kd + 1, tb kd + 2] := by
  have : kd = 1 ∨ kd = 2 ∨ kd = 3 := by omega
  rcases this with rfl | rfl | rfl <;> decide
section CN_
variable {u : Nat} {n : Nat} {L : Nat → Nat → Int} {g : GT}
theorem CTB.own3 {kd : Nat} {J J' L : Nat → Nat → Int} (h : CTB u g kd J L) (hk : 1 ≤ kd ∧ kd ≤ 3) (f : Fr [tb kd, tb kd + 1, tb kd + 2] J J') (q2 : J' (tb kd) 2 = J (tb kd) 2) : CTB u g kd J' L := by
  refine h.fr f (tb_ne3 hk).1 (fun a ha => ?_) rfl
  by_cases c : a = tb kd
  · rw [c]; exact q2
  · rw [f a ((tb_ne3 hk).2.2 a ha c)]
theorem X9_push {v : Nat} (hv : v ∈ [148, 151, 154]) {J : Nat → Nat → Int} {h : Nat} (e : J v 12 = (h : Int)) (hh : h < 301) (s x : Int) : f_X9_push v s x (hp u J L) = some (hp u (gx_u (gx_u (gx_u J (v + 1) h s) (v + 2) h x) v 12 ((h : Int) + 1)) L) := by
  have e1 : ∀ y, gx_u J (v + 1) h y v = J v := fun y => gu_ne (by omega)
  have e2 : ∀ y z, gx_u (gx_u J (v + 1) h y) (v + 2) h z v = J v := fun y z => by rw [gu_ne (by omega), e1]
  simp (disch := omega) only [f_X9_push, ↓dhi_S hv, ↓dhg_S_0 hv, ↓dhq_S_0 hv, ↓dhG_S_1 hv, ↓dhg_S_2 hv, ↓dhq_S_2 hv, ↓dhG_S_3 hv, ↓dhG_S_4 hv, ↓dhG_S_5 hv, ↓dhg_S_6 hv, ↓dhq_S_6 hv, ↓dhg_S_7 hv, ↓dhq_S_7 hv, ↓dhg_S_8 hv, ↓dhq_S_8 hv, ↓dhg_S_9 hv, ↓dhq_S_9 hv, ↓dhG_S_10 hv, ↓dhG_S_11 hv, ↓dhg_S_12 hv, ↓dhq_S_12 hv, ↓dha_S_1 hv, ↓dhs_S_1 hv, ↓dhl_S_1 hv, ↓dha_S_2 hv, ↓dhs_S_2 hv, ↓dhl_S_2 hv, Option.bind_some, ↓nm_eq, ↓sm_inl, ↓sm_inr, ↓dzo_0, ↓dzo_1, ↓drg_ok, ↓if_pos, ↓if_neg, if_pos, if_neg, if_true, if_false, Int.toNat_natCast, rg_ok, e, e1, e2]
theorem X9_state {v : Nat} (hv : v ∈ [148, 151, 154]) {J : Nat → Nat → Int} {st wo : Nat → Nat} {t : Nat} (h : CRn v J st wo t) (ht : t ≤ 300) : f_X9_state v (hp u J L) = some (st t : Int) := by
  have e := h.1
  have e1 := (h.2 t (Nat.le_refl _)).1
  have ei : ((t : Int) + 1 - 1).toNat = t := by omega
  simp (disch := omega) only [f_X9_state, ↓dhi_S hv, ↓dhg_S_0 hv, ↓dhq_S_0 hv, ↓dhG_S_1 hv, ↓dhg_S_2 hv, ↓dhq_S_2 hv, ↓dhG_S_3 hv, ↓dhG_S_4 hv, ↓dhG_S_5 hv, ↓dhg_S_6 hv, ↓dhq_S_6 hv, ↓dhg_S_7 hv, ↓dhq_S_7 hv, ↓dhg_S_8 hv, ↓dhq_S_8 hv, ↓dhg_S_9 hv, ↓dhq_S_9 hv, ↓dhG_S_10 hv, ↓dhG_S_11 hv, ↓dhg_S_12 hv, ↓dhq_S_12 hv, ↓dha_S_1 hv, ↓dhs_S_1 hv, ↓dhl_S_1 hv, ↓dha_S_2 hv, ↓dhs_S_2 hv, ↓dhl_S_2 hv, Option.bind_some, ↓nm_eq, ↓sm_inl, ↓sm_inr, ↓dzo_0, ↓dzo_1, ↓drg_ok, ↓if_pos, ↓if_neg, if_pos, if_neg, if_true, if_false, Int.toNat_natCast, rg_ok, e, ei, e1]
theorem X9_worthOfTop {v : Nat} (hv : v ∈ [148, 151, 154]) {J : Nat → Nat → Int} {t x : Nat} (e : J v 12 = (t : Int) + 1) (e1 : J (v + 2) t = (x : Int)) (ht : t ≤ 300) : f_X9_worthOfTop v (hp u J L) = some (x : Int) := by
  have ei : ((t : Int) + 1 - 1).toNat = t := by omega
  simp (disch := omega) only [f_X9_worthOfTop, ↓dhi_S hv, ↓dhg_S_0 hv, ↓dhq_S_0 hv, ↓dhG_S_1 hv, ↓dhg_S_2 hv, ↓dhq_S_2 hv, ↓dhG_S_3 hv, ↓dhG_S_4 hv, ↓dhG_S_5 hv, ↓dhg_S_6 hv, ↓dhq_S_6 hv, ↓dhg_S_7 hv, ↓dhq_S_7 hv, ↓dhg_S_8 hv, ↓dhq_S_8 hv, ↓dhg_S_9 hv, ↓dhq_S_9 hv, ↓dhG_S_10 hv, ↓dhG_S_11 hv, ↓dhg_S_12 hv, ↓dhq_S_12 hv, ↓dha_S_1 hv, ↓dhs_S_1 hv, ↓dhl_S_1 hv, ↓dha_S_2 hv, ↓dhs_S_2 hv, ↓dhl_S_2 hv, Option.bind_some, ↓nm_eq, ↓sm_inl, ↓sm_inr, ↓dzo_0, ↓dzo_1, ↓drg_ok, ↓if_pos, ↓if_neg, if_pos, if_neg, if_true, if_false, Int.toNat_natCast, rg_ok, e, ei, e1]
theorem X0_move {kd : Nat} {J : Nat → Nat → Int} (h : CTB u g kd J L) (hk : 1 ≤ kd ∧ kd ≤ 3) (hb : Sb (zS g (kb kd)) = false) {t X : Nat} (ht : t < Sn (zS g (kb kd))) (hX : X < 8 ∨ (16 ≤ X ∧ X < 32)) : f_X0_move (va (kb kd)) (t : Int) (X : Int) (hp u J L) = some (Sm (zS g (kb kd)) t (zix X)) := by
  have hg := h.1.gr
  have h80 := (zS_n (b := kb kd) hg).2.1
  obtain ⟨-, -, -, hmov⟩ := ctb_row h hk.1 hb
  have hmv := hmov t X ht (by omega)
  rw [if_pos (by omega)] at hmv
  rw [← hmv]
  have hv2 := va_m (kb kd)
  have ei : ((t : Int) * 32 + (X : Int)).toNat = 32 * t + X := by omega
  simp (disch := omega) only [f_X0_move, b_X0_move_25, ↓dhi_A hv2, ↓dhG_A_0 hv2, ↓dhg_A_1 hv2, ↓dhq_A_1 hv2, ↓dhg_A_2 hv2, ↓dhq_A_2 hv2, ↓dhg_A_3 hv2, ↓dhq_A_3 hv2, ↓dhg_A_4 hv2, ↓dhq_A_4 hv2, ↓dhG_A_5 hv2, ↓dhG_A_6 hv2, ↓dhG_A_7 hv2, ↓dhG_A_8 hv2, ↓dhG_A_9 hv2, ↓dha_A_1 hv2, ↓dhs_A_1 hv2, ↓dhl_A_1 hv2, ↓dha_A_2 hv2, ↓dhs_A_2 hv2, ↓dhl_A_2 hv2, ↓dha_A_3 hv2, ↓dhs_A_3 hv2, ↓dhl_A_3 hv2, ↓dha_A_4 hv2, ↓dhs_A_4 hv2, ↓dhl_A_4 hv2, ↓dha_A_5 hv2, ↓dhs_A_5 hv2, ↓dhl_A_5 hv2, Option.bind_some, ↓nm_eq, ↓sm_inl, ↓sm_inr, ↓dzo_0, ↓dzo_1, ↓drg_ok, ↓if_pos, ↓if_neg, if_pos, if_neg, if_true, if_false, Int.toNat_natCast, rg_ok, ei]
/-- the parts are taken from the stack, the last one first -/
theorem X9_red24 {v : Nat} (hv : v ∈ [148, 151, 154]) {J0 : Nat → Nat → Int} {st wo : Nat → Nat} {t l q gg : Nat} (h : CRn v J0 st wo t) (ht : t ≤ 300) (hl : l ≤ t) (hl5 : l ≤ 5) (hw : ∀ i, i ≤ t → wo i < 1009) :
    ∀ (m f acc : Nat) (J : Nat → Nat → Int), m < f → m ≤ l → Fr [v] J0 J → (∀ k, k ≠ 12 → J v k = J0 v k) → J v 12 = ((t + 1 - l + m : Nat) : Int) →
    ∃ J', l_X9_reduce_24 n f v (q : Int) gg (acc : Int) ((m : Int) - 1) (hp u J L) = b_X9_reduce_57 n v (q : Int) gg ((acc + ws wo (t + 1 - l) m : Nat) : Int) (hp u J' L) ∧ Fr [v] J0 J' ∧ (∀ k, k ≠ 12 → J' v k = J0 v k) ∧ J' v 12 = ((t + 1 - l : Nat) : Int) := by
  intro m
  induction m with
  | zero =>
    intro f acc J hf _ f1 q1 e
    obtain ⟨f', rfl⟩ : ∃ f', f = f' + 1 := ⟨f - 1, by omega⟩
    refine ⟨J, ?_, f1, q1, e⟩
    have e0 : ((0 : Nat) : Int) - 1 = -1 := rfl
    rw [e0]
    simp (disch := omega) only [l_X9_reduce_24, b_X9_reduce_24, Option.bind_some, ↓nm_eq, ↓sm_inl, ↓sm_inr, ↓dzo_0, ↓dzo_1, ↓drg_ok, ↓if_pos, ↓if_neg, if_pos, if_neg, if_true, if_false, Int.toNat_natCast, rg_ok] <;> rfl
  | succ m ih =>
    intro f acc J hf hm f1 q1 e
    obtain ⟨f', rfl⟩ : ∃ f', f = f' + 1 := ⟨f - 1, by omega⟩
    have e0 : ((m + 1 : Nat) : Int) - 1 = (m : Int) := by omega
    have ew := X9_worthOfTop (u := u) (L := L) hv (J := J) (t := t + 1 - l + m) (x := wo (t + 1 - l + m)) (by rw [e]; omega) (by rw [f1 (v + 2) (by simp)]; exact (h.2 _ (by omega)).2) (by omega)
    have hwv := hw (t + 1 - l + m) (by omega)
    have em := ws_cast m (wo (t + 1 - l + m))
    have ek : (m : Int) + -1 = (m : Int) - 1 := by omega
    have ea : (acc : Int) + (((m + 1) * wo (t + 1 - l + m) : Nat) : Int) = ((acc + (m + 1) * wo (t + 1 - l + m) : Nat) : Int) := (Int.natCast_add _ _).symm
    obtain ⟨J', i1, i2, i3, i4⟩ := ih f' (acc + (m + 1) * wo (t + 1 - l + m)) (gx_u J v 12 ((t + 1 - l + m : Nat) : Int)) (by omega) (by omega) (f1.wr (by simp)) (fun k hk => by rw [gu_at_ne hk]; exact q1 k hk) (gu_at_eq rfl)
    refine ⟨J', ?_, i2, i3, i4⟩
    have e13 : J v 12 - 1 = ((t + 1 - l + m : Nat) : Int) := by rw [e]; omega
    rw [e0, ws_s, show acc + (ws wo (t + 1 - l) m + (m + 1) * wo (t + 1 - l + m)) = acc + (m + 1) * wo (t + 1 - l + m) + ws wo (t + 1 - l) m by omega, ← i1]
    simp (disch := omega) only [l_X9_reduce_24, b_X9_reduce_24, ↓dhi_S hv, ↓dhg_S_0 hv, ↓dhq_S_0 hv, ↓dhG_S_1 hv, ↓dhg_S_2 hv, ↓dhq_S_2 hv, ↓dhG_S_3 hv, ↓dhG_S_4 hv, ↓dhG_S_5 hv, ↓dhg_S_6 hv, ↓dhq_S_6 hv, ↓dhg_S_7 hv, ↓dhq_S_7 hv, ↓dhg_S_8 hv, ↓dhq_S_8 hv, ↓dhg_S_9 hv, ↓dhq_S_9 hv, ↓dhG_S_10 hv, ↓dhG_S_11 hv, ↓dhg_S_12 hv, ↓dhq_S_12 hv, ↓dha_S_1 hv, ↓dhs_S_1 hv, ↓dhl_S_1 hv, ↓dha_S_2 hv, ↓dhs_S_2 hv, ↓dhl_S_2 hv, Option.bind_some, ↓nm_eq, ↓sm_inl, ↓sm_inr, ↓dzo_0, ↓dzo_1, ↓drg_ok, ↓if_pos, ↓if_neg, if_pos, if_neg, if_true, if_false, Int.toNat_natCast, rg_ok, ↓bnd ew, em, ea, ek, e13]
theorem X9_reduce (hn : 1000000000000000000000000000000 ≤ n) {kd : Nat} {J : Nat → Nat → Int} (h : CTB u g kd J L) (hk : 1 ≤ kd ∧ kd ≤ 3) (hb : Sb (zS g (kb kd)) = false) {st wo : Nat → Nat} {t : Nat} (hI : LI g kd st wo t) (hR : CRn (tb kd) J st wo t) (ht : t < 300) {q t0 : Nat} (hq : q < Gn g) (hl : Gl g q ≤ t) (hm : Sm (zS g (kb kd)) (st (t - Gl g q)) (8 + Go g q) = (t0 : Int)) :
    ∃ J', f_X9_reduce n (tb kd) (q : Int) (hp u J L) = some (hp u J' L) ∧ Fr [tb kd, tb kd + 1, tb kd + 2] J J' ∧ J' (tb kd) 2 = J (tb kd) 2 ∧ CRn (tb kd) J' (up st (t + 1 - Gl g q) t0) (up wo (t + 1 - Gl g q) ((q + 1 + ws wo (t + 1 - Gl g q) (Gl g q)) % 1009)) (t + 1 - Gl g q) := by
  have hg := h.1.gr
  have h24 := hg.1
  have h5 := hg.2.2.2.1 q
  have ho := hg.2.2.1 q
  obtain ⟨hv, hva⟩ := tb_m hk
  have hgm := gU_mem u
  have hws := hI.wsle hg hl
  obtain ⟨J1, e1, f1, q1, e12⟩ := X9_red24 (n := n) (u := u) (L := L) hv (q := q) (gg := gU u) hR (by omega) hl h5 (fun i hi => (hI.2.1 i hi).2) (Gl g q) n (q + 1) J (by omega) (Nat.le_refl _) Fr.rf (fun _ _ => rfl) (by rw [hR.1]; omega)
  have f1' : Fr [tb kd, tb kd + 1, tb kd + 2] J J1 := f1.up (fun a z => by simp at z; simp [z])
  have hC1 : CTB u g kd J1 L := h.own3 hk f1' (q1 2 (by decide))
  have hw := hC1.1.1.1
  have hcg := hC1.1.1.2
  have hA : ∀ J, gi_is (hp u J L) (va (kb kd)) 0 = some () := fun J => hi_A (va_m (kb kd))
  have hA0 : ∀ J, f_X0_facts (va (kb kd)) (hp u J L) = some 64 := fun J => by
    simp only [f_X0_facts, hG_A_0 (va_m (kb kd)), Option.bind_some]
  have el := X4_length (u := u) (L := L) hgm h.1.1.1 (p := q) (by omega)
  rw [h.1.1.2] at el
  have eo := X4_owner (u := u) (L := L) hgm hw (p := q) (by rw [hcg]; exact hq)
  rw [hcg] at eo
  -- the state below the parts
  have est : f_X9_state (tb kd) (hp u J1 L) = some (st (t - Gl g q) : Int) :=
    X9_state (wo := wo) hv ⟨by rw [e12]; omega, fun i hi => by rw [f1 _ (by simp), f1 _ (by simp)]; exact hR.2 i (by omega)⟩ (by omega)
  have emv := X0_move (u := u) (L := L) hC1 hk hb (t := st (t - Gl g q)) (X := 16 + Go g q) (hI.2.1 _ (by omega)).1 (by omega)
  have hzx : zix (16 + Go g q) = 8 + Go g q := by unfold zix; rw [if_neg (by omega)]; omega
  rw [hzx, hm] at emv
  have e16 : (16 : Int) + (Go g q : Int) = ((16 + Go g q : Nat) : Int) := by omega
  have epu := X9_push (u := u) (L := L) hv (J := J1) (h := t + 1 - Gl g q) e12 (by omega) (t0 : Int) (((q + 1 + ws wo (t + 1 - Gl g q) (Gl g q)) % 1009 : Nat) : Int)
  have emd : ((q + 1 + ws wo (t + 1 - Gl g q) (Gl g q) : Nat) : Int) % 1009 = (((q + 1 + ws wo (t + 1 - Gl g q) (Gl g q)) % 1009 : Nat) : Int) := by omega
  have er57 : b_X9_reduce_57 n (tb kd) (q : Int) (gU u) ((q + 1 + ws wo (t + 1 - Gl g q) (Gl g q) : Nat) : Int) (hp u J1 L) = some (hp u (gx_u (gx_u (gx_u J1 (tb kd + 1) (t + 1 - Gl g q) (t0 : Int)) (tb kd + 2) (t + 1 - Gl g q) (((q + 1 + ws wo (t + 1 - Gl g q) (Gl g q)) % 1009 : Nat) : Int)) (tb kd) 12 (((t + 1 - Gl g q : Nat) : Int) + 1)) L) := by
    have hdg : gi_dg ((q + 1 + ws wo (t + 1 - Gl g q) (Gl g q) : Nat) : Int) 1009 = some () := dg_ok (by omega) (by omega) (by decide) (by decide)
    simp (disch := omega) only [b_X9_reduce_57, ↓dhi_S hv, ↓dhg_S_0 hv, ↓dhq_S_0 hv, ↓dhG_S_1 hv, ↓dhg_S_2 hv, ↓dhq_S_2 hv, ↓dhG_S_3 hv, ↓dhG_S_4 hv, ↓dhG_S_5 hv, ↓dhg_S_6 hv, ↓dhq_S_6 hv, ↓dhg_S_7 hv, ↓dhq_S_7 hv, ↓dhg_S_8 hv, ↓dhq_S_8 hv, ↓dhg_S_9 hv, ↓dhq_S_9 hv, ↓dhG_S_10 hv, ↓dhG_S_11 hv, ↓dhg_S_12 hv, ↓dhq_S_12 hv, ↓dha_S_1 hv, ↓dhs_S_1 hv, ↓dhl_S_1 hv, ↓dha_S_2 hv, ↓dhs_S_2 hv, ↓dhl_S_2 hv, ↓dhi_G hgm, ↓dhG_G_0 hgm, ↓dhG_G_1 hgm, ↓dhG_G_2 hgm, ↓dhg_G_3 hgm, ↓dhq_G_3 hgm, ↓dhG_G_4 hgm, ↓dhG_G_5 hgm, ↓dhg_G_6 hgm, ↓dhq_G_6 hgm, ↓dhg_G_7 hgm, ↓dhq_G_7 hgm, ↓dhG_G_8 hgm, ↓dhG_G_9 hgm, ↓dha_G_1 hgm, ↓dhs_G_1 hgm, ↓dhl_G_1 hgm, ↓dha_G_2 hgm, ↓dhs_G_2 hgm, ↓dhl_G_2 hgm, ↓dha_G_3 hgm, ↓dhs_G_3 hgm, ↓dhl_G_3 hgm, ↓dha_G_4 hgm, ↓dhl_G_4 hgm, ↓dha_G_5 hgm, ↓dhs_G_5 hgm, ↓dhl_G_5 hgm, Option.bind_some, ↓nm_eq, ↓sm_inl, ↓sm_inr, ↓dzo_0, ↓dzo_1, ↓drg_ok, ↓if_pos, ↓if_neg, if_pos, if_neg, if_true, if_false, Int.toNat_natCast, rg_ok, ↓bnd est, ↓bnd eo, hva, ↓bnd (hA _), e16, ↓bnd emv, ↓bnd hdg, emd, ↓bnd epu]
  refine ⟨gx_u (gx_u (gx_u J1 (tb kd + 1) (t + 1 - Gl g q) (t0 : Int)) (tb kd + 2) (t + 1 - Gl g q) (((q + 1 + ws wo (t + 1 - Gl g q) (Gl g q)) % 1009 : Nat) : Int)) (tb kd) 12 (((t + 1 - Gl g q : Nat) : Int) + 1), ?_, ((f1'.wr (by simp)).wr (by simp)).wr (by simp), by rw [gu_at_ne (by decide), gu_ne (by omega), gu_ne (by omega)]; exact q1 2 (by decide), gu_at_eq rfl, fun i hi => ?_⟩
  · rw [← er57, ← e1]
    have eq1 : (q : Int) + 1 = ((q + 1 : Nat) : Int) := by omega
    simp (disch := omega) only [f_X9_reduce, ↓dhi_F, ↓dhG_F_0, ↓dhg_F_1, ↓dhq_F_1, ↓dhg_F_2, ↓dhq_F_2, ↓dhg_F_3, ↓dhq_F_3, ↓dhg_F_4, ↓dhq_F_4, ↓dhG_F_5, ↓dhG_F_6, ↓dhG_F_7, ↓dhG_F_8, ↓dhG_F_9, ↓dhg_F_10, ↓dhq_F_10, ↓dhG_F_11, ↓dhG_F_12, ↓dhG_F_13, ↓dhi_S hv, ↓dhg_S_0 hv, ↓dhq_S_0 hv, ↓dhG_S_1 hv, ↓dhg_S_2 hv, ↓dhq_S_2 hv, ↓dhG_S_3 hv, ↓dhG_S_4 hv, ↓dhG_S_5 hv, ↓dhg_S_6 hv, ↓dhq_S_6 hv, ↓dhg_S_7 hv, ↓dhq_S_7 hv, ↓dhg_S_8 hv, ↓dhq_S_8 hv, ↓dhg_S_9 hv, ↓dhq_S_9 hv, ↓dhG_S_10 hv, ↓dhG_S_11 hv, ↓dhg_S_12 hv, ↓dhq_S_12 hv, ↓dha_S_1 hv, ↓dhs_S_1 hv, ↓dhl_S_1 hv, ↓dha_S_2 hv, ↓dhs_S_2 hv, ↓dhl_S_2 hv, ↓dhi_G hgm, ↓dhG_G_0 hgm, ↓dhG_G_1 hgm, ↓dhG_G_2 hgm, ↓dhg_G_3 hgm, ↓dhq_G_3 hgm, ↓dhG_G_4 hgm, ↓dhG_G_5 hgm, ↓dhg_G_6 hgm, ↓dhq_G_6 hgm, ↓dhg_G_7 hgm, ↓dhq_G_7 hgm, ↓dhG_G_8 hgm, ↓dhG_G_9 hgm, ↓dha_G_1 hgm, ↓dhs_G_1 hgm, ↓dhl_G_1 hgm, ↓dha_G_2 hgm, ↓dhs_G_2 hgm, ↓dhl_G_2 hgm, ↓dha_G_3 hgm, ↓dhs_G_3 hgm, ↓dhl_G_3 hgm, ↓dha_G_4 hgm, ↓dhl_G_4 hgm, ↓dha_G_5 hgm, ↓dhs_G_5 hgm, ↓dhl_G_5 hgm, Option.bind_some, ↓nm_eq, ↓sm_inl, ↓sm_inr, ↓dzo_0, ↓dzo_1, ↓drg_ok, ↓if_pos, ↓if_neg, if_pos, if_neg, if_true, if_false, Int.toNat_natCast, rg_ok, hva, ↓bnd (hA _), ↓bnd (hA0 _), ↓bnd X3_grammar, eq1, ↓bnd el]
  · rw [gu_ne (show tb kd + 1 ≠ tb kd by omega), gu_ne (show tb kd + 1 ≠ tb kd + 2 by omega), gu_ne (show tb kd + 2 ≠ tb kd by omega)]
    by_cases e : i = t + 1 - Gl g q
    · rw [gu_at_eq e, gu_at_eq e, e, up_eq, up_eq]; exact ⟨rfl, rfl⟩
    · rw [gu_at_ne e, gu_at_ne e, up_ne e, up_ne e, gu_ne (show tb kd + 2 ≠ tb kd + 1 by omega), f1 _ (by simp), f1 _ (by simp)]
      exact hR.2 i (by omega)
theorem X11_lookAt {w : Nat → Nat} {J : Nat → Nat → Int} (h : CSE w J) {i : Nat} (hi : i < 13) : f_X11_lookAt 63 (i : Int) (hp u J L) = some (w i : Int) := by
  have e := h i hi
  simp (disch := omega) only [f_X11_lookAt, ↓dha_63, ↓dhs_63, ↓dhl_63, Option.bind_some, ↓nm_eq, ↓sm_inl, ↓sm_inr, ↓dzo_0, ↓dzo_1, ↓drg_ok, ↓if_pos, ↓if_neg, if_pos, if_neg, if_true, if_false, Int.toNat_natCast, rg_ok, e]
theorem X9_runl (hn : 1000000000000000000000000000000 ≤ n) {kd : Nat} {lv sd : Nat → Int} {w : Nat → Nat} {nw : Nat} {J0 : Nat → Nat → Int} (h : CTB u g kd J0 L) (hl : CLV lv sd J0) (hs : CSE w J0) (hsw : SW w nw) (hk : 1 ≤ kd ∧ kd ≤ 3) (hb : Sb (zS g (kb kd)) = false) :
    ∀ (r f : Nat) (J : Nat → Nat → Int) (st wo : Nat → Nat) (t pl : Nat), r + 1 < f → r ≤ 300 → Fr [tb kd, tb kd + 1, tb kd + 2] J0 J → J (tb kd) 2 = J0 (tb kd) 2 → LI g kd st wo t → CRn (tb kd) J st wo t → t + r ≤ 300 → pl ≤ nw →
    ∃ J', l_X9_run_30 n f (tb kd) (pl : Int) ((300 - r : Nat) : Int) (hp u J L) = some ((lrq g kd lv sd w r st wo t pl).1, hp u J' L) ∧ Fr [tb kd, tb kd + 1, tb kd + 2] J0 J' ∧ J' (tb kd) 2 = J0 (tb kd) 2 ∧ ((lrq g kd lv sd w r st wo t pl).1 = -1 → J' (tb kd) 0 = (lrq g kd lv sd w r st wo t pl).2) := by
  have hg := h.1.gr
  have h24 := hg.1
  obtain ⟨hv, hva⟩ := tb_m hk
  have h12 := hsw.1
  have hn80 := zS_n (b := kb kd) hg
  have hA : ∀ J, gi_is (hp u J L) (va (kb kd)) 0 = some () := fun J => hi_A (va_m (kb kd))
  intro r
  induction r with
  | zero =>
    intro f J st wo t pl hf hr f1 q2 hI hR ht hpl
    obtain ⟨f', rfl⟩ : ∃ f', f = f' + 1 + 1 := ⟨f - 2, by omega⟩
    have hC := h.own3 hk f1 q2
    have hL := hl.fr (f1 61 (tb_ne3 hk).2.1.1) (f1 62 (tb_ne3 hk).2.1.2.1)
    have hS : CSE w J := fun i hi => by rw [f1 63 (tb_ne3 hk).2.1.2.2]; exact hs i hi
    have elk := X11_lookAt (u := u) (L := L) hS (i := pl) (by omega)
    have est := X9_state (u := u) (L := L) hv hR (by omega)
    obtain ⟨J1, ea, fa, qa⟩ := X9_action (u := u) (L := L) hn hC hL hk hb (t := st t) (y := w pl) (hI.2.1 t (Nat.le_refl _)).1 (hsw.le pl)
    have fa' : Fr [tb kd, tb kd + 1, tb kd + 2] J0 J1 := f1.tr (fa.up (fun a z => by simp at z; simp [z]))
    have q2' : J1 (tb kd) 2 = J0 (tb kd) 2 := (qa 2 (by decide) (by decide) (by decide) (by decide)).trans q2
    rcases zat_c (g := g) (kd := kd) (lv := lv) (sd := sd) (t := st t) (y := w pl) hg with z | z | ⟨z, -⟩ | ⟨q, z, hq, -⟩
    · rw [lrq_25 0 z]
      rw [z] at ea
      have ewt := X9_worthOfTop (u := u) (L := L) hv (J := J1) (t := t) (x := wo t) ((qa 12 (by decide) (by decide) (by decide) (by decide)).trans hR.1) (by rw [fa _ (by simp)]; exact (hR.2 t (Nat.le_refl _)).2) (by omega)
      refine ⟨gx_u J1 (tb kd) 0 (wo t : Int), ?_, fa'.wr (by simp), by rw [gu_at_ne (by decide)]; exact q2', fun _ => gu_at_eq rfl⟩
      simp (disch := omega) only [l_X9_run_30, b_X9_run_30, b_X9_run_64, f_X10_keepWorth_8, ↓dhi_S hv, ↓dhg_S_0 hv, ↓dhq_S_0 hv, ↓dhG_S_1 hv, ↓dhg_S_2 hv, ↓dhq_S_2 hv, ↓dhG_S_3 hv, ↓dhG_S_4 hv, ↓dhG_S_5 hv, ↓dhg_S_6 hv, ↓dhq_S_6 hv, ↓dhg_S_7 hv, ↓dhq_S_7 hv, ↓dhg_S_8 hv, ↓dhq_S_8 hv, ↓dhg_S_9 hv, ↓dhq_S_9 hv, ↓dhG_S_10 hv, ↓dhG_S_11 hv, ↓dhg_S_12 hv, ↓dhq_S_12 hv, ↓dha_S_1 hv, ↓dhs_S_1 hv, ↓dhl_S_1 hv, ↓dha_S_2 hv, ↓dhs_S_2 hv, ↓dhl_S_2 hv, Option.bind_some, ↓nm_eq, ↓sm_inl, ↓sm_inr, ↓dzo_0, ↓dzo_1, ↓drg_ok, ↓if_pos, ↓if_neg, if_pos, if_neg, if_true, if_false, Int.toNat_natCast, rg_ok, ↓bnd elk, ↓bnd est, ↓bnd ea, ↓bnd ewt]
    · rw [lrq_m 0 z]
      rw [z] at ea
      refine ⟨J1, ?_, fa', q2', fun y => by omega⟩
      simp (disch := omega) only [l_X9_run_30, b_X9_run_30, b_X9_run_64, ↓dhi_S hv, ↓dhg_S_0 hv, ↓dhq_S_0 hv, ↓dhG_S_1 hv, ↓dhg_S_2 hv, ↓dhq_S_2 hv, ↓dhG_S_3 hv, ↓dhG_S_4 hv, ↓dhG_S_5 hv, ↓dhg_S_6 hv, ↓dhq_S_6 hv, ↓dhg_S_7 hv, ↓dhq_S_7 hv, ↓dhg_S_8 hv, ↓dhq_S_8 hv, ↓dhg_S_9 hv, ↓dhq_S_9 hv, ↓dhG_S_10 hv, ↓dhG_S_11 hv, ↓dhg_S_12 hv, ↓dhq_S_12 hv, ↓dha_S_1 hv, ↓dhs_S_1 hv, ↓dhl_S_1 hv, ↓dha_S_2 hv, ↓dhs_S_2 hv, ↓dhl_S_2 hv, Option.bind_some, ↓nm_eq, ↓sm_inl, ↓sm_inr, ↓dzo_0, ↓dzo_1, ↓drg_ok, ↓if_pos, ↓if_neg, if_pos, if_neg, if_true, if_false, Int.toNat_natCast, rg_ok, ↓bnd elk, ↓bnd est, ↓bnd ea]
    · rw [lrq_0 (by rw [z]; decide) (by rw [z]; decide)]
      rw [z] at ea
      refine ⟨J1, ?_, fa', q2', fun y => by omega⟩
      simp (disch := omega) only [l_X9_run_30, b_X9_run_30, b_X9_run_121, b_X9_run_134, ↓dhi_S hv, ↓dhg_S_0 hv, ↓dhq_S_0 hv, ↓dhG_S_1 hv, ↓dhg_S_2 hv, ↓dhq_S_2 hv, ↓dhG_S_3 hv, ↓dhG_S_4 hv, ↓dhG_S_5 hv, ↓dhg_S_6 hv, ↓dhq_S_6 hv, ↓dhg_S_7 hv, ↓dhq_S_7 hv, ↓dhg_S_8 hv, ↓dhq_S_8 hv, ↓dhg_S_9 hv, ↓dhq_S_9 hv, ↓dhG_S_10 hv, ↓dhG_S_11 hv, ↓dhg_S_12 hv, ↓dhq_S_12 hv, ↓dha_S_1 hv, ↓dhs_S_1 hv, ↓dhl_S_1 hv, ↓dha_S_2 hv, ↓dhs_S_2 hv, ↓dhl_S_2 hv, Option.bind_some, ↓nm_eq, ↓sm_inl, ↓sm_inr, ↓dzo_0, ↓dzo_1, ↓drg_ok, ↓if_pos, ↓if_neg, if_pos, if_neg, if_true, if_false, Int.toNat_natCast, rg_ok, ↓bnd elk, ↓bnd est, ↓bnd ea]
    · rw [lrq_0 (by rw [z]; omega) (by rw [z]; omega)]
      rw [z] at ea
      refine ⟨J1, ?_, fa', q2', fun y => by omega⟩
      simp (disch := omega) only [l_X9_run_30, b_X9_run_30, b_X9_run_121, b_X9_run_134, ↓dhi_S hv, ↓dhg_S_0 hv, ↓dhq_S_0 hv, ↓dhG_S_1 hv, ↓dhg_S_2 hv, ↓dhq_S_2 hv, ↓dhG_S_3 hv, ↓dhG_S_4 hv, ↓dhG_S_5 hv, ↓dhg_S_6 hv, ↓dhq_S_6 hv, ↓dhg_S_7 hv, ↓dhq_S_7 hv, ↓dhg_S_8 hv, ↓dhq_S_8 hv, ↓dhg_S_9 hv, ↓dhq_S_9 hv, ↓dhG_S_10 hv, ↓dhG_S_11 hv, ↓dhg_S_12 hv, ↓dhq_S_12 hv, ↓dha_S_1 hv, ↓dhs_S_1 hv, ↓dhl_S_1 hv, ↓dha_S_2 hv, ↓dhs_S_2 hv, ↓dhl_S_2 hv, Option.bind_some, ↓nm_eq, ↓sm_inl, ↓sm_inr, ↓dzo_0, ↓dzo_1, ↓drg_ok, ↓if_pos, ↓if_neg, if_pos, if_neg, if_true, if_false, Int.toNat_natCast, rg_ok, ↓bnd elk, ↓bnd est, ↓bnd ea]
  | succ r ih =>
    intro f J st wo t pl hf hr f1 q2 hI hR ht hpl
    obtain ⟨f', rfl⟩ : ∃ f', f = f' + 1 := ⟨f - 1, by omega⟩
    have hC := h.own3 hk f1 q2
    have hL := hl.fr (f1 61 (tb_ne3 hk).2.1.1) (f1 62 (tb_ne3 hk).2.1.2.1)
    have hS : CSE w J := fun i hi => by rw [f1 63 (tb_ne3 hk).2.1.2.2]; exact hs i hi
    have elk := X11_lookAt (u := u) (L := L) hS (i := pl) (by omega)
    have est := X9_state (u := u) (L := L) hv hR (by omega)
    obtain ⟨J1, ea, fa, qa⟩ := X9_action (u := u) (L := L) hn hC hL hk hb (t := st t) (y := w pl) (hI.2.1 t (Nat.le_refl _)).1 (hsw.le pl)
    have fa' : Fr [tb kd, tb kd + 1, tb kd + 2] J0 J1 := f1.tr (fa.up (fun a z => by simp at z; simp [z]))
    have q2' : J1 (tb kd) 2 = J0 (tb kd) 2 := (qa 2 (by decide) (by decide) (by decide) (by decide)).trans q2
    have hR1 : CRn (tb kd) J1 st wo t := ⟨(qa 12 (by decide) (by decide) (by decide) (by decide)).trans hR.1, fun i hi => by rw [fa _ (by simp), fa _ (by simp)]; exact hR.2 i hi⟩
    have hC1 := h.own3 hk fa' q2'
    have estep : ((300 - (r + 1) : Nat) : Int) + 1 = ((300 - r : Nat) : Int) := by omega
    rcases zat_c (g := g) (kd := kd) (lv := lv) (sd := sd) (t := st t) (y := w pl) hg with z | z | ⟨z, hz⟩ | ⟨q, z, hq, hz⟩
    · rw [lrq_25 (r + 1) z]
      rw [z] at ea
      have ewt := X9_worthOfTop (u := u) (L := L) hv (J := J1) (t := t) (x := wo t) hR1.1 (hR1.2 t (Nat.le_refl _)).2 (by omega)
      refine ⟨gx_u J1 (tb kd) 0 (wo t : Int), ?_, fa'.wr (by simp), by rw [gu_at_ne (by decide)]; exact q2', fun _ => gu_at_eq rfl⟩
      simp (disch := omega) only [l_X9_run_30, b_X9_run_30, b_X9_run_64, f_X10_keepWorth_8, ↓dhi_S hv, ↓dhg_S_0 hv, ↓dhq_S_0 hv, ↓dhG_S_1 hv, ↓dhg_S_2 hv, ↓dhq_S_2 hv, ↓dhG_S_3 hv, ↓dhG_S_4 hv, ↓dhG_S_5 hv, ↓dhg_S_6 hv, ↓dhq_S_6 hv, ↓dhg_S_7 hv, ↓dhq_S_7 hv, ↓dhg_S_8 hv, ↓dhq_S_8 hv, ↓dhg_S_9 hv, ↓dhq_S_9 hv, ↓dhG_S_10 hv, ↓dhG_S_11 hv, ↓dhg_S_12 hv, ↓dhq_S_12 hv, ↓dha_S_1 hv, ↓dhs_S_1 hv, ↓dhl_S_1 hv, ↓dha_S_2 hv, ↓dhs_S_2 hv, ↓dhl_S_2 hv, Option.bind_some, ↓nm_eq, ↓sm_inl, ↓sm_inr, ↓dzo_0, ↓dzo_1, ↓drg_ok, ↓if_pos, ↓if_neg, if_pos, if_neg, if_true, if_false, Int.toNat_natCast, rg_ok, ↓bnd elk, ↓bnd est, ↓bnd ea, ↓bnd ewt]
    · rw [lrq_m (r + 1) z]
      rw [z] at ea
      refine ⟨J1, ?_, fa', q2', fun y => by omega⟩
      simp (disch := omega) only [l_X9_run_30, b_X9_run_30, b_X9_run_64, ↓dhi_S hv, ↓dhg_S_0 hv, ↓dhq_S_0 hv, ↓dhG_S_1 hv, ↓dhg_S_2 hv, ↓dhq_S_2 hv, ↓dhG_S_3 hv, ↓dhG_S_4 hv, ↓dhG_S_5 hv, ↓dhg_S_6 hv, ↓dhq_S_6 hv, ↓dhg_S_7 hv, ↓dhq_S_7 hv, ↓dhg_S_8 hv, ↓dhq_S_8 hv, ↓dhg_S_9 hv, ↓dhq_S_9 hv, ↓dhG_S_10 hv, ↓dhG_S_11 hv, ↓dhg_S_12 hv, ↓dhq_S_12 hv, ↓dha_S_1 hv, ↓dhs_S_1 hv, ↓dhl_S_1 hv, ↓dha_S_2 hv, ↓dhs_S_2 hv, ↓dhl_S_2 hv, Option.bind_some, ↓nm_eq, ↓sm_inl, ↓sm_inr, ↓dzo_0, ↓dzo_1, ↓drg_ok, ↓if_pos, ↓if_neg, if_pos, if_neg, if_true, if_false, Int.toNat_natCast, rg_ok, ↓bnd elk, ↓bnd est, ↓bnd ea]
    · obtain ⟨h8, t0, hm, ht0, hI'⟩ := hI.shift hg hb hz
      rw [lrq_24 r z hm]
      rw [z] at ea
      have hst := (hI.2.1 t (Nat.le_refl _)).1
      have est1 := X9_state (u := u) (L := L) hv hR1 (by omega)
      have emv := X0_move (u := u) (L := L) hC1 hk hb (t := st t) (X := w pl) hst (Or.inl h8)
      rw [show zix (w pl) = w pl from if_pos (by omega), hm] at emv
      have epu := X9_push (u := u) (L := L) hv (J := J1) (h := t + 1) (by rw [hR1.1]; rfl) (by omega) (t0 : Int) ((w pl + 1 : Nat) : Int)
      have ew1 : (w pl : Int) + 1 = ((w pl + 1 : Nat) : Int) := rfl
      have ep1 : (pl : Int) + 1 = ((pl + 1 : Nat) : Int) := rfl
      obtain ⟨J', i1, i2, i3, i4⟩ := ih f' (gx_u (gx_u (gx_u J1 (tb kd + 1) (t + 1) (t0 : Int)) (tb kd + 2) (t + 1) ((w pl + 1 : Nat) : Int)) (tb kd) 12 (((t + 1 : Nat) : Int) + 1)) (up st (t + 1) t0) (up wo (t + 1) (w pl + 1)) (t + 1) (pl + 1) (by omega) (by omega) (((fa'.wr (by simp)).wr (by simp)).wr (by simp)) (by rw [gu_at_ne (by decide), gu_ne (by omega), gu_ne (by omega)]; exact q2') hI' ⟨gu_at_eq rfl, fun i hi => by
        rw [gu_ne (show tb kd + 1 ≠ tb kd by omega), gu_ne (show tb kd + 1 ≠ tb kd + 2 by omega), gu_ne (show tb kd + 2 ≠ tb kd by omega)]
        by_cases e : i = t + 1
        · rw [gu_at_eq e, gu_at_eq e, e, up_eq, up_eq]; exact ⟨rfl, rfl⟩
        · rw [gu_at_ne e, gu_at_ne e, up_ne e, up_ne e, gu_ne (show tb kd + 2 ≠ tb kd + 1 by omega)]
          exact hR1.2 i (by omega)⟩ (by omega) (by have := hsw.lt h8; omega)
      refine ⟨J', ?_, i2, i3, i4⟩
      rw [← i1]
      simp (disch := omega) only [l_X9_run_30, b_X9_run_30, b_X9_run_134, ↓dhi_S hv, ↓dhg_S_0 hv, ↓dhq_S_0 hv, ↓dhG_S_1 hv, ↓dhg_S_2 hv, ↓dhq_S_2 hv, ↓dhG_S_3 hv, ↓dhG_S_4 hv, ↓dhG_S_5 hv, ↓dhg_S_6 hv, ↓dhq_S_6 hv, ↓dhg_S_7 hv, ↓dhq_S_7 hv, ↓dhg_S_8 hv, ↓dhq_S_8 hv, ↓dhg_S_9 hv, ↓dhq_S_9 hv, ↓dhG_S_10 hv, ↓dhG_S_11 hv, ↓dhg_S_12 hv, ↓dhq_S_12 hv, ↓dha_S_1 hv, ↓dhs_S_1 hv, ↓dhl_S_1 hv, ↓dha_S_2 hv, ↓dhs_S_2 hv, ↓dhl_S_2 hv, Option.bind_some, ↓nm_eq, ↓sm_inl, ↓sm_inr, ↓dzo_0, ↓dzo_1, ↓drg_ok, ↓if_pos, ↓if_neg, if_pos, if_neg, if_true, if_false, Int.toNat_natCast, rg_ok, ↓bnd elk, ↓bnd est, ↓bnd ea, ↓bnd est1, hva, ↓bnd (hA _), ↓bnd emv, ew1, ↓bnd epu, ep1, estep]
    · obtain ⟨hlq, t0, hm, ht0, hI'⟩ := hI.reduce hg hb hq hz
      rw [lrq_q r z (by omega) hm]
      rw [z] at ea
      obtain ⟨J2, er, fr, qr, hR2⟩ := X9_reduce (u := u) (L := L) hn hC1 hk hb hI hR1 (by omega) hq hlq hm
      obtain ⟨J', i1, i2, i3, i4⟩ := ih f' J2 _ _ (t + 1 - Gl g q) pl (by omega) (by omega) (fa'.tr fr) (qr.trans q2') (hI' ((q + 1 + ws wo (t + 1 - Gl g q) (Gl g q)) % 1009) (Nat.mod_lt _ (by decide))) hR2 (by omega) hpl
      refine ⟨J', ?_, i2, i3, i4⟩
      rw [← i1]
      simp (disch := omega) only [l_X9_run_30, b_X9_run_30, b_X9_run_121, b_X9_run_134, ↓dhi_S hv, ↓dhg_S_0 hv, ↓dhq_S_0 hv, ↓dhG_S_1 hv, ↓dhg_S_2 hv, ↓dhq_S_2 hv, ↓dhG_S_3 hv, ↓dhG_S_4 hv, ↓dhG_S_5 hv, ↓dhg_S_6 hv, ↓dhq_S_6 hv, ↓dhg_S_7 hv, ↓dhq_S_7 hv, ↓dhg_S_8 hv, ↓dhq_S_8 hv, ↓dhg_S_9 hv, ↓dhq_S_9 hv, ↓dhG_S_10 hv, ↓dhG_S_11 hv, ↓dhg_S_12 hv, ↓dhq_S_12 hv, ↓dha_S_1 hv, ↓dhs_S_1 hv, ↓dhl_S_1 hv, ↓dha_S_2 hv, ↓dhs_S_2 hv, ↓dhl_S_2 hv, Option.bind_some, ↓nm_eq, ↓sm_inl, ↓sm_inr, ↓dzo_0, ↓dzo_1, ↓drg_ok, ↓if_pos, ↓if_neg, if_pos, if_neg, if_true, if_false, Int.toNat_natCast, rg_ok, ↓bnd elk, ↓bnd est, ↓bnd ea, ↓bnd er, estep]
/-- what a run answers, and the value then -/
noncomputable def zrun (g : GT) (kd : Nat) (lv sd : Nat → Int) (w : Nat → Nat) : Int × Int := if Sb (zS g (kb kd)) = true then (-2, 0) else lrq g kd lv sd w 300 (fun _ => 0) (fun _ => 0) 0 0
theorem LI_0 (hg : GR g) {kd : Nat} : LI g kd (fun _ => 0) (fun _ => 0) 0 := by
  have := zS_n (b := kb kd) hg
  exact ⟨rfl, fun i _ => ⟨show (0 : Nat) < Sn (zS g (kb kd)) by omega, show (0 : Nat) < 1009 by decide⟩, fun i hi => absurd hi (by omega)⟩
theorem X9_run (hn : 1000000000000000000000000000000 ≤ n) {kd : Nat} {lv sd : Nat → Int} {w : Nat → Nat} {nw : Nat} {J0 : Nat → Nat → Int} (h : CTB u g kd J0 L) (hl : CLV lv sd J0) (hs : CSE w J0) (hsw : SW w nw) (hk : 1 ≤ kd ∧ kd ≤ 3) :
    ∃ J', f_X9_run n (tb kd) (hp u J0 L) = some ((zrun g kd lv sd w).1, hp u J' L) ∧ Fr [tb kd, tb kd + 1, tb kd + 2] J0 J' ∧ J' (tb kd) 2 = J0 (tb kd) 2 ∧ ((zrun g kd lv sd w).1 = -1 → J' (tb kd) 0 = (zrun g kd lv sd w).2) := by
  have hg := h.1.gr
  obtain ⟨hv, hva⟩ := tb_m hk
  have hn9 := zS_n (b := kb kd) hg
  have hA : ∀ J, gi_is (hp u J L) (va (kb kd)) 0 = some () := fun J => hi_A (va_m (kb kd))
  have e0 := X0_extent (u := u) h hk.1
  unfold zrun
  by_cases hb : Sb (zS g (kb kd)) = true
  · rw [if_pos hb] at e0
    rw [if_pos hb]
    refine ⟨J0, ?_, Fr.rf, rfl, fun z => absurd z (by decide)⟩
    simp (disch := omega) only [f_X9_run, ↓dhi_S hv, ↓dhg_S_0 hv, ↓dhq_S_0 hv, ↓dhG_S_1 hv, ↓dhg_S_2 hv, ↓dhq_S_2 hv, ↓dhG_S_3 hv, ↓dhG_S_4 hv, ↓dhG_S_5 hv, ↓dhg_S_6 hv, ↓dhq_S_6 hv, ↓dhg_S_7 hv, ↓dhq_S_7 hv, ↓dhg_S_8 hv, ↓dhq_S_8 hv, ↓dhg_S_9 hv, ↓dhq_S_9 hv, ↓dhG_S_10 hv, ↓dhG_S_11 hv, ↓dhg_S_12 hv, ↓dhq_S_12 hv, ↓dha_S_1 hv, ↓dhs_S_1 hv, ↓dhl_S_1 hv, ↓dha_S_2 hv, ↓dhs_S_2 hv, ↓dhl_S_2 hv, Option.bind_some, ↓nm_eq, ↓sm_inl, ↓sm_inr, ↓dzo_0, ↓dzo_1, ↓drg_ok, ↓if_pos, ↓if_neg, if_pos, if_neg, if_true, if_false, Int.toNat_natCast, rg_ok, hva, ↓bnd (hA _), ↓bnd e0]
  · have hb' : Sb (zS g (kb kd)) = false := by simpa using hb
    rw [if_neg hb] at e0
    rw [if_neg hb]
    have e12 : gx_u J0 (tb kd) 12 0 (tb kd) 12 = ((0 : Nat) : Int) := gu_at_eq rfl
    have epu := X9_push (u := u) (L := L) hv (J := gx_u J0 (tb kd) 12 0) (h := 0) e12 (by omega) 0 0
    have ez : (((0 : Nat) : Int) + 1) = 1 := rfl
    obtain ⟨J', i1, i2, i3, i4⟩ := X9_runl (u := u) (L := L) hn h hl hs hsw hk hb' 300 n (gx_u (gx_u (gx_u (gx_u J0 (tb kd) 12 0) (tb kd + 1) 0 0) (tb kd + 2) 0 0) (tb kd) 12 (((0 : Nat) : Int) + 1)) (fun _ => 0) (fun _ => 0) 0 0 (by omega) (by omega) ((((Fr.rf.wr (by simp)).wr (by simp)).wr (by simp)).wr (by simp)) (by rw [gu_at_ne (by decide), gu_ne (by omega), gu_ne (by omega), gu_at_ne (by decide)]) (LI_0 hg) ⟨gu_at_eq rfl, fun i hi => by
      have : i = 0 := by omega
      subst this
      rw [gu_ne (show tb kd + 1 ≠ tb kd by omega), gu_ne (show tb kd + 1 ≠ tb kd + 2 by omega), gu_ne (show tb kd + 2 ≠ tb kd by omega), gu_at_eq rfl, gu_at_eq rfl]
      exact ⟨rfl, rfl⟩⟩ (by omega) (Nat.zero_le _)
    refine ⟨J', ?_, i2, i3, i4⟩
    rw [← i1]
    simp (disch := omega) only [f_X9_run, ↓dhi_S hv, ↓dhg_S_0 hv, ↓dhq_S_0 hv, ↓dhG_S_1 hv, ↓dhg_S_2 hv, ↓dhq_S_2 hv, ↓dhG_S_3 hv, ↓dhG_S_4 hv, ↓dhG_S_5 hv, ↓dhg_S_6 hv, ↓dhq_S_6 hv, ↓dhg_S_7 hv, ↓dhq_S_7 hv, ↓dhg_S_8 hv, ↓dhq_S_8 hv, ↓dhg_S_9 hv, ↓dhq_S_9 hv, ↓dhG_S_10 hv, ↓dhG_S_11 hv, ↓dhg_S_12 hv, ↓dhq_S_12 hv, ↓dha_S_1 hv, ↓dhs_S_1 hv, ↓dhl_S_1 hv, ↓dha_S_2 hv, ↓dhs_S_2 hv, ↓dhl_S_2 hv, Option.bind_some, ↓nm_eq, ↓sm_inl, ↓sm_inr, ↓dzo_0, ↓dzo_1, ↓drg_ok, ↓if_pos, ↓if_neg, if_pos, if_neg, if_true, if_false, Int.toNat_natCast, rg_ok, hva, ↓bnd (hA _), ↓bnd e0, ↓bnd epu] <;> rfl
end CN_
