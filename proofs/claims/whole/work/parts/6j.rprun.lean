/-! ===== the reference: the predictive table's run ===== -/
def ec (e : Bool × Nat) : Int := if e.1 = true then (e.2 : Int) else -((e.2 : Int) + 1)
def RVL : List Nat := [161, 187, 188, 189]
section PT_
variable {u : Nat} {n : Nat} {L : Nat → Nat → Int} {g : GT}
theorem RE.run {J J' : Nat → Nat → Int} (w : RE g J) (f : Fr RVL J J') (q : RUK J J') : RE g J' := w.fr f (q 9 (by decide) (by decide)) (by decide)
theorem rF.run {J J' : Nat → Nat → Int} (h : rF g J L) (f : Fr RVL J J') (q : RUK J J') : rF g J' L := rF_fr (f 176 (by decide)) (f 177 (by decide)) (f 178 (by decide)) (f 180 (by decide)) (q 18 (by decide) (by decide)) rfl h
/-- the parts of one production -/
theorem X12_parts (hn : 1000000000000000000000000000000 ≤ n) {J0 : Nat → Nat → Int} (w : RE g J0) {q m T : Nat} (hq : q < Gn g) (hm : m < 300) (hev : J0 189 m = (q : Int)) {β W : List Nat} (r9 : Nat → Int → gi_H → Option gi_H) :
    zLP (Gl g q) (fun f k (s : Nat × (Nat → Nat → Int) × List Nat × List Nat) => l_X12_gathers_45 n r9 f 161 (m : Int) (s.1 : Int) (k : Int) (hp u s.2.1 L))
      (fun k s => Fr [161, 188] J0 s.2.1 ∧ (∀ k, k ≠ 38 → s.2.1 161 k = J0 161 k) ∧ s.2.1 161 38 = (s.2.2.1.length : Int) ∧ AX nJx s.2.1 188 s.2.2.1 ∧ con ((rh g q).drop k ++ β) s.2.2.1 s.2.2.2 ∧ s.1 + (vR (Gl g q - k) k s.2.2.1).1 = T ∧ (vR (Gl g q - k) k s.2.2.1).2 = W ∧ s.1 ≤ 30 + 5045 * k ∧ s.2.2.1.length ≤ 1550)
      (fun res => ∃ J, res = r9 161 ((m : Int) + -1) (hp u J L) ∧ Fr [161, 188] J0 J ∧ (∀ k, k ≠ 38 → J 161 k = J0 161 k) ∧ J 161 38 = ((((T % 1009) :: W).length : Nat) : Int) ∧ AX nJx J 188 ((T % 1009) :: W)) := by
  have hg := w.gr
  have h24 := hg.1
  have h5 := hg.2.2.2.1 q
  refine zlp ?_ ?_
  · rintro f k ⟨acc, J, V, V'⟩ hk ⟨f1, q1, e4, hA, hc, hT, hW, hb, hl⟩
    dsimp only at f1 q1 e4 hA hc hT hW hb hl ⊢
    right
    have hC : RE g J := w.fr f1 (q1 9 (by decide)) (by decide)
    have esz := re_size (u := u) (L := L) hC hq
    have eev : J 189 m = (q : Int) := by rw [f1 189 (by decide)]; exact hev
    have ek : (k : Int) + 1 = ((k + 1 : Nat) : Int) := rfl
    rw [rh_drop hk] at hc
    obtain ⟨v, V1, h1, hv, h2⟩ := hc
    obtain ⟨mm, hmm⟩ : ∃ mm, Gl g q - k = mm + 1 := ⟨Gl g q - k - 1, by omega⟩
    have hmm' : Gl g q - (k + 1) = mm := by omega
    have e2 : vR (mm + 1) k (v :: V1) = ((k + 1) * v + (vR mm (k + 1) V1).1, (vR mm (k + 1) V1).2) := rfl
    rw [hmm, h1, e2] at hT hW
    rw [h1] at e4 hA hl
    have hbd : (k + 1) * v ≤ 5 * 1009 := Nat.mul_le_mul (by omega) (by omega)
    have hl2 : V1.length + 1 ≤ 1550 := hl
    have hcn : ∃ V2, con ((rh g q).drop (k + 1) ++ β) V1 V2 := by
      rcases h2 with ⟨-, -, h3⟩ | ⟨-, V2, -, h4⟩
      · exact ⟨V', h3⟩
      · exact ⟨V2, h4⟩
    obtain ⟨V2, hc2⟩ := hcn
    have e38 : J 161 38 - 1 = (V1.length : Int) := by rw [e4]; simp only [List.length_cons]; omega
    have g38 : gx_u J 161 38 (V1.length : Int) 161 38 = (V1.length : Int) := gu_at_eq rfl
    have hAv : gx_u J 161 38 (V1.length : Int) 188 V1.length = (v : Int) := by rw [gu_ne (by decide)]; exact hA.1
    refine ⟨(acc + (k + 1) * v, gx_u J 161 38 (V1.length : Int), V1, V2), ?_, f1.wr (by simp), fun j hj => by dsimp only; rw [gu_at_ne hj]; exact q1 j hj, by dsimp only; rw [gu_at_eq rfl], by dsimp only; exact AX_fr hA.2 (fun i _ => by rw [gu_ne (by decide)]), hc2, by dsimp only at hT ⊢; rw [hmm']; omega, by dsimp only; rw [hmm']; exact hW, by dsimp only; omega, by dsimp only; omega⟩
    have em := ws_cast k v
    have ea : (acc : Int) + (((k + 1) * v : Nat) : Int) = ((acc + (k + 1) * v : Nat) : Int) := rfl
    simp (disch := omega) only [l_X12_gathers_45, b_X12_gathers_45, ↓dhi_M, ↓dhG_M_0, ↓dhG_M_1, ↓dhG_M_2, ↓dhG_M_3, ↓dhG_M_4, ↓dhG_M_5, ↓dhG_M_6, ↓dhG_M_7, ↓dhG_M_8, ↓dhg_M_9, ↓dhq_M_9, ↓dhG_M_10, ↓dhG_M_11, ↓dhG_M_12, ↓dhg_M_13, ↓dhq_M_13, ↓dhG_M_14, ↓dhg_M_15, ↓dhq_M_15, ↓dhG_M_16, ↓dhg_M_17, ↓dhq_M_17, ↓dhg_M_18, ↓dhq_M_18, ↓dhG_M_19, ↓dhG_M_20, ↓dhG_M_21, ↓dhG_M_22, ↓dhG_M_23, ↓dhG_M_24, ↓dhg_M_25, ↓dhq_M_25, ↓dhG_M_26, ↓dhG_M_27, ↓dhG_M_28, ↓dhg_M_29, ↓dhq_M_29, ↓dhG_M_30, ↓dhG_M_31, ↓dhg_M_32, ↓dhq_M_32, ↓dhg_M_33, ↓dhq_M_33, ↓dhg_M_34, ↓dhq_M_34, ↓dhg_M_35, ↓dhq_M_35, ↓dhG_M_36, ↓dhG_M_37, ↓dhg_M_38, ↓dhq_M_38, ↓dhg_M_39, ↓dhq_M_39, ↓dhG_M_40, ↓dhG_M_41, ↓dhG_M_42, ↓dhG_M_43, ↓dhg_M_44, ↓dhq_M_44, ↓dha_188, ↓dhs_188, ↓dhl_188, ↓dha_189, ↓dhs_189, ↓dhl_189, Option.bind_some, ↓nm_eq, ↓sm_inl, ↓sm_inr, ↓dzo_0, ↓dzo_1, ↓drg_ok, ↓if_pos, ↓if_neg, if_pos, if_neg, if_true, if_false, Int.toNat_natCast, rg_ok, Int.toNat_natCast, eev, ↓bnd esz, e38, g38, hAv, em, ws_cast2, ea, ek]
  · rintro f ⟨acc, J, V, V'⟩ ⟨f1, q1, e4, hA, hc, hT, hW, hb, hl⟩
    dsimp only at f1 q1 e4 hA hc hT hW hb hl ⊢
    have hC : RE g J := w.fr f1 (q1 9 (by decide)) (by decide)
    have esz := re_size (u := u) (L := L) hC hq
    have eev : J 189 m = (q : Int) := by rw [f1 189 (by decide)]; exact hev
    rw [Nat.sub_self] at hT hW
    have hT' : acc = T := hT
    have hW' : V = W := hW
    subst hT'; subst hW'
    have hdg : gi_dg (acc : Int) 1009 = some () := dg_ok (by omega) (by omega) (by decide) (by decide)
    have emd : (acc : Int) % 1009 = ((acc % 1009 : Nat) : Int) := by omega
    have g38 : ∀ x, gx_u J 188 V.length x 161 38 = (V.length : Int) := fun x => by rw [gu_ne (by decide)]; exact e4
    refine ⟨gx_u (gx_u J 188 V.length ((acc % 1009 : Nat) : Int)) 161 38 ((V.length : Int) + 1), ?_, (f1.wr (by simp)).wr (by simp), fun j hj => by rw [gu_at_ne hj, gu_ne (by decide)]; exact q1 j hj, gu_at_eq rfl, AX_fr (AX_push (c := nJx) (x := acc % 1009) hA) (fun i _ => by rw [gu_ne (by decide)]; rfl)⟩
    simp (disch := omega) only [l_X12_gathers_45, b_X12_gathers_45, b_X12_gathers_93, ↓dhi_M, ↓dhG_M_0, ↓dhG_M_1, ↓dhG_M_2, ↓dhG_M_3, ↓dhG_M_4, ↓dhG_M_5, ↓dhG_M_6, ↓dhG_M_7, ↓dhG_M_8, ↓dhg_M_9, ↓dhq_M_9, ↓dhG_M_10, ↓dhG_M_11, ↓dhG_M_12, ↓dhg_M_13, ↓dhq_M_13, ↓dhG_M_14, ↓dhg_M_15, ↓dhq_M_15, ↓dhG_M_16, ↓dhg_M_17, ↓dhq_M_17, ↓dhg_M_18, ↓dhq_M_18, ↓dhG_M_19, ↓dhG_M_20, ↓dhG_M_21, ↓dhG_M_22, ↓dhG_M_23, ↓dhG_M_24, ↓dhg_M_25, ↓dhq_M_25, ↓dhG_M_26, ↓dhG_M_27, ↓dhG_M_28, ↓dhg_M_29, ↓dhq_M_29, ↓dhG_M_30, ↓dhG_M_31, ↓dhg_M_32, ↓dhq_M_32, ↓dhg_M_33, ↓dhq_M_33, ↓dhg_M_34, ↓dhq_M_34, ↓dhg_M_35, ↓dhq_M_35, ↓dhG_M_36, ↓dhG_M_37, ↓dhg_M_38, ↓dhq_M_38, ↓dhg_M_39, ↓dhq_M_39, ↓dhG_M_40, ↓dhG_M_41, ↓dhG_M_42, ↓dhG_M_43, ↓dhg_M_44, ↓dhq_M_44, ↓dha_188, ↓dhs_188, ↓dhl_188, ↓dha_189, ↓dhs_189, ↓dhl_189, Option.bind_some, ↓nm_eq, ↓sm_inl, ↓sm_inr, ↓dzo_0, ↓dzo_1, ↓drg_ok, ↓if_pos, ↓if_neg, if_pos, if_neg, if_true, if_false, Int.toNat_natCast, rg_ok, Int.toNat_natCast, eev, ↓bnd esz, e4, ↓bnd hdg, emd, g38]
theorem X12_gath9 (hn : 1000000000000000000000000000000 ≤ n) {J0 : Nat → Nat → Int} (w : RE g J0) :
    ∀ (es : List (Bool × Nat)) (f : Nat) (J : Nat → Nat → Int) (β V V' : List Nat) (v : Nat), es.length < f → pC g es β → con β V V' → gR g es V = [v] → Fr [161, 188] J0 J → (∀ k, k ≠ 38 → J 161 k = J0 161 k) → AX ec J0 189 es → J 161 38 = (V.length : Int) → AX nJx J 188 V → es.length ≤ 300 →
    ∃ J', l_X12_gathers_9 n f 161 ((es.length : Int) - 1) (hp u J L) = some (hp u J' L) ∧ Fr [161, 188] J0 J' ∧ (∀ k, k ≠ 38 → k ≠ 39 → J' 161 k = J0 161 k) ∧ J' 161 39 = (v : Int) := by
  have hg := w.gr
  have h24 := hg.1
  intro es
  induction es with
  | nil =>
    intro f J β V V' v hf hpc hc hv f1 q1 _ e4 hA _
    obtain ⟨f', rfl⟩ : ∃ f', f = f' + 1 := ⟨f - 1, by omega⟩
    have hv' : V = [v] := hv
    subst hv'
    have hAv : J 188 0 = (v : Int) := hA.1
    have hAv' : J 188 (0 : Int).toNat = (v : Int) := hAv
    refine ⟨gx_u J 161 39 (v : Int), ?_, f1.wr (by simp), fun j hj hj2 => by rw [gu_at_ne hj2]; exact q1 j hj, gu_at_eq rfl⟩
    have e0 : ((([] : List (Bool × Nat)).length : Nat) : Int) - 1 = -1 := rfl
    rw [e0]
    simp (disch := omega) only [l_X12_gathers_9, b_X12_gathers_9, b_X12_gathers_123, ↓dhi_M, ↓dhG_M_0, ↓dhG_M_1, ↓dhG_M_2, ↓dhG_M_3, ↓dhG_M_4, ↓dhG_M_5, ↓dhG_M_6, ↓dhG_M_7, ↓dhG_M_8, ↓dhg_M_9, ↓dhq_M_9, ↓dhG_M_10, ↓dhG_M_11, ↓dhG_M_12, ↓dhg_M_13, ↓dhq_M_13, ↓dhG_M_14, ↓dhg_M_15, ↓dhq_M_15, ↓dhG_M_16, ↓dhg_M_17, ↓dhq_M_17, ↓dhg_M_18, ↓dhq_M_18, ↓dhG_M_19, ↓dhG_M_20, ↓dhG_M_21, ↓dhG_M_22, ↓dhG_M_23, ↓dhG_M_24, ↓dhg_M_25, ↓dhq_M_25, ↓dhG_M_26, ↓dhG_M_27, ↓dhG_M_28, ↓dhg_M_29, ↓dhq_M_29, ↓dhG_M_30, ↓dhG_M_31, ↓dhg_M_32, ↓dhq_M_32, ↓dhg_M_33, ↓dhq_M_33, ↓dhg_M_34, ↓dhq_M_34, ↓dhg_M_35, ↓dhq_M_35, ↓dhG_M_36, ↓dhG_M_37, ↓dhg_M_38, ↓dhq_M_38, ↓dhg_M_39, ↓dhq_M_39, ↓dhG_M_40, ↓dhG_M_41, ↓dhG_M_42, ↓dhG_M_43, ↓dhg_M_44, ↓dhq_M_44, ↓dha_188, ↓dhs_188, ↓dhl_188, Option.bind_some, ↓nm_eq, ↓sm_inl, ↓sm_inr, ↓dzo_0, ↓dzo_1, ↓drg_ok, ↓if_pos, ↓if_neg, if_pos, if_neg, if_true, if_false, Int.toNat_natCast, rg_ok, hAv']
  | cons e es ih =>
    intro f J β V V' v hf hpc hc hv f1 q1 h189 e4 hA hes
    obtain ⟨f', rfl⟩ : ∃ f', f = f' + 1 := ⟨f - 1, by omega⟩
    have hes' : es.length + 1 ≤ 300 := hes
    have hf' : es.length + 1 < f' + 1 := hf
    have hcl := con_len hc
    have hpl := pC_len hg hpc
    have hpl' : β.length ≤ 1 + 5 * (es.length + 1) := hpl
    have hvl := hcl.1
    have h5 := hg.2.2.2.1 e.2
    have e0 : (((e :: es).length : Nat) : Int) - 1 = (es.length : Int) := by simp only [List.length_cons]; omega
    have ek : (es.length : Int) + -1 = (es.length : Int) - 1 := by omega
    have e9 : J 189 es.length = ec e := by rw [f1 189 (by decide)]; exact h189.1
    rw [e0]
    rcases hpc with ⟨e1, e2, hpc⟩ | ⟨e1, e2, β', h1, h2⟩
    · have a1 : gR g (e :: es) V = gR g es ((e.2 + 1) :: V) := by rw [gR, if_neg (by rw [e1]; decide)]
      rw [a1] at hv
      have hec : ec e = -((e.2 : Int) + 1) := by unfold ec; rw [if_neg (by rw [e1]; decide)]
      have eneg : - -((e.2 : Int) + 1) = ((e.2 + 1 : Nat) : Int) := by omega
      have hdg : gi_dg ((e.2 + 1 : Nat) : Int) 1009 = some () := dg_ok (by omega) (by omega) (by decide) (by decide)
      have emd : ((e.2 + 1 : Nat) : Int) % 1009 = ((e.2 + 1 : Nat) : Int) := by omega
      have g38 : ∀ x, gx_u J 188 V.length x 161 38 = (V.length : Int) := fun x => by rw [gu_ne (by decide)]; exact e4
      obtain ⟨J', i1, i2, i3, i4⟩ := ih f' (gx_u (gx_u J 188 V.length ((e.2 + 1 : Nat) : Int)) 161 38 ((V.length : Int) + 1)) (e.2 :: β) ((e.2 + 1) :: V) V' v (by omega) hpc ⟨e.2 + 1, V, rfl, by omega, Or.inl ⟨e2, rfl, hc⟩⟩ hv ((f1.wr (by simp)).wr (by simp)) (fun j hj => by rw [gu_at_ne hj, gu_ne (by decide)]; exact q1 j hj) h189.2 (by rw [gu_at_eq rfl]; rfl) (AX_fr (AX_push (c := nJx) (x := e.2 + 1) hA) (fun i _ => by rw [gu_ne (by decide)]; rfl)) (by omega)
      refine ⟨J', ?_, i2, i3, i4⟩
      rw [← i1]
      rw [hec] at e9
      simp (disch := omega) only [l_X12_gathers_9, b_X12_gathers_9, b_X12_gathers_93, ↓dhi_M, ↓dhG_M_0, ↓dhG_M_1, ↓dhG_M_2, ↓dhG_M_3, ↓dhG_M_4, ↓dhG_M_5, ↓dhG_M_6, ↓dhG_M_7, ↓dhG_M_8, ↓dhg_M_9, ↓dhq_M_9, ↓dhG_M_10, ↓dhG_M_11, ↓dhG_M_12, ↓dhg_M_13, ↓dhq_M_13, ↓dhG_M_14, ↓dhg_M_15, ↓dhq_M_15, ↓dhG_M_16, ↓dhg_M_17, ↓dhq_M_17, ↓dhg_M_18, ↓dhq_M_18, ↓dhG_M_19, ↓dhG_M_20, ↓dhG_M_21, ↓dhG_M_22, ↓dhG_M_23, ↓dhG_M_24, ↓dhg_M_25, ↓dhq_M_25, ↓dhG_M_26, ↓dhG_M_27, ↓dhG_M_28, ↓dhg_M_29, ↓dhq_M_29, ↓dhG_M_30, ↓dhG_M_31, ↓dhg_M_32, ↓dhq_M_32, ↓dhg_M_33, ↓dhq_M_33, ↓dhg_M_34, ↓dhq_M_34, ↓dhg_M_35, ↓dhq_M_35, ↓dhG_M_36, ↓dhG_M_37, ↓dhg_M_38, ↓dhq_M_38, ↓dhg_M_39, ↓dhq_M_39, ↓dhG_M_40, ↓dhG_M_41, ↓dhG_M_42, ↓dhG_M_43, ↓dhg_M_44, ↓dhq_M_44, ↓dha_188, ↓dhs_188, ↓dhl_188, ↓dha_189, ↓dhs_189, ↓dhl_189, Option.bind_some, ↓nm_eq, ↓sm_inl, ↓sm_inr, ↓dzo_0, ↓dzo_1, ↓drg_ok, ↓if_pos, ↓if_neg, if_pos, if_neg, if_true, if_false, Int.toNat_natCast, rg_ok, Int.toNat_natCast, e9, eneg, e4, ↓bnd hdg, emd, g38, ek]
    · have a1 : gR g (e :: es) V = gR g es (((e.2 + 1 + (vR (Gl g e.2) 0 V).1) % 1009) :: (vR (Gl g e.2) 0 V).2) := by rw [gR, if_pos e1]
      rw [a1] at hv
      have hec : ec e = (e.2 : Int) := by unfold ec; rw [if_pos e1]
      rw [hec] at e9
      have h189' : J0 189 es.length = (e.2 : Int) := by rw [← hec]; exact h189.1
      rw [h1] at hc
      have hs := con_sum (rh g e.2) 0 hc
      rw [rh_len] at hs
      obtain ⟨J1, i1, i2, i3, i4, i5⟩ := X12_parts (u := u) (L := L) hn w (q := e.2) (m := es.length) (T := e.2 + 1 + (vR (Gl g e.2) 0 V).1) e2 (by omega) h189' (β := β') (W := (vR (Gl g e.2) 0 V).2) (l_X12_gathers_9 n f') (Gl g e.2) n 0 (e.2 + 1, J, V, V') (by omega) (by omega) ⟨f1, q1, e4, hA, hc, rfl, rfl, by dsimp only; omega, by dsimp only; omega⟩
      dsimp only at i1
      obtain ⟨J', j1, j2, j3, j4⟩ := ih f' J1 _ _ (((e.2 + 1 + (vR (Gl g e.2) 0 V).1) % 1009) :: (vC (rh g e.2) 0 V').2) v (by omega) h2 ⟨_, _, rfl, Nat.mod_lt _ (by decide), Or.inr ⟨by omega, _, rfl, hs.2⟩⟩ hv i2 i3 h189.2 i4 i5 (by omega)
      refine ⟨J', ?_, j2, j3, j4⟩
      rw [ek, j1] at i1
      rw [← i1]
      have ez : ((0 : Nat) : Int) = 0 := rfl
      have eq1 : (e.2 : Int) + 1 = ((e.2 + 1 : Nat) : Int) := rfl
      rw [ez]
      simp (disch := omega) only [l_X12_gathers_9, b_X12_gathers_9, ↓dhi_M, ↓dhG_M_0, ↓dhG_M_1, ↓dhG_M_2, ↓dhG_M_3, ↓dhG_M_4, ↓dhG_M_5, ↓dhG_M_6, ↓dhG_M_7, ↓dhG_M_8, ↓dhg_M_9, ↓dhq_M_9, ↓dhG_M_10, ↓dhG_M_11, ↓dhG_M_12, ↓dhg_M_13, ↓dhq_M_13, ↓dhG_M_14, ↓dhg_M_15, ↓dhq_M_15, ↓dhG_M_16, ↓dhg_M_17, ↓dhq_M_17, ↓dhg_M_18, ↓dhq_M_18, ↓dhG_M_19, ↓dhG_M_20, ↓dhG_M_21, ↓dhG_M_22, ↓dhG_M_23, ↓dhG_M_24, ↓dhg_M_25, ↓dhq_M_25, ↓dhG_M_26, ↓dhG_M_27, ↓dhG_M_28, ↓dhg_M_29, ↓dhq_M_29, ↓dhG_M_30, ↓dhG_M_31, ↓dhg_M_32, ↓dhq_M_32, ↓dhg_M_33, ↓dhq_M_33, ↓dhg_M_34, ↓dhq_M_34, ↓dhg_M_35, ↓dhq_M_35, ↓dhG_M_36, ↓dhG_M_37, ↓dhg_M_38, ↓dhq_M_38, ↓dhg_M_39, ↓dhq_M_39, ↓dhG_M_40, ↓dhG_M_41, ↓dhG_M_42, ↓dhG_M_43, ↓dhg_M_44, ↓dhq_M_44, ↓dha_189, ↓dhs_189, ↓dhl_189, Option.bind_some, ↓nm_eq, ↓sm_inl, ↓sm_inr, ↓dzo_0, ↓dzo_1, ↓drg_ok, ↓if_pos, ↓if_neg, if_pos, if_neg, if_true, if_false, Int.toNat_natCast, rg_ok, Int.toNat_natCast, e9, eq1]
theorem X12_gathers (hn : 1000000000000000000000000000000 ≤ n) {J : Nat → Nat → Int} (w : RE g J) {es : List (Bool × Nat)} (hpc : pC g es []) (h189 : AX ec J 189 es) (hes : es.length ≤ 300) :
    ∃ J', f_X12_gathers n 161 (es.length : Int) (hp u J L) = some (hp u J' L) ∧ Fr RVL J J' ∧ RUK J J' ∧ J' 161 39 = pval g es := by
  have hg := w.gr
  obtain ⟨v, v1, v2⟩ := con_g hg (V := []) (V' := []) hpc ⟨rfl, rfl⟩
  obtain ⟨J', e, f, q, e39⟩ := X12_gath9 (u := u) (L := L) hn w es n (gx_u J 161 38 0) [] [] [] v (by omega) hpc ⟨rfl, rfl⟩ v1 (Fr.rf.wr (by simp)) (fun k hk => gu_at_ne hk) h189 (gu_at_eq rfl) trivial hes
  refine ⟨J', ?_, f.up (fun a z => by simp at z; simp [RVL]; omega), q, by rw [e39]; unfold pval; rw [v1]; rfl⟩
  rw [← e]
  simp (disch := omega) only [f_X12_gathers, ↓dhi_M, ↓dhG_M_0, ↓dhG_M_1, ↓dhG_M_2, ↓dhG_M_3, ↓dhG_M_4, ↓dhG_M_5, ↓dhG_M_6, ↓dhG_M_7, ↓dhG_M_8, ↓dhg_M_9, ↓dhq_M_9, ↓dhG_M_10, ↓dhG_M_11, ↓dhG_M_12, ↓dhg_M_13, ↓dhq_M_13, ↓dhG_M_14, ↓dhg_M_15, ↓dhq_M_15, ↓dhG_M_16, ↓dhg_M_17, ↓dhq_M_17, ↓dhg_M_18, ↓dhq_M_18, ↓dhG_M_19, ↓dhG_M_20, ↓dhG_M_21, ↓dhG_M_22, ↓dhG_M_23, ↓dhG_M_24, ↓dhg_M_25, ↓dhq_M_25, ↓dhG_M_26, ↓dhG_M_27, ↓dhG_M_28, ↓dhg_M_29, ↓dhq_M_29, ↓dhG_M_30, ↓dhG_M_31, ↓dhg_M_32, ↓dhq_M_32, ↓dhg_M_33, ↓dhq_M_33, ↓dhg_M_34, ↓dhq_M_34, ↓dhg_M_35, ↓dhq_M_35, ↓dhG_M_36, ↓dhG_M_37, ↓dhg_M_38, ↓dhq_M_38, ↓dhg_M_39, ↓dhq_M_39, ↓dhG_M_40, ↓dhG_M_41, ↓dhG_M_42, ↓dhG_M_43, ↓dhg_M_44, ↓dhq_M_44, Option.bind_some, ↓nm_eq, ↓sm_inl, ↓sm_inr, ↓dzo_0, ↓dzo_1, ↓drg_ok, ↓if_pos, ↓if_neg, if_pos, if_neg, if_true, if_false, Int.toNat_natCast, rg_ok]
/-- the reference's parser's memory -/
def QM (J : Nat → Nat → Int) (β : List Nat) (es : List (Bool × Nat)) : Prop := J 161 38 = (β.length : Int) ∧ AX nJx J 187 β ∧ AX ec J 189 es
theorem X12_der219 (hn : 1000000000000000000000000000000 ≤ n) {J0 : Nat → Nat → Int} (w : RE g J0) {q : Nat} (hq : q < Gn g) {β : List Nat} {pl st : Int} (r31 : Nat → Int → Int → gi_H → Option (Int × gi_H)) :
    ∀ (m f : Nat) (J : Nat → Nat → Int), m < f → m ≤ Gl g q → Fr [161, 187] J0 J → (∀ k, k ≠ 38 → J 161 k = J0 161 k) → J 161 38 = ((((rh g q).drop m ++ β).length : Nat) : Int) → AX nJx J 187 ((rh g q).drop m ++ β) → β.length ≤ 1501 →
    ∃ J', l_X12_derives_219 n r31 f 161 pl st (q : Int) ((m : Int) - 1) (hp u J L) = b_X12_derives_257 n r31 161 pl st (hp u J' L) ∧ Fr [161, 187] J0 J' ∧ (∀ k, k ≠ 38 → J' 161 k = J0 161 k) ∧ J' 161 38 = (((rh g q ++ β).length : Nat) : Int) ∧ AX nJx J' 187 (rh g q ++ β) := by
  have hg := w.gr
  have h24 := hg.1
  have h5 := hg.2.2.2.1 q
  intro m
  induction m with
  | zero =>
    intro f J hf _ f1 q1 e hA _
    obtain ⟨f', rfl⟩ : ∃ f', f = f' + 1 := ⟨f - 1, by omega⟩
    refine ⟨J, ?_, f1, q1, e, hA⟩
    have e0 : ((0 : Nat) : Int) - 1 = -1 := rfl
    rw [e0]
    simp (disch := omega) only [l_X12_derives_219, b_X12_derives_219, Option.bind_some, ↓nm_eq, ↓sm_inl, ↓sm_inr, ↓dzo_0, ↓dzo_1, ↓drg_ok, ↓if_pos, ↓if_neg, if_pos, if_neg, if_true, if_false, Int.toNat_natCast, rg_ok]
  | succ m ih =>
    intro f J hf hm f1 q1 e hA hβ
    obtain ⟨f', rfl⟩ : ∃ f', f = f' + 1 := ⟨f - 1, by omega⟩
    have e0 : ((m + 1 : Nat) : Int) - 1 = (m : Int) := by omega
    have hC : RE g J := w.fr f1 (q1 9 (by decide)) (by decide)
    have es := re_symbol (u := u) (L := L) hC (p := q) (k := m) (by omega)
    have hl : ((rh g q).drop (m + 1) ++ β).length = Gl g q - (m + 1) + β.length := by rw [List.length_append, List.length_drop, rh_len]
    have ek : (m : Int) + -1 = (m : Int) - 1 := by omega
    have hA' := AX_push (c := nJx) (x := Gs g q m) hA
    have hd : (rh g q).drop m ++ β = Gs g q m :: ((rh g q).drop (m + 1) ++ β) := by rw [rh_drop (by omega)]; rfl
    have g38 : ∀ x, gx_u J 187 ((rh g q).drop (m + 1) ++ β).length x 161 38 = (((rh g q).drop (m + 1) ++ β).length : Int) := fun x => by rw [gu_ne (by decide)]; exact e
    obtain ⟨J', i1, i2, i3, i4, i5⟩ := ih f' (gx_u (gx_u J 187 ((rh g q).drop (m + 1) ++ β).length (Gs g q m : Int)) 161 38 ((((rh g q).drop (m + 1) ++ β).length : Int) + 1)) (by omega) (by omega) ((f1.wr (by simp)).wr (by simp)) (fun k hk => by rw [gu_at_ne hk, gu_ne (by decide)]; exact q1 k hk) (by rw [gu_at_eq rfl, hd, List.length_cons]; rfl) (by rw [hd]; exact AX_fr hA' (fun i _ => by rw [gu_ne (by decide)]; rfl)) hβ
    refine ⟨J', ?_, i2, i3, i4, i5⟩
    rw [e0, ← i1]
    simp (disch := omega) only [l_X12_derives_219, b_X12_derives_219, ↓dhi_M, ↓dhG_M_0, ↓dhG_M_1, ↓dhG_M_2, ↓dhG_M_3, ↓dhG_M_4, ↓dhG_M_5, ↓dhG_M_6, ↓dhG_M_7, ↓dhG_M_8, ↓dhg_M_9, ↓dhq_M_9, ↓dhG_M_10, ↓dhG_M_11, ↓dhG_M_12, ↓dhg_M_13, ↓dhq_M_13, ↓dhG_M_14, ↓dhg_M_15, ↓dhq_M_15, ↓dhG_M_16, ↓dhg_M_17, ↓dhq_M_17, ↓dhg_M_18, ↓dhq_M_18, ↓dhG_M_19, ↓dhG_M_20, ↓dhG_M_21, ↓dhG_M_22, ↓dhG_M_23, ↓dhG_M_24, ↓dhg_M_25, ↓dhq_M_25, ↓dhG_M_26, ↓dhG_M_27, ↓dhG_M_28, ↓dhg_M_29, ↓dhq_M_29, ↓dhG_M_30, ↓dhG_M_31, ↓dhg_M_32, ↓dhq_M_32, ↓dhg_M_33, ↓dhq_M_33, ↓dhg_M_34, ↓dhq_M_34, ↓dhg_M_35, ↓dhq_M_35, ↓dhG_M_36, ↓dhG_M_37, ↓dhg_M_38, ↓dhq_M_38, ↓dhg_M_39, ↓dhq_M_39, ↓dhG_M_40, ↓dhG_M_41, ↓dhG_M_42, ↓dhG_M_43, ↓dhg_M_44, ↓dhq_M_44, ↓dha_187, ↓dhs_187, ↓dhl_187, Option.bind_some, ↓nm_eq, ↓sm_inl, ↓sm_inr, ↓dzo_0, ↓dzo_1, ↓drg_ok, ↓if_pos, ↓if_neg, if_pos, if_neg, if_true, if_false, Int.toNat_natCast, rg_ok, ↓bnd es, e, Int.toNat_natCast, g38, ek]
/-- one step's head -/
theorem X12_head (hn : 1000000000000000000000000000000 ≤ n) {w : Nat → Nat} {nw : Nat} {J : Nat → Nat → Int} (hE : RE g J) (hF : rF g J L) (hs : WSE w nw J) (hsw : SW w nw) {β : List Nat} {es : List (Bool × Nat)} (hM : QM J β es) (hβ : β.length ≤ 1501) (hm : ∀ s, s ∈ β → s < 8 ∨ (16 ≤ s ∧ s < 32)) {pl st : Nat} (hpc : pl ≤ nw) (hst : st ≤ 300) (r31 : Nat → Int → Int → gi_H → Option (Int × gi_H)) :
    (β = [] ∧ w pl = 8 ∧ pst g w β pl = -1 ∧ b_X12_derives_31 n r31 161 (pl : Int) (st : Int) (hp u J L) = b_X12_derives_53 n 161 (st : Int) (hp u J L)) ∨
    (pst g w β pl = (pl : Int) ∧ b_X12_derives_31 n r31 161 (pl : Int) (st : Int) (hp u J L) = some ((pl : Int), hp u J L)) ∨
    (pst g w β pl = -2 ∧ ∃ s β', β = s :: β' ∧ ((pne g w β pl = (false, s) ∧ s < 8 ∧ b_X12_derives_31 n r31 161 (pl : Int) (st : Int) (hp u J L) = b_X12_derives_157 n r31 161 (pl : Int) (st : Int) (s : Int) (-1) (hp u J L)) ∨ ∃ q, pne g w β pl = (true, q) ∧ q < Gn g ∧ 16 ≤ s ∧ s < 32 ∧ b_X12_derives_31 n r31 161 (pl : Int) (st : Int) (hp u J L) = b_X12_derives_157 n r31 161 (pl : Int) (st : Int) (s : Int) (q : Int) (hp u J L))) := by
  have hg := hE.gr
  have h24 := hg.1
  have h12 := hsw.1
  have e17 := hs.1
  have h9 := hsw.le pl
  -- what is ahead
  have ahead : ∀ s0 : Int, b_X12_derives_82 n r31 161 (pl : Int) (st : Int) s0 (hp u J L) = b_X12_derives_102 n r31 161 (pl : Int) (st : Int) s0 (w pl : Int) (hp u J L) := by
    intro s0
    by_cases c : nw ≤ pl
    · have e8 : (w pl : Int) = 8 := by rw [hsw.2.2 pl c]; rfl
      rw [e8]
      simp (disch := omega) only [b_X12_derives_82, ↓dhi_M, ↓dhG_M_0, ↓dhG_M_1, ↓dhG_M_2, ↓dhG_M_3, ↓dhG_M_4, ↓dhG_M_5, ↓dhG_M_6, ↓dhG_M_7, ↓dhG_M_8, ↓dhg_M_9, ↓dhq_M_9, ↓dhG_M_10, ↓dhG_M_11, ↓dhG_M_12, ↓dhg_M_13, ↓dhq_M_13, ↓dhG_M_14, ↓dhg_M_15, ↓dhq_M_15, ↓dhG_M_16, ↓dhg_M_17, ↓dhq_M_17, ↓dhg_M_18, ↓dhq_M_18, ↓dhG_M_19, ↓dhG_M_20, ↓dhG_M_21, ↓dhG_M_22, ↓dhG_M_23, ↓dhG_M_24, ↓dhg_M_25, ↓dhq_M_25, ↓dhG_M_26, ↓dhG_M_27, ↓dhG_M_28, ↓dhg_M_29, ↓dhq_M_29, ↓dhG_M_30, ↓dhG_M_31, ↓dhg_M_32, ↓dhq_M_32, ↓dhg_M_33, ↓dhq_M_33, ↓dhg_M_34, ↓dhq_M_34, ↓dhg_M_35, ↓dhq_M_35, ↓dhG_M_36, ↓dhG_M_37, ↓dhg_M_38, ↓dhq_M_38, ↓dhg_M_39, ↓dhq_M_39, ↓dhG_M_40, ↓dhG_M_41, ↓dhG_M_42, ↓dhG_M_43, ↓dhg_M_44, ↓dhq_M_44, Option.bind_some, ↓nm_eq, ↓sm_inl, ↓sm_inr, ↓dzo_0, ↓dzo_1, ↓drg_ok, ↓if_pos, ↓if_neg, if_pos, if_neg, if_true, if_false, Int.toNat_natCast, rg_ok, e17]
    · have ew : J 175 pl = (w pl : Int) := hs.2 pl (by omega)
      simp (disch := omega) only [b_X12_derives_82, ↓dhi_M, ↓dhG_M_0, ↓dhG_M_1, ↓dhG_M_2, ↓dhG_M_3, ↓dhG_M_4, ↓dhG_M_5, ↓dhG_M_6, ↓dhG_M_7, ↓dhG_M_8, ↓dhg_M_9, ↓dhq_M_9, ↓dhG_M_10, ↓dhG_M_11, ↓dhG_M_12, ↓dhg_M_13, ↓dhq_M_13, ↓dhG_M_14, ↓dhg_M_15, ↓dhq_M_15, ↓dhG_M_16, ↓dhg_M_17, ↓dhq_M_17, ↓dhg_M_18, ↓dhq_M_18, ↓dhG_M_19, ↓dhG_M_20, ↓dhG_M_21, ↓dhG_M_22, ↓dhG_M_23, ↓dhG_M_24, ↓dhg_M_25, ↓dhq_M_25, ↓dhG_M_26, ↓dhG_M_27, ↓dhG_M_28, ↓dhg_M_29, ↓dhq_M_29, ↓dhG_M_30, ↓dhG_M_31, ↓dhg_M_32, ↓dhq_M_32, ↓dhg_M_33, ↓dhq_M_33, ↓dhg_M_34, ↓dhq_M_34, ↓dhg_M_35, ↓dhq_M_35, ↓dhG_M_36, ↓dhG_M_37, ↓dhg_M_38, ↓dhq_M_38, ↓dhg_M_39, ↓dhq_M_39, ↓dhG_M_40, ↓dhG_M_41, ↓dhG_M_42, ↓dhG_M_43, ↓dhg_M_44, ↓dhq_M_44, ↓dha_175, ↓dhs_175, ↓dhl_175, Option.bind_some, ↓nm_eq, ↓sm_inl, ↓sm_inr, ↓dzo_0, ↓dzo_1, ↓drg_ok, ↓if_pos, ↓if_neg, if_pos, if_neg, if_true, if_false, Int.toNat_natCast, rg_ok, e17, ew]
  have hnw : w pl = 8 ↔ pl = nw := by
    constructor
    · intro z
      apply Classical.byContradiction; intro y
      have := hsw.2.1 pl (by omega); omega
    · intro z; exact hsw.2.2 pl (by omega)
  cases β with
  | nil =>
    have e4 : J 161 38 = 0 := hM.1
    have e8 : pst g w [] pl = if w pl = 8 then (-1 : Int) else (pl : Int) := rfl
    by_cases c : w pl = 8
    · left
      rw [if_pos c] at e8
      have c' := hnw.mp c
      refine ⟨rfl, c, e8, ?_⟩
      simp (disch := omega) only [b_X12_derives_31, ↓dhi_M, ↓dhG_M_0, ↓dhG_M_1, ↓dhG_M_2, ↓dhG_M_3, ↓dhG_M_4, ↓dhG_M_5, ↓dhG_M_6, ↓dhG_M_7, ↓dhG_M_8, ↓dhg_M_9, ↓dhq_M_9, ↓dhG_M_10, ↓dhG_M_11, ↓dhG_M_12, ↓dhg_M_13, ↓dhq_M_13, ↓dhG_M_14, ↓dhg_M_15, ↓dhq_M_15, ↓dhG_M_16, ↓dhg_M_17, ↓dhq_M_17, ↓dhg_M_18, ↓dhq_M_18, ↓dhG_M_19, ↓dhG_M_20, ↓dhG_M_21, ↓dhG_M_22, ↓dhG_M_23, ↓dhG_M_24, ↓dhg_M_25, ↓dhq_M_25, ↓dhG_M_26, ↓dhG_M_27, ↓dhG_M_28, ↓dhg_M_29, ↓dhq_M_29, ↓dhG_M_30, ↓dhG_M_31, ↓dhg_M_32, ↓dhq_M_32, ↓dhg_M_33, ↓dhq_M_33, ↓dhg_M_34, ↓dhq_M_34, ↓dhg_M_35, ↓dhq_M_35, ↓dhG_M_36, ↓dhG_M_37, ↓dhg_M_38, ↓dhq_M_38, ↓dhg_M_39, ↓dhq_M_39, ↓dhG_M_40, ↓dhG_M_41, ↓dhG_M_42, ↓dhG_M_43, ↓dhg_M_44, ↓dhq_M_44, Option.bind_some, ↓nm_eq, ↓sm_inl, ↓sm_inr, ↓dzo_0, ↓dzo_1, ↓drg_ok, ↓if_pos, ↓if_neg, if_pos, if_neg, if_true, if_false, Int.toNat_natCast, rg_ok, e4, e17]
    · right; left
      rw [if_neg c] at e8
      have c' : pl ≠ nw := fun z => c (hnw.mpr z)
      refine ⟨e8, ?_⟩
      have a := ahead (-1)
      simp (disch := omega) only [b_X12_derives_31, b_X12_derives_60, ↓dhi_M, ↓dhG_M_0, ↓dhG_M_1, ↓dhG_M_2, ↓dhG_M_3, ↓dhG_M_4, ↓dhG_M_5, ↓dhG_M_6, ↓dhG_M_7, ↓dhG_M_8, ↓dhg_M_9, ↓dhq_M_9, ↓dhG_M_10, ↓dhG_M_11, ↓dhG_M_12, ↓dhg_M_13, ↓dhq_M_13, ↓dhG_M_14, ↓dhg_M_15, ↓dhq_M_15, ↓dhG_M_16, ↓dhg_M_17, ↓dhq_M_17, ↓dhg_M_18, ↓dhq_M_18, ↓dhG_M_19, ↓dhG_M_20, ↓dhG_M_21, ↓dhG_M_22, ↓dhG_M_23, ↓dhG_M_24, ↓dhg_M_25, ↓dhq_M_25, ↓dhG_M_26, ↓dhG_M_27, ↓dhG_M_28, ↓dhg_M_29, ↓dhq_M_29, ↓dhG_M_30, ↓dhG_M_31, ↓dhg_M_32, ↓dhq_M_32, ↓dhg_M_33, ↓dhq_M_33, ↓dhg_M_34, ↓dhq_M_34, ↓dhg_M_35, ↓dhq_M_35, ↓dhG_M_36, ↓dhG_M_37, ↓dhg_M_38, ↓dhq_M_38, ↓dhg_M_39, ↓dhq_M_39, ↓dhG_M_40, ↓dhG_M_41, ↓dhG_M_42, ↓dhG_M_43, ↓dhg_M_44, ↓dhq_M_44, Option.bind_some, ↓nm_eq, ↓sm_inl, ↓sm_inr, ↓dzo_0, ↓dzo_1, ↓drg_ok, ↓if_pos, ↓if_neg, if_pos, if_neg, if_true, if_false, Int.toNat_natCast, rg_ok, e4, e17, a, b_X12_derives_102, b_X12_derives_129]
  | cons s β =>
    have e4 : J 161 38 = ((β.length + 1 : Nat) : Int) := hM.1
    have hl : β.length + 1 ≤ 1501 := hβ
    have es1 : J 187 β.length = (s : Int) := hM.2.1.1
    have ei : (((β.length + 1 : Nat) : Int) - 1).toNat = β.length := by omega
    have hsr := hm s (List.mem_cons_self ..)
    have a := ahead (s : Int)
    have e8 : pst g w (s :: β) pl = if s < 16 then (if s = w pl then (-2 : Int) else (pl : Int)) else if zpl g (s - 16) (w pl) = -1 then (pl : Int) else -2 := rfl
    have e31 : b_X12_derives_31 n r31 161 (pl : Int) (st : Int) (hp u J L) = b_X12_derives_102 n r31 161 (pl : Int) (st : Int) (s : Int) (w pl : Int) (hp u J L) := by
      rw [← a]
      simp (disch := omega) only [b_X12_derives_31, b_X12_derives_60, ↓dhi_M, ↓dhG_M_0, ↓dhG_M_1, ↓dhG_M_2, ↓dhG_M_3, ↓dhG_M_4, ↓dhG_M_5, ↓dhG_M_6, ↓dhG_M_7, ↓dhG_M_8, ↓dhg_M_9, ↓dhq_M_9, ↓dhG_M_10, ↓dhG_M_11, ↓dhG_M_12, ↓dhg_M_13, ↓dhq_M_13, ↓dhG_M_14, ↓dhg_M_15, ↓dhq_M_15, ↓dhG_M_16, ↓dhg_M_17, ↓dhq_M_17, ↓dhg_M_18, ↓dhq_M_18, ↓dhG_M_19, ↓dhG_M_20, ↓dhG_M_21, ↓dhG_M_22, ↓dhG_M_23, ↓dhG_M_24, ↓dhg_M_25, ↓dhq_M_25, ↓dhG_M_26, ↓dhG_M_27, ↓dhG_M_28, ↓dhg_M_29, ↓dhq_M_29, ↓dhG_M_30, ↓dhG_M_31, ↓dhg_M_32, ↓dhq_M_32, ↓dhg_M_33, ↓dhq_M_33, ↓dhg_M_34, ↓dhq_M_34, ↓dhg_M_35, ↓dhq_M_35, ↓dhG_M_36, ↓dhG_M_37, ↓dhg_M_38, ↓dhq_M_38, ↓dhg_M_39, ↓dhq_M_39, ↓dhG_M_40, ↓dhG_M_41, ↓dhG_M_42, ↓dhG_M_43, ↓dhg_M_44, ↓dhq_M_44, ↓dha_187, ↓dhs_187, ↓dhl_187, Option.bind_some, ↓nm_eq, ↓sm_inl, ↓sm_inr, ↓dzo_0, ↓dzo_1, ↓drg_ok, ↓if_pos, ↓if_neg, if_pos, if_neg, if_true, if_false, Int.toNat_natCast, rg_ok, e4, ei, es1]
    rw [e31]
    by_cases c : s < 16
    · have hs8 : s < 8 := by omega
      rw [if_pos c] at e8
      by_cases c2 : s = w pl
      · right; right
        rw [if_pos c2] at e8
        refine ⟨e8, s, β, rfl, Or.inl ⟨if_pos c, hs8, ?_⟩⟩
        simp (disch := omega) only [b_X12_derives_102, b_X12_derives_129, b_X12_derives_143, ↓dhi_M, ↓dhG_M_0, ↓dhG_M_1, ↓dhG_M_2, ↓dhG_M_3, ↓dhG_M_4, ↓dhG_M_5, ↓dhG_M_6, ↓dhG_M_7, ↓dhG_M_8, ↓dhg_M_9, ↓dhq_M_9, ↓dhG_M_10, ↓dhG_M_11, ↓dhG_M_12, ↓dhg_M_13, ↓dhq_M_13, ↓dhG_M_14, ↓dhg_M_15, ↓dhq_M_15, ↓dhG_M_16, ↓dhg_M_17, ↓dhq_M_17, ↓dhg_M_18, ↓dhq_M_18, ↓dhG_M_19, ↓dhG_M_20, ↓dhG_M_21, ↓dhG_M_22, ↓dhG_M_23, ↓dhG_M_24, ↓dhg_M_25, ↓dhq_M_25, ↓dhG_M_26, ↓dhG_M_27, ↓dhG_M_28, ↓dhg_M_29, ↓dhq_M_29, ↓dhG_M_30, ↓dhG_M_31, ↓dhg_M_32, ↓dhq_M_32, ↓dhg_M_33, ↓dhq_M_33, ↓dhg_M_34, ↓dhq_M_34, ↓dhg_M_35, ↓dhq_M_35, ↓dhG_M_36, ↓dhG_M_37, ↓dhg_M_38, ↓dhq_M_38, ↓dhg_M_39, ↓dhq_M_39, ↓dhG_M_40, ↓dhG_M_41, ↓dhG_M_42, ↓dhG_M_43, ↓dhg_M_44, ↓dhq_M_44, Option.bind_some, ↓nm_eq, ↓sm_inl, ↓sm_inr, ↓dzo_0, ↓dzo_1, ↓drg_ok, ↓if_pos, ↓if_neg, if_pos, if_neg, if_true, if_false, Int.toNat_natCast, rg_ok]
      · right; left
        rw [if_neg c2] at e8
        refine ⟨e8, ?_⟩
        simp (disch := omega) only [b_X12_derives_102, b_X12_derives_129, b_X12_derives_143, ↓dhi_M, ↓dhG_M_0, ↓dhG_M_1, ↓dhG_M_2, ↓dhG_M_3, ↓dhG_M_4, ↓dhG_M_5, ↓dhG_M_6, ↓dhG_M_7, ↓dhG_M_8, ↓dhg_M_9, ↓dhq_M_9, ↓dhG_M_10, ↓dhG_M_11, ↓dhG_M_12, ↓dhg_M_13, ↓dhq_M_13, ↓dhG_M_14, ↓dhg_M_15, ↓dhq_M_15, ↓dhG_M_16, ↓dhg_M_17, ↓dhq_M_17, ↓dhg_M_18, ↓dhq_M_18, ↓dhG_M_19, ↓dhG_M_20, ↓dhG_M_21, ↓dhG_M_22, ↓dhG_M_23, ↓dhG_M_24, ↓dhg_M_25, ↓dhq_M_25, ↓dhG_M_26, ↓dhG_M_27, ↓dhG_M_28, ↓dhg_M_29, ↓dhq_M_29, ↓dhG_M_30, ↓dhG_M_31, ↓dhg_M_32, ↓dhq_M_32, ↓dhg_M_33, ↓dhq_M_33, ↓dhg_M_34, ↓dhq_M_34, ↓dhg_M_35, ↓dhq_M_35, ↓dhG_M_36, ↓dhG_M_37, ↓dhg_M_38, ↓dhq_M_38, ↓dhg_M_39, ↓dhq_M_39, ↓dhG_M_40, ↓dhG_M_41, ↓dhG_M_42, ↓dhG_M_43, ↓dhg_M_44, ↓dhq_M_44, Option.bind_some, ↓nm_eq, ↓sm_inl, ↓sm_inr, ↓dzo_0, ↓dzo_1, ↓drg_ok, ↓if_pos, ↓if_neg, if_pos, if_neg, if_true, if_false, Int.toNat_natCast, rg_ok]
    · have e16 : (s : Int) - 16 = ((s - 16 : Nat) : Int) := by omega
      have el := X12_predicted (u := u) hn hE hF (a := s - 16) (y := w pl) (by omega) h9
      obtain ⟨-, -, y3, y4, y5⟩ := zpv_rg hg (a := s - 16) (y := w pl)
      rw [if_neg c] at e8
      rcases zpl_rg g (s - 16) (w pl) with ⟨z, -⟩ | ⟨q, z, z2, -⟩
      · right; left
        rw [if_pos z] at e8
        rw [z] at y3
        refine ⟨e8, ?_⟩
        rw [z] at el y4 y5
        simp (disch := omega) only [b_X12_derives_102, b_X12_derives_129, b_X12_derives_143, ↓dhi_M, ↓dhG_M_0, ↓dhG_M_1, ↓dhG_M_2, ↓dhG_M_3, ↓dhG_M_4, ↓dhG_M_5, ↓dhG_M_6, ↓dhG_M_7, ↓dhG_M_8, ↓dhg_M_9, ↓dhq_M_9, ↓dhG_M_10, ↓dhG_M_11, ↓dhG_M_12, ↓dhg_M_13, ↓dhq_M_13, ↓dhG_M_14, ↓dhg_M_15, ↓dhq_M_15, ↓dhG_M_16, ↓dhg_M_17, ↓dhq_M_17, ↓dhg_M_18, ↓dhq_M_18, ↓dhG_M_19, ↓dhG_M_20, ↓dhG_M_21, ↓dhG_M_22, ↓dhG_M_23, ↓dhG_M_24, ↓dhg_M_25, ↓dhq_M_25, ↓dhG_M_26, ↓dhG_M_27, ↓dhG_M_28, ↓dhg_M_29, ↓dhq_M_29, ↓dhG_M_30, ↓dhG_M_31, ↓dhg_M_32, ↓dhq_M_32, ↓dhg_M_33, ↓dhq_M_33, ↓dhg_M_34, ↓dhq_M_34, ↓dhg_M_35, ↓dhq_M_35, ↓dhG_M_36, ↓dhG_M_37, ↓dhg_M_38, ↓dhq_M_38, ↓dhg_M_39, ↓dhq_M_39, ↓dhG_M_40, ↓dhG_M_41, ↓dhG_M_42, ↓dhG_M_43, ↓dhg_M_44, ↓dhq_M_44, Option.bind_some, ↓nm_eq, ↓sm_inl, ↓sm_inr, ↓dzo_0, ↓dzo_1, ↓drg_ok, ↓if_pos, ↓if_neg, if_pos, if_neg, if_true, if_false, Int.toNat_natCast, rg_ok, e16, ↓bnd el, ↓ddg_ok, y3]
      · right; right
        rw [if_neg (by rw [z]; omega)] at e8
        have en2 : pne g w (s :: β) pl = (true, q) := by
          have : pne g w (s :: β) pl = (true, (zpl g (s - 16) (w pl)).toNat) := if_neg c
          rw [this, z, Int.toNat_natCast]
        refine ⟨e8, s, β, rfl, Or.inr ⟨q, en2, z2, by omega, by omega, ?_⟩⟩
        rw [z] at el y3 y4 y5
        simp (disch := omega) only [b_X12_derives_102, b_X12_derives_129, b_X12_derives_143, ↓dhi_M, ↓dhG_M_0, ↓dhG_M_1, ↓dhG_M_2, ↓dhG_M_3, ↓dhG_M_4, ↓dhG_M_5, ↓dhG_M_6, ↓dhG_M_7, ↓dhG_M_8, ↓dhg_M_9, ↓dhq_M_9, ↓dhG_M_10, ↓dhG_M_11, ↓dhG_M_12, ↓dhg_M_13, ↓dhq_M_13, ↓dhG_M_14, ↓dhg_M_15, ↓dhq_M_15, ↓dhG_M_16, ↓dhg_M_17, ↓dhq_M_17, ↓dhg_M_18, ↓dhq_M_18, ↓dhG_M_19, ↓dhG_M_20, ↓dhG_M_21, ↓dhG_M_22, ↓dhG_M_23, ↓dhG_M_24, ↓dhg_M_25, ↓dhq_M_25, ↓dhG_M_26, ↓dhG_M_27, ↓dhG_M_28, ↓dhg_M_29, ↓dhq_M_29, ↓dhG_M_30, ↓dhG_M_31, ↓dhg_M_32, ↓dhq_M_32, ↓dhg_M_33, ↓dhq_M_33, ↓dhg_M_34, ↓dhq_M_34, ↓dhg_M_35, ↓dhq_M_35, ↓dhG_M_36, ↓dhG_M_37, ↓dhg_M_38, ↓dhq_M_38, ↓dhg_M_39, ↓dhq_M_39, ↓dhG_M_40, ↓dhG_M_41, ↓dhG_M_42, ↓dhG_M_43, ↓dhg_M_44, ↓dhq_M_44, Option.bind_some, ↓nm_eq, ↓sm_inl, ↓sm_inr, ↓dzo_0, ↓dzo_1, ↓drg_ok, ↓if_pos, ↓if_neg, if_pos, if_neg, if_true, if_false, Int.toNat_natCast, rg_ok, e16, ↓bnd el, ↓ddg_ok, y3]
theorem X12_derl (hn : 1000000000000000000000000000000 ≤ n) {w : Nat → Nat} {nw : Nat} {J0 : Nat → Nat → Int} (hE : RE g J0) (hF : rF g J0 L) (hs : WSE w nw J0) (hsw : SW w nw) :
    ∀ (r f : Nat) (J : Nat → Nat → Int) (β : List Nat) (es : List (Bool × Nat)) (pl : Nat), r + 1 < f → Fr RVL J0 J → RUK J0 J → QM J β es → pC g es β → es.length + r = 300 → pl ≤ nw →
    ∃ J', l_X12_derives_31 n f 161 (pl : Int) ((300 - r : Nat) : Int) (hp u J L) = some ((pq g w r β es pl).1, hp u J' L) ∧ Fr RVL J0 J' ∧ RUK J0 J' ∧ ((pq g w r β es pl).1 = -1 → J' 161 39 = pval g (pq g w r β es pl).2) := by
  have hg := hE.gr
  have h24 := hg.1
  have acc : ∀ (J : Nat → Nat → Int) (es : List (Bool × Nat)) (st : Nat), Fr RVL J0 J → RUK J0 J → QM J [] es → pC g es [] → es.length ≤ 300 → st = es.length → ∃ J', b_X12_derives_53 n 161 (st : Int) (hp u J L) = some (-1, hp u J' L) ∧ Fr RVL J0 J' ∧ RUK J0 J' ∧ J' 161 39 = pval g es := by
    intro J es st f1 q1 hM hpc hes hst
    obtain ⟨J1, e1, f2, q2, e39⟩ := X12_gathers (u := u) (L := L) hn (hE.run f1 q1) hpc hM.2.2 hes
    subst hst
    refine ⟨J1, ?_, f1.tr f2, fun k a b => (q2 k a b).trans (q1 k a b), e39⟩
    simp (disch := omega) only [b_X12_derives_53, ↓dhi_M, ↓dhG_M_0, ↓dhG_M_1, ↓dhG_M_2, ↓dhG_M_3, ↓dhG_M_4, ↓dhG_M_5, ↓dhG_M_6, ↓dhG_M_7, ↓dhG_M_8, ↓dhg_M_9, ↓dhq_M_9, ↓dhG_M_10, ↓dhG_M_11, ↓dhG_M_12, ↓dhg_M_13, ↓dhq_M_13, ↓dhG_M_14, ↓dhg_M_15, ↓dhq_M_15, ↓dhG_M_16, ↓dhg_M_17, ↓dhq_M_17, ↓dhg_M_18, ↓dhq_M_18, ↓dhG_M_19, ↓dhG_M_20, ↓dhG_M_21, ↓dhG_M_22, ↓dhG_M_23, ↓dhG_M_24, ↓dhg_M_25, ↓dhq_M_25, ↓dhG_M_26, ↓dhG_M_27, ↓dhG_M_28, ↓dhg_M_29, ↓dhq_M_29, ↓dhG_M_30, ↓dhG_M_31, ↓dhg_M_32, ↓dhq_M_32, ↓dhg_M_33, ↓dhq_M_33, ↓dhg_M_34, ↓dhq_M_34, ↓dhg_M_35, ↓dhq_M_35, ↓dhG_M_36, ↓dhG_M_37, ↓dhg_M_38, ↓dhq_M_38, ↓dhg_M_39, ↓dhq_M_39, ↓dhG_M_40, ↓dhG_M_41, ↓dhG_M_42, ↓dhG_M_43, ↓dhg_M_44, ↓dhq_M_44, Option.bind_some, ↓nm_eq, ↓sm_inl, ↓sm_inr, ↓dzo_0, ↓dzo_1, ↓drg_ok, ↓if_pos, ↓if_neg, if_pos, if_neg, if_true, if_false, Int.toNat_natCast, rg_ok, ↓bnd e1]
  intro r
  induction r with
  | zero =>
    intro f J β es pl hf f1 q1 hM hpc hes hpl
    obtain ⟨f', rfl⟩ : ∃ f', f = f' + 1 + 1 := ⟨f - 2, by omega⟩
    have hS : WSE w nw J := ⟨(q1 17 (by decide) (by decide)).trans hs.1, fun i hi => by rw [f1 175 (by decide)]; exact hs.2 i hi⟩
    have hl := pC_len hg hpc
    have e0 : l_X12_derives_31 n (f' + 1 + 1) 161 (pl : Int) ((300 - 0 : Nat) : Int) (hp u J L) = b_X12_derives_31 n (l_X12_derives_31 n (f' + 1)) 161 (pl : Int) ((300 - 0 : Nat) : Int) (hp u J L) := rfl
    rw [e0]
    rcases X12_head (u := u) hn (hE.run f1 q1) (hF.run f1 q1) hS hsw hM (by omega) (pC_mem hg hpc) (pl := pl) (st := 300 - 0) hpl (by omega) (l_X12_derives_31 n (f' + 1)) with ⟨z1, z2, z3, z4⟩ | ⟨z1, z2⟩ | ⟨z1, s, β', z2, z3⟩
    · subst z1
      rw [z4, pq_end 0 (by rw [z3]; decide), z3]
      obtain ⟨J', a, b, c, d⟩ := acc J es (300 - 0) f1 q1 hM hpc (by omega) (by omega)
      exact ⟨J', a, b, c, fun _ => d⟩
    · rw [z2, pq_end 0 (by rw [z1]; omega), z1]
      exact ⟨J, rfl, f1, q1, fun y => by dsimp only at y; omega⟩
    · rw [pq_0 z1]
      refine ⟨J, ?_, f1, q1, fun y => by dsimp only at y; omega⟩
      rcases z3 with ⟨-, -, z⟩ | ⟨q, -, -, -, -, z⟩
      · rw [z]
        simp (disch := omega) only [b_X12_derives_157, b_X12_derives_257, l_X12_derives_31, b_X12_derives_31, ↓dhi_M, ↓dhG_M_0, ↓dhG_M_1, ↓dhG_M_2, ↓dhG_M_3, ↓dhG_M_4, ↓dhG_M_5, ↓dhG_M_6, ↓dhG_M_7, ↓dhG_M_8, ↓dhg_M_9, ↓dhq_M_9, ↓dhG_M_10, ↓dhG_M_11, ↓dhG_M_12, ↓dhg_M_13, ↓dhq_M_13, ↓dhG_M_14, ↓dhg_M_15, ↓dhq_M_15, ↓dhG_M_16, ↓dhg_M_17, ↓dhq_M_17, ↓dhg_M_18, ↓dhq_M_18, ↓dhG_M_19, ↓dhG_M_20, ↓dhG_M_21, ↓dhG_M_22, ↓dhG_M_23, ↓dhG_M_24, ↓dhg_M_25, ↓dhq_M_25, ↓dhG_M_26, ↓dhG_M_27, ↓dhG_M_28, ↓dhg_M_29, ↓dhq_M_29, ↓dhG_M_30, ↓dhG_M_31, ↓dhg_M_32, ↓dhq_M_32, ↓dhg_M_33, ↓dhq_M_33, ↓dhg_M_34, ↓dhq_M_34, ↓dhg_M_35, ↓dhq_M_35, ↓dhG_M_36, ↓dhG_M_37, ↓dhg_M_38, ↓dhq_M_38, ↓dhg_M_39, ↓dhq_M_39, ↓dhG_M_40, ↓dhG_M_41, ↓dhG_M_42, ↓dhG_M_43, ↓dhg_M_44, ↓dhq_M_44, Option.bind_some, ↓nm_eq, ↓sm_inl, ↓sm_inr, ↓dzo_0, ↓dzo_1, ↓drg_ok, ↓if_pos, ↓if_neg, if_pos, if_neg, if_true, if_false, Int.toNat_natCast, rg_ok]
      · rw [z]
        simp (disch := omega) only [b_X12_derives_157, b_X12_derives_257, l_X12_derives_31, b_X12_derives_31, ↓dhi_M, ↓dhG_M_0, ↓dhG_M_1, ↓dhG_M_2, ↓dhG_M_3, ↓dhG_M_4, ↓dhG_M_5, ↓dhG_M_6, ↓dhG_M_7, ↓dhG_M_8, ↓dhg_M_9, ↓dhq_M_9, ↓dhG_M_10, ↓dhG_M_11, ↓dhG_M_12, ↓dhg_M_13, ↓dhq_M_13, ↓dhG_M_14, ↓dhg_M_15, ↓dhq_M_15, ↓dhG_M_16, ↓dhg_M_17, ↓dhq_M_17, ↓dhg_M_18, ↓dhq_M_18, ↓dhG_M_19, ↓dhG_M_20, ↓dhG_M_21, ↓dhG_M_22, ↓dhG_M_23, ↓dhG_M_24, ↓dhg_M_25, ↓dhq_M_25, ↓dhG_M_26, ↓dhG_M_27, ↓dhG_M_28, ↓dhg_M_29, ↓dhq_M_29, ↓dhG_M_30, ↓dhG_M_31, ↓dhg_M_32, ↓dhq_M_32, ↓dhg_M_33, ↓dhq_M_33, ↓dhg_M_34, ↓dhq_M_34, ↓dhg_M_35, ↓dhq_M_35, ↓dhG_M_36, ↓dhG_M_37, ↓dhg_M_38, ↓dhq_M_38, ↓dhg_M_39, ↓dhq_M_39, ↓dhG_M_40, ↓dhG_M_41, ↓dhG_M_42, ↓dhG_M_43, ↓dhg_M_44, ↓dhq_M_44, Option.bind_some, ↓nm_eq, ↓sm_inl, ↓sm_inr, ↓dzo_0, ↓dzo_1, ↓drg_ok, ↓if_pos, ↓if_neg, if_pos, if_neg, if_true, if_false, Int.toNat_natCast, rg_ok]
  | succ r ih =>
    intro f J β es pl hf f1 q1 hM hpc hes hpl
    obtain ⟨f', rfl⟩ : ∃ f', f = f' + 1 := ⟨f - 1, by omega⟩
    have hS : WSE w nw J := ⟨(q1 17 (by decide) (by decide)).trans hs.1, fun i hi => by rw [f1 175 (by decide)]; exact hs.2 i hi⟩
    have hl := pC_len hg hpc
    have est : 300 - (r + 1) = es.length := by omega
    have estep : (es.length : Int) + 1 = ((300 - r : Nat) : Int) := by omega
    have e0 : l_X12_derives_31 n (f' + 1) 161 (pl : Int) ((300 - (r + 1) : Nat) : Int) (hp u J L) = b_X12_derives_31 n (l_X12_derives_31 n f') 161 (pl : Int) (es.length : Int) (hp u J L) := by rw [est]; rfl
    rw [e0]
    rcases X12_head (u := u) hn (hE.run f1 q1) (hF.run f1 q1) hS hsw hM (by omega) (pC_mem hg hpc) (pl := pl) (st := es.length) hpl (by omega) (l_X12_derives_31 n f') with ⟨z1, z2, z3, z4⟩ | ⟨z1, z2⟩ | ⟨z1, s, β', z2, z3⟩
    · subst z1
      rw [z4, pq_end (r + 1) (by rw [z3]; decide), z3]
      obtain ⟨J', a, b, c, d⟩ := acc J es es.length f1 q1 hM hpc (by omega) rfl
      exact ⟨J', a, b, c, fun _ => d⟩
    · rw [z2, pq_end (r + 1) (by rw [z1]; omega), z1]
      exact ⟨J, rfl, f1, q1, fun y => by dsimp only at y; omega⟩
    · have hst := pC_step hg hsw hpc hpl z1
      rw [pq_s r z1]
      have e4 : J 161 38 = ((β'.length + 1 : Nat) : Int) := by rw [hM.1, z2]; rfl
      have e38 : ((β'.length + 1 : Nat) : Int) - 1 = (β'.length : Int) := by omega
      have hl1 : β'.length + 1 ≤ 1 + 5 * es.length := by rw [z2] at hl; exact hl
      have hAβ : AX nJx J 187 β' := by
        have := hM.2.1
        rw [z2] at this; exact this.2
      rcases z3 with ⟨y1, y2, z⟩ | ⟨q, y1, y2, y3, y4, z⟩
      · rw [y1] at hst ⊢
        have eb : pnb g (false, s) β = β' := by unfold pnb; rw [if_neg (by simp), z2]; rfl
        have ep : (if (false, s).1 = true then pl else pl + 1) = pl + 1 := if_neg (by simp)
        rw [eb, ep] at hst ⊢
        have hec : -((s : Int) + 1) = ec (false, s) := by unfold ec; rw [if_neg (by simp)]
        obtain ⟨K, hK⟩ : ∃ K, K = gx_u (gx_u J 161 38 (β'.length : Int)) 189 es.length (ec (false, s)) := ⟨_, rfl⟩
        have fK : Fr RVL J0 K := by rw [hK]; exact (f1.wr (by decide)).wr (by decide)
        have qK : RUK J0 K := fun k a b => by rw [hK, gu_ne (by decide), gu_at_ne a]; exact q1 k a b
        have hMK : QM K β' ((false, s) :: es) := by
          rw [hK]
          exact ⟨by rw [gu_ne (by decide), gu_at_eq rfl], AX_fr hAβ (fun i _ => by rw [gu_ne (by decide), gu_ne (by decide)]), AX_push (AX_fr hM.2.2 (fun i _ => by rw [gu_ne (by decide)]))⟩
        obtain ⟨J', i1, i2, i3, i4⟩ := ih f' K β' ((false, s) :: es) (pl + 1) (by omega) fK qK hMK hst.1 (by simp only [List.length_cons]; omega) hst.2
        refine ⟨J', ?_, i2, i3, i4⟩
        have ep1 : (pl : Int) + 1 = ((pl + 1 : Nat) : Int) := rfl
        have e219 : ∀ f2 K2, l_X12_derives_219 n (l_X12_derives_31 n f') (f2 + 1) 161 ((pl + 1 : Nat) : Int) (es.length : Int) (-1) (0 - 1) (hp u K2 L) = l_X12_derives_31 n f' 161 ((pl + 1 : Nat) : Int) ((300 - r : Nat) : Int) (hp u K2 L) := fun f2 K2 => by
          simp (disch := omega) only [l_X12_derives_219, b_X12_derives_219, b_X12_derives_257, Option.bind_some, ↓nm_eq, ↓sm_inl, ↓sm_inr, ↓dzo_0, ↓dzo_1, ↓drg_ok, ↓if_pos, ↓if_neg, if_pos, if_neg, if_true, if_false, Int.toNat_natCast, rg_ok, estep]
        obtain ⟨m, hm⟩ : ∃ m, n = m + 1 := ⟨n - 1, by omega⟩
        have e219' : l_X12_derives_219 n (l_X12_derives_31 n f') n 161 ((pl + 1 : Nat) : Int) (es.length : Int) (-1) (0 - 1) (hp u K L) = l_X12_derives_31 n f' 161 ((pl + 1 : Nat) : Int) ((300 - r : Nat) : Int) (hp u K L) := by
          conv => lhs; arg 3; rw [hm]
          exact e219 m K
        rw [z, ← i1, ← e219', hK]
        simp (disch := omega) only [b_X12_derives_157, b_X12_derives_194, b_X12_derives_207, f_X12_sizeOr, ↓dhi_M, ↓dhG_M_0, ↓dhG_M_1, ↓dhG_M_2, ↓dhG_M_3, ↓dhG_M_4, ↓dhG_M_5, ↓dhG_M_6, ↓dhG_M_7, ↓dhG_M_8, ↓dhg_M_9, ↓dhq_M_9, ↓dhG_M_10, ↓dhG_M_11, ↓dhG_M_12, ↓dhg_M_13, ↓dhq_M_13, ↓dhG_M_14, ↓dhg_M_15, ↓dhq_M_15, ↓dhG_M_16, ↓dhg_M_17, ↓dhq_M_17, ↓dhg_M_18, ↓dhq_M_18, ↓dhG_M_19, ↓dhG_M_20, ↓dhG_M_21, ↓dhG_M_22, ↓dhG_M_23, ↓dhG_M_24, ↓dhg_M_25, ↓dhq_M_25, ↓dhG_M_26, ↓dhG_M_27, ↓dhG_M_28, ↓dhg_M_29, ↓dhq_M_29, ↓dhG_M_30, ↓dhG_M_31, ↓dhg_M_32, ↓dhq_M_32, ↓dhg_M_33, ↓dhq_M_33, ↓dhg_M_34, ↓dhq_M_34, ↓dhg_M_35, ↓dhq_M_35, ↓dhG_M_36, ↓dhG_M_37, ↓dhg_M_38, ↓dhq_M_38, ↓dhg_M_39, ↓dhq_M_39, ↓dhG_M_40, ↓dhG_M_41, ↓dhG_M_42, ↓dhG_M_43, ↓dhg_M_44, ↓dhq_M_44, ↓dha_189, ↓dhs_189, ↓dhl_189, Option.bind_some, ↓nm_eq, ↓sm_inl, ↓sm_inr, ↓dzo_0, ↓dzo_1, ↓drg_ok, ↓if_pos, ↓if_neg, if_pos, if_neg, if_true, if_false, Int.toNat_natCast, rg_ok, e4, e38, Int.toNat_natCast, hec, ep1]
      · rw [y1] at hst ⊢
        have eb : pnb g (true, q) β = rh g q ++ β' := by unfold pnb; rw [if_pos rfl, z2]; rfl
        have ep : (if (true, q).1 = true then pl else pl + 1) = pl := if_pos rfl
        rw [eb, ep] at hst ⊢
        have hec : (q : Int) = ec (true, q) := by unfold ec; rw [if_pos rfl]
        obtain ⟨K, hK⟩ : ∃ K, K = gx_u (gx_u J 161 38 (β'.length : Int)) 189 es.length (q : Int) := ⟨_, rfl⟩
        have fK : Fr RVL J0 K := by rw [hK]; exact (f1.wr (by decide)).wr (by decide)
        have qK : RUK J0 K := fun k a b => by rw [hK, gu_ne (by decide), gu_at_ne a]; exact q1 k a b
        have hEK := hE.run fK qK
        have esz := re_size (u := u) (L := L) hEK y2
        have hd : (rh g q).drop (Gl g q) = [] := by
          apply List.eq_nil_of_length_eq_zero
          rw [List.length_drop, rh_len]; omega
        have h5 := hg.2.2.2.1 q
        obtain ⟨K2, j1, j2, j3, j4, j5⟩ := X12_der219 (u := u) (L := L) hn hEK y2 (β := β') (pl := (pl : Int)) (st := (es.length : Int)) (l_X12_derives_31 n f') (Gl g q) n K (by omega) (Nat.le_refl _) Fr.rf (fun _ _ => rfl) (by rw [hd, hK, gu_ne (by decide), gu_at_eq rfl]; rfl) (by rw [hd, hK]; exact AX_fr hAβ (fun i _ => by rw [gu_ne (by decide), gu_ne (by decide)])) (by omega)
        have hM2 : QM K2 (rh g q ++ β') ((true, q) :: es) := by
          refine ⟨j4, j5, ?_⟩
          refine AX_fr (J := K) ?_ (fun i _ => by rw [j2 189 (by decide)])
          rw [hK, hec]
          exact AX_push (AX_fr hM.2.2 (fun i _ => by rw [gu_ne (by decide)]))
        obtain ⟨J', i1, i2, i3, i4⟩ := ih f' K2 (rh g q ++ β') ((true, q) :: es) pl (by omega) (fK.tr (j2.up (fun a z => by simp at z; simp [RVL]; omega))) (fun k a b => (j3 k a).trans (qK k a b)) hM2 hst.1 (by simp only [List.length_cons]; omega) hst.2
        refine ⟨J', ?_, i2, i3, i4⟩
        have ep1 : (pl : Int) + 0 = (pl : Int) := by omega
        have e257 : b_X12_derives_257 n (l_X12_derives_31 n f') 161 (pl : Int) (es.length : Int) (hp u K2 L) = l_X12_derives_31 n f' 161 (pl : Int) ((300 - r : Nat) : Int) (hp u K2 L) := by
          simp (disch := omega) only [b_X12_derives_257, Option.bind_some, ↓nm_eq, ↓sm_inl, ↓sm_inr, ↓dzo_0, ↓dzo_1, ↓drg_ok, ↓if_pos, ↓if_neg, if_pos, if_neg, if_true, if_false, Int.toNat_natCast, rg_ok, estep]
        rw [e257, i1] at j1
        rw [z, ← j1, hK]
        rw [hK] at esz
        simp (disch := omega) only [b_X12_derives_157, b_X12_derives_194, b_X12_derives_207, f_X12_sizeOr, ↓dhi_M, ↓dhG_M_0, ↓dhG_M_1, ↓dhG_M_2, ↓dhG_M_3, ↓dhG_M_4, ↓dhG_M_5, ↓dhG_M_6, ↓dhG_M_7, ↓dhG_M_8, ↓dhg_M_9, ↓dhq_M_9, ↓dhG_M_10, ↓dhG_M_11, ↓dhG_M_12, ↓dhg_M_13, ↓dhq_M_13, ↓dhG_M_14, ↓dhg_M_15, ↓dhq_M_15, ↓dhG_M_16, ↓dhg_M_17, ↓dhq_M_17, ↓dhg_M_18, ↓dhq_M_18, ↓dhG_M_19, ↓dhG_M_20, ↓dhG_M_21, ↓dhG_M_22, ↓dhG_M_23, ↓dhG_M_24, ↓dhg_M_25, ↓dhq_M_25, ↓dhG_M_26, ↓dhG_M_27, ↓dhG_M_28, ↓dhg_M_29, ↓dhq_M_29, ↓dhG_M_30, ↓dhG_M_31, ↓dhg_M_32, ↓dhq_M_32, ↓dhg_M_33, ↓dhq_M_33, ↓dhg_M_34, ↓dhq_M_34, ↓dhg_M_35, ↓dhq_M_35, ↓dhG_M_36, ↓dhG_M_37, ↓dhg_M_38, ↓dhq_M_38, ↓dhg_M_39, ↓dhq_M_39, ↓dhG_M_40, ↓dhG_M_41, ↓dhG_M_42, ↓dhG_M_43, ↓dhg_M_44, ↓dhq_M_44, ↓dha_189, ↓dhs_189, ↓dhl_189, Option.bind_some, ↓nm_eq, ↓sm_inl, ↓sm_inr, ↓dzo_0, ↓dzo_1, ↓drg_ok, ↓if_pos, ↓if_neg, if_pos, if_neg, if_true, if_false, Int.toNat_natCast, rg_ok, e4, e38, Int.toNat_natCast, ep1, ↓bnd esz]
theorem X12_derives (hn : 1000000000000000000000000000000 ≤ n) {w : Nat → Nat} {nw : Nat} {J0 : Nat → Nat → Int} (h : RST g J0 L) (hs : WSE w nw J0) (hsw : SW w nw) :
    ∃ J K, f_X12_derives n 161 (hp u J0 L) = some ((prun g w).1, hp u J K) ∧ Fr (RSL ++ [187, 188, 189]) J0 J ∧ Fr RSL L K ∧ (∀ k, k ≠ 38 → k ≠ 39 → k ≠ 18 → k ≠ 25 → k ≠ 29 → k ≠ 32 → k ≠ 33 → k ≠ 34 → k ≠ 35 → J 161 k = J0 161 k) ∧ RST g J K ∧ ((prun g w).1 = -1 → J 161 39 = pval g (prun g w).2) := by
  have hg := h.1.gr
  have ht7 := hg.2.1
  obtain ⟨J, K, e, f1, f2, f3, w1, h33, hF, hE, -⟩ := RST.found (u := u) hn h
  have h9 := re_w hE
  have hnt := re_t hE
  have hS : WSE w nw J := ⟨(f3 17 (by decide) (by decide) (by decide) (by decide) (by decide) (by decide) (by decide)).trans hs.1, fun i hi => by rw [f1 175 (by decide)]; exact hs.2 i hi⟩
  have e16 : (16 : Int) + (Gt g : Int) = ((16 + Gt g : Nat) : Int) := by omega
  have fa : Fr RVL J (gx_u (gx_u J 187 0 ((16 + Gt g : Nat) : Int)) 161 38 1) := (Fr.rf.wr (by decide)).wr (by decide)
  have ka : RUK J (gx_u (gx_u J 187 0 ((16 + Gt g : Nat) : Int)) 161 38 1) := fun k a _ => by rw [gu_at_ne a, gu_ne (by decide)]
  obtain ⟨J', i1, i2, i3, i4⟩ := X12_derl (u := u) hn hE hF hS hsw 300 n (gx_u (gx_u J 187 0 ((16 + Gt g : Nat) : Int)) 161 38 1) [16 + Gt g] [] 0 (by omega) fa ka ⟨gu_at_eq rfl, ⟨by rw [gu_ne (by decide)]; exact gu_at_eq rfl, trivial⟩, trivial⟩ rfl rfl (Nat.zero_le _)
  have w2 : RST g J' K := by
    refine w1.fr i2 (fun a ha hb => ?_) (fun k hk => i3 k (by omega) (by omega)) rfl
    simp [RSL] at ha
    simp [RVL]
    omega
  refine ⟨J', K, ?_, (f1.up (fun a z => List.mem_append_left _ z)).tr (i2.up (fun a z => by simp [RVL] at z; simp [RSL]; omega)), f2, fun k b1 b2 a1 a2 a3 a4 a5 a6 a7 => (i3 k b1 b2).trans (f3 k a1 a2 a3 a4 a5 a6 a7), w2, i4⟩
  have i1' : l_X12_derives_31 n n 161 0 0 (hp u (gx_u (gx_u J 187 0 ((16 + Gt g : Nat) : Int)) 161 38 1) K) = some ((prun g w).1, hp u J' K) := i1
  rw [← i1']
  simp (disch := omega) only [f_X12_derives, ↓dhi_M, ↓dhG_M_0, ↓dhG_M_1, ↓dhG_M_2, ↓dhG_M_3, ↓dhG_M_4, ↓dhG_M_5, ↓dhG_M_6, ↓dhG_M_7, ↓dhG_M_8, ↓dhg_M_9, ↓dhq_M_9, ↓dhG_M_10, ↓dhG_M_11, ↓dhG_M_12, ↓dhg_M_13, ↓dhq_M_13, ↓dhG_M_14, ↓dhg_M_15, ↓dhq_M_15, ↓dhG_M_16, ↓dhg_M_17, ↓dhq_M_17, ↓dhg_M_18, ↓dhq_M_18, ↓dhG_M_19, ↓dhG_M_20, ↓dhG_M_21, ↓dhG_M_22, ↓dhG_M_23, ↓dhG_M_24, ↓dhg_M_25, ↓dhq_M_25, ↓dhG_M_26, ↓dhG_M_27, ↓dhG_M_28, ↓dhg_M_29, ↓dhq_M_29, ↓dhG_M_30, ↓dhG_M_31, ↓dhg_M_32, ↓dhq_M_32, ↓dhg_M_33, ↓dhq_M_33, ↓dhg_M_34, ↓dhq_M_34, ↓dhg_M_35, ↓dhq_M_35, ↓dhG_M_36, ↓dhG_M_37, ↓dhg_M_38, ↓dhq_M_38, ↓dhg_M_39, ↓dhq_M_39, ↓dhG_M_40, ↓dhG_M_41, ↓dhG_M_42, ↓dhG_M_43, ↓dhg_M_44, ↓dhq_M_44, ↓dha_170, ↓dhs_170, ↓dhl_170, ↓dha_187, ↓dhs_187, ↓dhl_187, Option.bind_some, ↓nm_eq, ↓sm_inl, ↓sm_inr, ↓dzo_0, ↓dzo_1, ↓drg_ok, ↓if_pos, ↓if_neg, if_pos, if_neg, if_true, if_false, Int.toNat_natCast, rg_ok, ↓bnd e, h9.1, hnt, Int.toNat_natCast, e16] <;> rfl
end PT_
