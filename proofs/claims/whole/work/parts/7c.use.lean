/-! ===== calls: the grammar that is used ===== -/
theorem gU_1 {u : Nat} (hu : u < 2) : gU (1 - u) = gO u ∧ gO (1 - u) = gU u := by
  rcases (by omega : u = 0 ∨ u = 1) with q | q <;> subst q <;> exact ⟨rfl, rfl⟩
def Rsw (u : Nat) : Nat → Nat → Option Nat := gx_u (gx_u (hR u) 0 1 (some (gO u))) 0 2 (some (gU u))
theorem Rsw_eq {u : Nat} (hu : u < 2) : gx_u (Rsw u) 64 0 (some (gO u)) = hR (1 - u) := by
  obtain ⟨e1, e2⟩ := gU_1 hu
  funext a k
  unfold Rsw
  have hd : ∀ v, hR v a k = if a = 0 ∧ k = 1 then some (gU v) else if a = 0 ∧ k = 2 then some (gO v) else if a = 64 ∧ k = 0 then some (gU v) else gi_R h0 a k := fun v => rfl
  by_cases c : a = 64 ∧ k = 0
  · rw [hd, if_neg (by omega), if_neg (by omega), if_pos c, e1, c.1, c.2]
    rfl
  · have r1 : ∀ (R : Nat → Nat → Option Nat) (b j : Nat) (x : Option Nat), ¬ (a = b ∧ k = j) → gx_u R b j x a k = R a k := fun R b j x hb => by
      show (if a = b then (if k = j then x else R a k) else R a k) = R a k
      split
      · next z => rw [if_neg (fun y => hb ⟨z, y⟩)]
      · rfl
    rw [r1 _ _ _ _ c]
    by_cases c2 : a = 0 ∧ k = 2
    · rw [hd, if_neg (by omega), if_pos c2, e2, c2.1, c2.2]
      rfl
    · rw [r1 _ _ _ _ c2]
      by_cases c1 : a = 0 ∧ k = 1
      · rw [hd, if_pos c1, e1, c1.1, c1.2]
        rfl
      · rw [r1 _ _ _ _ c1, hd, hd, if_neg c1, if_neg c2, if_neg c, if_neg c1, if_neg c2, if_neg c]
theorem Rsw_g {u : Nat} : Rsw u 0 1 = some (gO u) ∧ Rsw u 0 8 = some 64 := by
  refine ⟨rfl, ?_⟩
  have e : Rsw u 0 8 = hR u 0 8 := rfl
  have e1 : gi_gR (hp u (fun _ _ => 0) (fun _ _ => 0)) 0 9 8 = some 64 := hG_X_8
  have e2 : gi_gR (hp u (fun _ _ => 0) (fun _ _ => 0)) 0 9 8 = hR u 0 8 := hxg rfl (by decide)
  rw [e, ← e2, e1]
theorem forget_sw {u : Nat} (hu : u < 2) {J L : Nat → Nat → Int} : f_X11_forget 0 ((194, S0, J, L, Rsw u) : gi_H) = some (hp (1 - u) (fgt J) L) := by
  have g1 : gi_gR ((194, S0, J, L, Rsw u) : gi_H) 0 9 1 = some (gO u) := (hxg rfl (by decide)).trans Rsw_g.1
  have g8 : gi_gR ((194, S0, J, L, Rsw u) : gi_H) 0 9 8 = some 64 := (hxg rfl (by decide)).trans Rsw_g.2
  have gi : gi_is ((194, S0, J, L, Rsw u) : gi_H) 64 2 = some () := hxi rfl (by decide)
  have gp : gi_pR ((194, S0, J, L, Rsw u) : gi_H) 64 2 0 (gO u) = some (hp (1 - u) J L) := by
    have e := hxp (I := J) (L := L) (R := Rsw u) (b := 64) (ci := 2) (k := 0) (t := gO u) rfl (by decide)
    rw [Rsw_eq hu] at e
    exact e
  have h73 : (73 : Nat) ∈ [73, 79] := by decide
  have h79 : (79 : Nat) ∈ [73, 79] := by decide
  have z0 : (0 : Int) = 0 ∨ (0 : Int) = 1 := Or.inl rfl
  simp (disch := first | omega | exact Or.inl rfl) only [f_X11_forget, f_X3_forget, f_X0_forget, ↓bnd g8, ↓bnd g1, ↓bnd gi, ↓bnd gp, ↓dhq_A_2 h73 z0, ↓dhq_A_2 h79 z0, ↓dhi_A h73, ↓dhi_A h79, ↓dhi_X, ↓dhG_X_0, ↓dhG_X_1, ↓dhG_X_2, ↓dhg_X_3, ↓dhq_X_3, ↓dhG_X_4, ↓dhG_X_5, ↓dhG_X_6, ↓dhg_X_7, ↓dhq_X_7, ↓dhG_X_8, ↓dhG_X_9, ↓dhG_X_10, ↓dhG_X_11, ↓dhG_X_12, ↓dhG_X_13, ↓dhG_X_14, ↓dhG_X_15, ↓dhG_X_16, ↓dhi_F, ↓dhG_F_0, ↓dhg_F_1, ↓dhq_F_1, ↓dhg_F_2, ↓dhq_F_2, ↓dhg_F_3, ↓dhq_F_3, ↓dhg_F_4, ↓dhq_F_4, ↓dhG_F_5, ↓dhG_F_6, ↓dhG_F_7, ↓dhG_F_8, ↓dhG_F_9, ↓dhg_F_10, ↓dhq_F_10, ↓dhG_F_11, ↓dhG_F_12, ↓dhG_F_13, Option.bind_some, ↓nm_eq, ↓sm_inl, ↓sm_inr, ↓dzo_0, ↓dzo_1, ↓drg_ok, ↓if_pos, ↓if_neg, if_pos, if_neg, if_true, if_false, Int.toNat_natCast, rg_ok]
  rfl
theorem use_same {u : Nat} {J L : Nat → Nat → Int} {ps ps1 : List (Nat × List Nat)} {rs rs1 : List (Nat × List Int)} {t : List Int} {lv sd : Nat → Int} {w : Nat → Nat} {nw tp tq : Nat} (h : IV u ps rs ps1 rs1 t lv sd w nw tp tq J L) : ∃ (J1 L1 : Nat → Nat → Int) (B : Int) (J2 L2 : Nat → Nat → Int), f_L_use 0 (u : Int) 193 (hp u J L) = some (0, hp u J1 L1) ∧ f_X12_use 161 (u : Int) (hp u J1 L1) = some (B, hp u J2 L2) ∧ J2 161 44 = 0 ∧ gi_ok B ∧ L2 193 0 = B ∧ IX u J2 L2 := by
  have hu : u < 2 := h.1.1
  have e3 : J 0 3 = (u : Int) := h.2.1.2.2.2.2.2.2.2.2
  have e9 : J 161 9 = (u : Int) := h.2.2.1.2.2.1
  have e9b : gx_u J 161 44 0 161 9 = (u : Int) := by rw [gu_at_ne (by decide)]; exact e9
  obtain ⟨J3, hJ3⟩ : ∃ J3, J3 = gx_u (gx_u J 161 44 0) 161 9 (u : Int) := ⟨_, rfl⟩
  have e4 := X12_changed (u := u) (L := gx_u L 193 0 (u : Int)) (J := J3)
  have f3 : ∀ a, a ≠ 161 → chg J3 a = J a := fun a h1 => by rw [chg_ne h1, hJ3, gu_ne h1, gu_ne h1]
  have m3 : ∀ k, k ≠ 33 → k ≠ 34 → k ≠ 35 → k ≠ 44 → chg J3 161 k = J 161 k := fun k h1 h2 h3 h4 => by
    rw [chg_k ⟨h1, h2, h3⟩, hJ3]
    by_cases c : k = 9
    · subst c; rw [gu_same]; exact e9.symm
    · rw [gu_at_ne c, gu_at_ne h4]
  have h9 : chg J3 161 9 = (u : Int) := (m3 9 (by decide) (by decide) (by decide) (by decide)).trans e9
  have h24 := h.r24
  refine ⟨J, gx_u L 193 0 (u : Int), (u : Int), chg J3, gx_u L 193 0 (u : Int), ?_, ?_, ?_, ⟨by omega, by omega⟩, gu_same _ _ _ _, ps, rs, ps1, rs1, t, lv, sd, w, nw, tp, tq, ?_⟩
  · simp (disch := omega) only [f_L_use, f_X11_use, b_X11_use_9, ↓dhi_X, ↓dhG_X_0, ↓dhG_X_1, ↓dhG_X_2, ↓dhg_X_3, ↓dhq_X_3, ↓dhG_X_4, ↓dhG_X_5, ↓dhG_X_6, ↓dhg_X_7, ↓dhq_X_7, ↓dhG_X_8, ↓dhG_X_9, ↓dhG_X_10, ↓dhG_X_11, ↓dhG_X_12, ↓dhG_X_13, ↓dhG_X_14, ↓dhG_X_15, ↓dhG_X_16, ↓dha_193, ↓dhs_193, ↓dhl_193, Option.bind_some, ↓nm_eq, ↓sm_inl, ↓sm_inr, ↓dzo_0, ↓dzo_1, ↓drg_ok, ↓if_pos, ↓if_neg, if_pos, if_neg, if_true, if_false, Int.toNat_natCast, rg_ok, e3] <;> rfl
  · rw [hJ3] at e4 ⊢
    simp (disch := omega) only [f_X12_use, ↓dhi_M, ↓dhG_M_0, ↓dhG_M_1, ↓dhG_M_2, ↓dhG_M_3, ↓dhG_M_4, ↓dhG_M_5, ↓dhG_M_6, ↓dhG_M_7, ↓dhG_M_8, ↓dhg_M_9, ↓dhq_M_9, ↓dhG_M_10, ↓dhG_M_11, ↓dhG_M_12, ↓dhg_M_13, ↓dhq_M_13, ↓dhG_M_14, ↓dhg_M_15, ↓dhq_M_15, ↓dhG_M_16, ↓dhg_M_17, ↓dhq_M_17, ↓dhg_M_18, ↓dhq_M_18, ↓dhG_M_19, ↓dhG_M_20, ↓dhG_M_21, ↓dhG_M_22, ↓dhG_M_23, ↓dhG_M_24, ↓dhg_M_25, ↓dhq_M_25, ↓dhG_M_26, ↓dhG_M_27, ↓dhG_M_28, ↓dhg_M_29, ↓dhq_M_29, ↓dhG_M_30, ↓dhG_M_31, ↓dhg_M_32, ↓dhq_M_32, ↓dhg_M_33, ↓dhq_M_33, ↓dhg_M_34, ↓dhq_M_34, ↓dhg_M_35, ↓dhq_M_35, ↓dhG_M_36, ↓dhG_M_37, ↓dhg_M_38, ↓dhq_M_38, ↓dhg_M_39, ↓dhq_M_39, ↓dhG_M_40, ↓dhG_M_41, ↓dhG_M_42, ↓dhG_M_43, ↓dhg_M_44, ↓dhq_M_44, Option.bind_some, ↓nm_eq, ↓sm_inl, ↓sm_inr, ↓dzo_0, ↓dzo_1, ↓drg_ok, ↓if_pos, ↓if_neg, if_pos, if_neg, if_true, if_false, Int.toNat_natCast, rg_ok, ↓bnd (isB_1 (x := (u : Int)) (m := 2) (by omega) (by omega) _), ↓bnd goes_0, e9b, ↓bnd e4]
  · rw [chg_k ⟨by decide, by decide, by decide⟩, hJ3, gu_at_ne (by decide), gu_same]
  · have n161 : ∀ v, v = gU u ∨ v = gO u → ∀ a, v ≤ a → a < v + 58 → a ≠ 161 := fun v hv a h1 h2 => by rcases gUO u with ⟨q1, q2⟩ | ⟨q1, q2⟩ <;> rcases hv with z | z <;> omega
    refine h.same (h.2.1.1.eq h24.1 (fun a h1 h2 => f3 a (n161 _ (Or.inl rfl) a h1 h2))) (fun a h1 _ => f3 a (by omega)) (by rw [f3 _ (n161 _ (Or.inl rfl) _ (Nat.le_refl _) (by omega))]) (h.2.2.1.1.use (fun a h1 h2 => f3 a (by omega)) (by rw [h9]; omega)) (h.2.2.1.2.1.use (fun a h1 h2 => f3 a (by omega)) (by rw [h9]; omega)) (h9.trans e9.symm) (m3 17 (by decide) (by decide) (by decide) (by decide)) (fun a ha => f3 a (by simp at ha; omega)) (Or.inr chg_0) ?_ (fun a ha => gu_ne ha)
    have := h.2.2.1.2.2.2.2.2.1; unfold RT at *; rw [f3 173 (by decide), m3 13 (by decide) (by decide) (by decide) (by decide)]; exact this
theorem use_other {u : Nat} {J L : Nat → Nat → Int} {ps ps1 : List (Nat × List Nat)} {rs rs1 : List (Nat × List Int)} {t : List Int} {lv sd : Nat → Int} {w : Nat → Nat} {nw tp tq : Nat} (h : IV u ps rs ps1 rs1 t lv sd w nw tp tq J L) : ∃ (J1 L1 : Nat → Nat → Int) (B : Int) (J2 L2 : Nat → Nat → Int), f_L_use 0 ((1 - u : Nat) : Int) 193 (hp u J L) = some (0, hp (1 - u) J1 L1) ∧ f_X12_use 161 ((1 - u : Nat) : Int) (hp (1 - u) J1 L1) = some (B, hp (1 - u) J2 L2) ∧ J2 161 44 = 0 ∧ gi_ok B ∧ L2 193 0 = B ∧ IX (1 - u) J2 L2 := by
  have hu : u < 2 := h.1.1
  obtain ⟨u1, hu1⟩ : ∃ u1, u1 = 1 - u := ⟨_, rfl⟩
  obtain ⟨gu1, gu2⟩ := gU_1 hu
  rw [← hu1] at gu1 gu2 ⊢
  have e3 : J 0 3 = (u : Int) := h.2.1.2.2.2.2.2.2.2.2
  have e9 : J 161 9 = (u : Int) := h.2.2.1.2.2.1
  obtain ⟨J0, hJ0⟩ : ∃ J0, J0 = gx_u J 0 3 (u1 : Int) := ⟨_, rfl⟩
  obtain ⟨J1, hJ1⟩ : ∃ J1, J1 = fgt J0 := ⟨_, rfl⟩
  have p1 : gi_pR (hp u J L) 0 9 1 (gO u) = some ((194, S0, J, L, gx_u (hR u) 0 1 (some (gO u))) : gi_H) := hxp rfl (by decide)
  have p2 : gi_pR ((194, S0, J, L, gx_u (hR u) 0 1 (some (gO u))) : gi_H) 0 9 2 (gU u) = some ((194, S0, J, L, Rsw u) : gi_H) := hxp rfl (by decide)
  have p3 : gi_pI ((194, S0, J, L, Rsw u) : gi_H) 0 9 3 (u1 : Int) = some ((194, S0, J0, L, Rsw u) : gi_H) := by rw [hJ0]; exact hxI rfl (by decide)
  have p4 : gi_is ((194, S0, J0, L, Rsw u) : gi_H) 0 9 = some () := hxi rfl (by decide)
  have p5 := forget_sw (u := u) (J := J0) (L := L) hu
  rw [← hJ1, ← hu1] at p5
  have f1 : ∀ a, a ≠ 0 → a ≠ 64 → a ≠ 73 → a ≠ 79 → J1 a = J a := fun a h1 h2 h3 h4 => by rw [hJ1, fgt_a ⟨h2, h3, h4⟩, hJ0, gu_ne h1]
  have j161 : J1 161 = J 161 := f1 161 (by decide) (by decide) (by decide) (by decide)
  have e9b : gx_u J1 161 44 0 161 9 = (u : Int) := by rw [gu_at_ne (by decide), j161]; exact e9
  obtain ⟨J3, hJ3⟩ : ∃ J3, J3 = gx_u (gx_u J1 161 44 0) 161 9 (u1 : Int) := ⟨_, rfl⟩
  have e4 := X12_changed (u := u1) (L := gx_u L 193 0 (u : Int)) (J := J3)
  have f3 : ∀ a, a ≠ 161 → chg J3 a = J1 a := fun a h1 => by rw [chg_ne h1, hJ3, gu_ne h1, gu_ne h1]
  have fz : ∀ a, a ≠ 0 → a ≠ 64 → a ≠ 73 → a ≠ 79 → a ≠ 161 → chg J3 a = J a := fun a h1 h2 h3 h4 h5 => by rw [f3 a h5, f1 a h1 h2 h3 h4]
  have m3 : ∀ k, k ≠ 33 → k ≠ 34 → k ≠ 35 → k ≠ 44 → k ≠ 9 → chg J3 161 k = J 161 k := fun k h1 h2 h3 h4 h5 => by rw [chg_k ⟨h1, h2, h3⟩, hJ3, gu_at_ne h5, gu_at_ne h4, j161]
  have h9 : chg J3 161 9 = (u1 : Int) := by rw [chg_k ⟨by decide, by decide, by decide⟩, hJ3, gu_same]
  have h24 := h.r24
  have hgm := gU_mem u
  have hy : ∀ v, v = gU u ∨ v = gO u → ∀ a, v ≤ a → a < v + 58 → a ≠ 0 ∧ a ≠ 64 ∧ a ≠ 73 ∧ a ≠ 79 ∧ a ≠ 161 := fun v hv a h1 h2 => by rcases gUO u with ⟨q1, q2⟩ | ⟨q1, q2⟩ <;> rcases hv with z | z <;> omega
  have fv : ∀ v, v = gU u ∨ v = gO u → ∀ a, v ≤ a → a < v + 58 → chg J3 a = J a := fun v hv a h1 h2 => by obtain ⟨a1, a2, a3, a4, a5⟩ := hy v hv a h1 h2; exact fz a a1 a2 a3 a4 a5
  refine ⟨J1, gx_u L 193 0 (u : Int), (u : Int), chg J3, gx_u L 193 0 (u : Int), ?_, ?_, ?_, ⟨by omega, by omega⟩, gu_same _ _ _ _, ps1, rs1, ps, rs, t, lv, sd, w, nw, tq, tp, ?_⟩
  · simp (disch := omega) only [f_L_use, f_X11_use, b_X11_use_9, ↓dhi_X, ↓dhG_X_0, ↓dhG_X_1, ↓dhG_X_2, ↓dhg_X_3, ↓dhq_X_3, ↓dhG_X_4, ↓dhG_X_5, ↓dhG_X_6, ↓dhg_X_7, ↓dhq_X_7, ↓dhG_X_8, ↓dhG_X_9, ↓dhG_X_10, ↓dhG_X_11, ↓dhG_X_12, ↓dhG_X_13, ↓dhG_X_14, ↓dhG_X_15, ↓dhG_X_16, ↓dha_193, ↓dhs_193, ↓dhl_193, Option.bind_some, ↓nm_eq, ↓sm_inl, ↓sm_inr, ↓dzo_0, ↓dzo_1, ↓drg_ok, ↓if_pos, ↓if_neg, if_pos, if_neg, if_true, if_false, Int.toNat_natCast, rg_ok, ↓bnd p1, ↓bnd p2, ↓bnd p3, ↓bnd p4, ↓bnd p5, e3] <;> rfl
  · rw [hJ3] at e4 ⊢
    simp (disch := omega) only [f_X12_use, ↓dhi_M, ↓dhG_M_0, ↓dhG_M_1, ↓dhG_M_2, ↓dhG_M_3, ↓dhG_M_4, ↓dhG_M_5, ↓dhG_M_6, ↓dhG_M_7, ↓dhG_M_8, ↓dhg_M_9, ↓dhq_M_9, ↓dhG_M_10, ↓dhG_M_11, ↓dhG_M_12, ↓dhg_M_13, ↓dhq_M_13, ↓dhG_M_14, ↓dhg_M_15, ↓dhq_M_15, ↓dhG_M_16, ↓dhg_M_17, ↓dhq_M_17, ↓dhg_M_18, ↓dhq_M_18, ↓dhG_M_19, ↓dhG_M_20, ↓dhG_M_21, ↓dhG_M_22, ↓dhG_M_23, ↓dhG_M_24, ↓dhg_M_25, ↓dhq_M_25, ↓dhG_M_26, ↓dhG_M_27, ↓dhG_M_28, ↓dhg_M_29, ↓dhq_M_29, ↓dhG_M_30, ↓dhG_M_31, ↓dhg_M_32, ↓dhq_M_32, ↓dhg_M_33, ↓dhq_M_33, ↓dhg_M_34, ↓dhq_M_34, ↓dhg_M_35, ↓dhq_M_35, ↓dhG_M_36, ↓dhG_M_37, ↓dhg_M_38, ↓dhq_M_38, ↓dhg_M_39, ↓dhq_M_39, ↓dhG_M_40, ↓dhG_M_41, ↓dhG_M_42, ↓dhG_M_43, ↓dhg_M_44, ↓dhq_M_44, Option.bind_some, ↓nm_eq, ↓sm_inl, ↓sm_inr, ↓dzo_0, ↓dzo_1, ↓drg_ok, ↓if_pos, ↓if_neg, if_pos, if_neg, if_true, if_false, Int.toNat_natCast, rg_ok, ↓bnd (isB_1 (x := (u1 : Int)) (m := 2) (by omega) (by omega) _), ↓bnd goes_0, e9b, ↓bnd e4]
  · rw [chg_k ⟨by decide, by decide, by decide⟩, hJ3, gu_at_ne (by decide), gu_same]
  · have hu2 : 1 - u1 = u := by omega
    have hfz : ∀ a, 162 ≤ a → a ≤ 170 → chg J3 a = J a := fun a h1 h2 => fz a (by omega) (by omega) (by omega) (by omega) (by omega)
    have r2 := h.2.2.1.2.1
    have r5 := h.2.2.1.2.2.2.2.1
    rw [← hu1] at r2 r5
    have c1 : CG (gU u1) (chg J3) ps1 rs1 := by rw [gu1]; exact h.2.1.2.1.eq h24.2.1 (fv _ (Or.inr rfl))
    have c2 : CG (gO u1) (chg J3) ps rs := by rw [gu2]; exact h.2.1.1.eq h24.1 (fv _ (Or.inl rfl))
    have fj : chg J3 64 1 = 0 ∧ chg J3 73 2 = 0 ∧ chg J3 79 2 = 0 := by rw [f3 64 (by decide), f3 73 (by decide), f3 79 (by decide), hJ1]; exact fgt_0
    refine h.forgot (by omega) h.1.2.2.1 h.1.2.1 h.1.2.2.2.2.2 h.1.2.2.2.2.1 c1 c2 ?_ ?_ (fun a ha => fz a (by simp at ha; omega) (by simp at ha; omega) (by simp at ha; omega) (by simp at ha; omega) (by simp at ha; omega)) ?_ ?_ (r2.use hfz (by rw [h9]; omega)) (by rw [hu2]; exact h.2.2.1.1.use hfz (by rw [h9]; omega)) h9 ?_ ?_ ?_ (m3 17 (by decide) (by decide) (by decide) (by decide) (by decide)) fj ?_ chg_0
    · rw [gu1, fv _ (Or.inr rfl) _ (Nat.le_refl _) (by omega)]; exact h.2.1.2.2.2.1
    · rw [gu2, fv _ (Or.inl rfl) _ (Nat.le_refl _) (by omega)]; exact h.2.1.2.2.1
    · rw [f3 0 (by decide), hJ1, fgt_a (by decide), hJ0, gu_at_ne (by decide)]
    · rw [f3 0 (by decide), hJ1, fgt_a (by decide), hJ0, gu_same]
    · rw [hfz 170 (by decide) (by decide)]; exact r5
    · rw [hfz 170 (by decide) (by decide), hu2]; exact h.2.2.1.2.2.2.1
    · have := h.2.2.1.2.2.2.2.2.1; unfold RT at *; rw [fz 173 (by decide) (by decide) (by decide) (by decide) (by decide), m3 13 (by decide) (by decide) (by decide) (by decide) (by decide)]; exact this
    · have k1 : ∀ a k, a ≠ 0 → a ≠ 161 → (a ≠ 64 ∧ (a = 73 → k ≠ 2) ∧ (a = 79 → k ≠ 2)) → chg J3 a k = J a k := fun a k h1 h2 h4 => by
        rw [f3 a h2, hJ1, fgt_k (fun z => h4.1 z.1) (fun z => h4.2.1 z.1 z.2) (fun z => h4.2.2 z.1 z.2), hJ0, gu_ne h1]
      exact ⟨k1 73 1 (by decide) (by decide) (by decide), k1 79 1 (by decide) (by decide) (by decide), k1 148 2 (by decide) (by decide) (by decide), k1 151 2 (by decide) (by decide) (by decide), k1 154 2 (by decide) (by decide) (by decide)⟩
theorem op_use {n : Nat} {x : Int} (hx : gi_ok x) : OPK (fun h => f_L_use 0 x 193 h) (fun h => f_X12_use 161 x h) := by
  intro u J L hI
  have hI0 := hI
  obtain ⟨ps, rs, ps1, rs1, t, lv, sd, w, nw, tp, tq, h⟩ := hI
  obtain ⟨hx1, hx2⟩ := id hx
  have hu : u < 2 := h.1.1
  by_cases c : x < 0 ∨ 2 ≤ x
  · refine k_out hI0 ?_ ?_
    · by_cases c1 : x < 0
      · simp (disch := omega) only [f_L_use, f_X11_use, b_X11_use_9, ↓dhi_X, ↓dhG_X_0, ↓dhG_X_1, ↓dhG_X_2, ↓dhg_X_3, ↓dhq_X_3, ↓dhG_X_4, ↓dhG_X_5, ↓dhG_X_6, ↓dhg_X_7, ↓dhq_X_7, ↓dhG_X_8, ↓dhG_X_9, ↓dhG_X_10, ↓dhG_X_11, ↓dhG_X_12, ↓dhG_X_13, ↓dhG_X_14, ↓dhG_X_15, ↓dhG_X_16, Option.bind_some, ↓nm_eq, ↓sm_inl, ↓sm_inr, ↓dzo_0, ↓dzo_1, ↓drg_ok, ↓if_pos, ↓if_neg, if_pos, if_neg, if_true, if_false, Int.toNat_natCast, rg_ok, xI1, if_true]
      · simp (disch := omega) only [f_L_use, f_X11_use, b_X11_use_9, ↓dhi_X, ↓dhG_X_0, ↓dhG_X_1, ↓dhG_X_2, ↓dhg_X_3, ↓dhq_X_3, ↓dhG_X_4, ↓dhG_X_5, ↓dhG_X_6, ↓dhg_X_7, ↓dhq_X_7, ↓dhG_X_8, ↓dhG_X_9, ↓dhG_X_10, ↓dhG_X_11, ↓dhG_X_12, ↓dhG_X_13, ↓dhG_X_14, ↓dhG_X_15, ↓dhG_X_16, Option.bind_some, ↓nm_eq, ↓sm_inl, ↓sm_inr, ↓dzo_0, ↓dzo_1, ↓drg_ok, ↓if_pos, ↓if_neg, if_pos, if_neg, if_true, if_false, Int.toNat_natCast, rg_ok, xI1, if_true]
    · simp (disch := omega) only [f_X12_use, ↓dhi_M, ↓dhG_M_0, ↓dhG_M_1, ↓dhG_M_2, ↓dhG_M_3, ↓dhG_M_4, ↓dhG_M_5, ↓dhG_M_6, ↓dhG_M_7, ↓dhG_M_8, ↓dhg_M_9, ↓dhq_M_9, ↓dhG_M_10, ↓dhG_M_11, ↓dhG_M_12, ↓dhg_M_13, ↓dhq_M_13, ↓dhG_M_14, ↓dhg_M_15, ↓dhq_M_15, ↓dhG_M_16, ↓dhg_M_17, ↓dhq_M_17, ↓dhg_M_18, ↓dhq_M_18, ↓dhG_M_19, ↓dhG_M_20, ↓dhG_M_21, ↓dhG_M_22, ↓dhG_M_23, ↓dhG_M_24, ↓dhg_M_25, ↓dhq_M_25, ↓dhG_M_26, ↓dhG_M_27, ↓dhG_M_28, ↓dhg_M_29, ↓dhq_M_29, ↓dhG_M_30, ↓dhG_M_31, ↓dhg_M_32, ↓dhq_M_32, ↓dhg_M_33, ↓dhq_M_33, ↓dhg_M_34, ↓dhq_M_34, ↓dhg_M_35, ↓dhq_M_35, ↓dhG_M_36, ↓dhG_M_37, ↓dhg_M_38, ↓dhq_M_38, ↓dhg_M_39, ↓dhq_M_39, ↓dhG_M_40, ↓dhG_M_41, ↓dhG_M_42, ↓dhG_M_43, ↓dhg_M_44, ↓dhq_M_44, Option.bind_some, ↓nm_eq, ↓sm_inl, ↓sm_inr, ↓dzo_0, ↓dzo_1, ↓drg_ok, ↓if_pos, ↓if_neg, if_pos, if_neg, if_true, if_false, Int.toNat_natCast, rg_ok, ↓bnd (isB_0 (m := 2) c hx (by omega) _), ↓bnd (goes_1 1 1)]
  · by_cases c2 : x = (u : Int)
    · subst c2
      obtain ⟨J1, L1, B, J2, L2, q1, q2, q3, q4, q5, q6⟩ := use_same h
      exact ⟨0, u, J1, L1, B, J2, L2, q1, q2, q3, Or.inl rfl, q4, fun _ => q5, q6⟩
    · have ex : x = ((1 - u : Nat) : Int) := by omega
      subst ex
      obtain ⟨J1, L1, B, J2, L2, q1, q2, q3, q4, q5, q6⟩ := use_other h
      exact ⟨0, 1 - u, J1, L1, B, J2, L2, q1, q2, q3, Or.inl rfl, q4, fun _ => q5, q6⟩
