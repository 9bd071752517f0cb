/-! ===== calls: the grammar that is used ===== -/
theorem gU_1 {u : Nat} (hu : u < 2) : gU (1 - u) = gO u ∧ gO (1 - u) = gU u := by
  rcases (by omega : u = 0 ∨ u = 1) with q | q <;> subst q <;> exact ⟨rfl, rfl⟩
def Rsw (u : Nat) : Nat → Nat → Option Nat := gx_u (gx_u (hR u) 0 1 (some (gO u))) 0 2 (some (gU u))
theorem Rsw_eq {u : Nat} (hu : u < 2) : gx_u (Rsw u) 64 0 (some (gO u)) = hR (1 - u) := by
  obtain ⟨e1, e2⟩ := gU_1 hu
  funext a k
  unfold Rsw
  have hd : ∀ v, hR v a k = if a = 0 ∧ k = 1 then some (gU v) else if a = 0 ∧ k = 2 then some (gO v) else if a = 64 ∧ k = 0 then some (gU v) else gi_R h0 a k := fun v => rfl
  by_cases c : a = 64 ∧ k = 0
  · rw [hd, if_neg (by omega), if_neg (by omega), if_pos c, e1, c.1, c.2]
    rfl
  · have r1 : ∀ (R : Nat → Nat → Option Nat) (b j : Nat) (x : Option Nat), ¬ (a = b ∧ k = j) → gx_u R b j x a k = R a k := fun R b j x hb => by
      show (if a = b then (if k = j then x else R a k) else R a k) = R a k
      split
      · next z => rw [if_neg (fun y => hb ⟨z, y⟩)]
      · rfl
    rw [r1 _ _ _ _ c]
    by_cases c2 : a = 0 ∧ k = 2
    · rw [hd, if_neg (by omega), if_pos c2, e2, c2.1, c2.2]
      rfl
    · rw [r1 _ _ _ _ c2]
      by_cases c1 : a = 0 ∧ k = 1
      · rw [hd, if_pos c1, e1, c1.1, c1.2]
        rfl
      · rw [r1 _ _ _ _ c1, hd, hd, if_neg c1, if_neg c2, if_neg c, if_neg c1, if_neg c2, if_neg c]
theorem Rsw_g {u : Nat} : Rsw u 0 1 = some (gO u) ∧ Rsw u 0 8 = some 64 := by
  refine ⟨rfl, ?_⟩
  have e : Rsw u 0 8 = hR u 0 8 := rfl
  have e1 : gi_gR (hp u (fun _ _ => 0) (fun _ _ => 0)) 0 9 8 = some 64 := hG_X_8
  have e2 : gi_gR (hp u (fun _ _ => 0) (fun _ _ => 0)) 0 9 8 = hR u 0 8 := hxg rfl (by decide)
  rw [e, ← e2, e1]
theorem forget_sw {u : Nat} (hu : u < 2) {J L : Nat → Nat → Int} : f_X11_forget 0 ((162, S0, J, L, Rsw u) : gi_H) = some (hp (1 - u) (fgt J) L) := by
  have g1 : gi_gR ((162, S0, J, L, Rsw u) : gi_H) 0 9 1 = some (gO u) := (hxg rfl (by decide)).trans Rsw_g.1
  have g8 : gi_gR ((162, S0, J, L, Rsw u) : gi_H) 0 9 8 = some 64 := (hxg rfl (by decide)).trans Rsw_g.2
  have gi : gi_is ((162, S0, J, L, Rsw u) : gi_H) 64 2 = some () := hxi rfl (by decide)
  have gp : gi_pR ((162, S0, J, L, Rsw u) : gi_H) 64 2 0 (gO u) = some (hp (1 - u) J L) := by
    have e := hxp (I := J) (L := L) (R := Rsw u) (b := 64) (ci := 2) (k := 0) (t := gO u) rfl (by decide)
    rw [Rsw_eq hu] at e
    exact e
  have h73 : (73 : Nat) ∈ [73, 79] := by decide
  have h79 : (79 : Nat) ∈ [73, 79] := by decide
  have z0 : (0 : Int) = 0 ∨ (0 : Int) = 1 := Or.inl rfl
  simp (disch := first | omega | exact Or.inl rfl) only [f_X11_forget, f_X3_forget, f_X0_forget, ↓bnd g8, ↓bnd g1, ↓bnd gi, ↓bnd gp, ↓dhq_A_2 h73 z0, ↓dhq_A_2 h79 z0, ↓dhi_A h73, ↓dhi_A h79, ↓dhi_X, ↓dhG_X_0, ↓dhG_X_1, ↓dhG_X_2, ↓dhg_X_3, ↓dhq_X_3, ↓dhG_X_4, ↓dhG_X_5, ↓dhG_X_6, ↓dhg_X_7, ↓dhq_X_7, ↓dhG_X_8, ↓dhG_X_9, ↓dhG_X_10, ↓dhG_X_11, ↓dhG_X_12, ↓dhG_X_13, ↓dhG_X_14, ↓dhG_X_15, ↓dhG_X_16, ↓dhi_F, ↓dhG_F_0, ↓dhg_F_1, ↓dhq_F_1, ↓dhg_F_2, ↓dhq_F_2, ↓dhg_F_3, ↓dhq_F_3, ↓dhg_F_4, ↓dhq_F_4, ↓dhG_F_5, ↓dhG_F_6, ↓dhG_F_7, ↓dhG_F_8, ↓dhG_F_9, ↓dhg_F_10, ↓dhq_F_10, ↓dhG_F_11, ↓dhG_F_12, ↓dhG_F_13, Option.bind_some, ↓nm_eq, ↓sm_inl, ↓sm_inr, ↓dzo_0, ↓dzo_1, ↓drg_ok, ↓if_pos, ↓if_neg, if_pos, if_neg, if_true, if_false, Int.toNat_natCast, rg_ok]
  rfl
