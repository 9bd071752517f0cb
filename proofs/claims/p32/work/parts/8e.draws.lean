/-! ===== the law's script, its letters, a text typed ===== -/
theorem and31 (x : Int) : 0 ≤ gi_and x 2147483647 ∧ gi_and x 2147483647 ≤ 2147483647 := by
  have h := bt_ok_and x 2147483647
  refine ⟨bt_nonneg h ?_, h.2⟩
  rw [bt_and]
  have : bt 2147483647 31 = false := by decide
  rw [this, Bool.and_false]
section DR
variable {n : Nat} {L : Nat} {xs : Nat → Int}
theorem c_cell (hL : L ≤ 260) {k : Int} (hk : 0 ≤ k ∧ k ≤ 1000) : ∃ r : Int, (0 ≤ r ∧ r ≤ 2147483647) ∧ ∀ h, f_L_cell L xs k h = some r := by
  by_cases c : (L : Int) ≤ k
  · refine ⟨gi_and (51001 * (k % 6131) + 3907) 2147483647, and31 _, fun h => ?_⟩
    simp (disch := omega) only [f_L_cell, b_L_cell_24, dg_ok, Option.bind_some, ↓nm_eq, ↓sm_inl, ↓sm_inr, ↓dzo_0, ↓dzo_1, ↓drg_ok, ↓if_pos, ↓if_neg, if_pos, if_neg, if_true, if_false, Int.toNat_natCast, rg_ok]
  · refine ⟨gi_and (xs k.toNat) 2147483647, and31 _, fun h => ?_⟩
    have e : gi_sx L xs k = some (xs k.toNat) := if_pos ⟨hk.1, by omega, by omega⟩
    simp (disch := omega) only [f_L_cell, b_L_cell_24, Option.bind_some, ↓nm_eq, ↓sm_inl, ↓sm_inr, ↓dzo_0, ↓dzo_1, ↓drg_ok, ↓if_pos, ↓if_neg, if_pos, if_neg, if_true, if_false, Int.toNat_natCast, rg_ok, ↓bnd e]
theorem c_letter {v : Int} (hv : 0 ≤ v ∧ v ≤ 2147483647) : ∃ r : Int, tk r ≠ 8 ∧ ∀ h, f_L_letter v h = some r := by
  obtain ⟨q, hq⟩ : ∃ q, q = v % 24 := ⟨_, rfl⟩
  have hq24 : 0 ≤ q ∧ q < 24 := by omega
  have hneg : ∀ x : Int, x = 124 ∨ x = 40 ∨ x = 41 ∨ x = 63 ∨ x = 42 ∨ x = 43 ∨ x = 37 ∨ x = 58 ∨ (97 ≤ x ∧ x ≤ 99) ∨ (65 ≤ x ∧ x ≤ 68) → tk x ≠ 8 := by
    intro x hx h
    rcases tk_cases x with ⟨e, -⟩ | ⟨e, -⟩ | ⟨e, -⟩ | ⟨e, -⟩ | ⟨e, -⟩ | ⟨e, -⟩ | ⟨e, -⟩ | ⟨e, -⟩ | ⟨e, z1, z2, z3, z4, z5, z6, z7, z8, z9, z10⟩
    all_goals omega
  by_cases c0 : q = 0
  · refine ⟨124, hneg _ (by omega), fun h => ?_⟩
    simp (disch := omega) only [f_L_letter, b_L_letter_87, dg_ok, Option.bind_some, ↓nm_eq, ↓sm_inl, ↓sm_inr, ↓dzo_0, ↓dzo_1, ↓drg_ok, ↓if_pos, ↓if_neg, if_pos, if_neg, if_true, if_false, Int.toNat_natCast, rg_ok, ← hq]
  by_cases c1 : q = 1
  · refine ⟨40, hneg _ (by omega), fun h => ?_⟩
    simp (disch := omega) only [f_L_letter, b_L_letter_87, dg_ok, Option.bind_some, ↓nm_eq, ↓sm_inl, ↓sm_inr, ↓dzo_0, ↓dzo_1, ↓drg_ok, ↓if_pos, ↓if_neg, if_pos, if_neg, if_true, if_false, Int.toNat_natCast, rg_ok, ← hq]
  by_cases c2 : q = 2
  · refine ⟨41, hneg _ (by omega), fun h => ?_⟩
    simp (disch := omega) only [f_L_letter, b_L_letter_87, dg_ok, Option.bind_some, ↓nm_eq, ↓sm_inl, ↓sm_inr, ↓dzo_0, ↓dzo_1, ↓drg_ok, ↓if_pos, ↓if_neg, if_pos, if_neg, if_true, if_false, Int.toNat_natCast, rg_ok, ← hq]
  by_cases c3 : q = 3
  · refine ⟨63, hneg _ (by omega), fun h => ?_⟩
    simp (disch := omega) only [f_L_letter, b_L_letter_87, dg_ok, Option.bind_some, ↓nm_eq, ↓sm_inl, ↓sm_inr, ↓dzo_0, ↓dzo_1, ↓drg_ok, ↓if_pos, ↓if_neg, if_pos, if_neg, if_true, if_false, Int.toNat_natCast, rg_ok, ← hq]
  by_cases c4 : q = 4
  · refine ⟨42, hneg _ (by omega), fun h => ?_⟩
    simp (disch := omega) only [f_L_letter, b_L_letter_87, dg_ok, Option.bind_some, ↓nm_eq, ↓sm_inl, ↓sm_inr, ↓dzo_0, ↓dzo_1, ↓drg_ok, ↓if_pos, ↓if_neg, if_pos, if_neg, if_true, if_false, Int.toNat_natCast, rg_ok, ← hq]
  by_cases c5 : q = 5
  · refine ⟨43, hneg _ (by omega), fun h => ?_⟩
    simp (disch := omega) only [f_L_letter, b_L_letter_87, dg_ok, Option.bind_some, ↓nm_eq, ↓sm_inl, ↓sm_inr, ↓dzo_0, ↓dzo_1, ↓drg_ok, ↓if_pos, ↓if_neg, if_pos, if_neg, if_true, if_false, Int.toNat_natCast, rg_ok, ← hq]
  by_cases c6 : q = 6
  · refine ⟨37, hneg _ (by omega), fun h => ?_⟩
    simp (disch := omega) only [f_L_letter, b_L_letter_87, dg_ok, Option.bind_some, ↓nm_eq, ↓sm_inl, ↓sm_inr, ↓dzo_0, ↓dzo_1, ↓drg_ok, ↓if_pos, ↓if_neg, if_pos, if_neg, if_true, if_false, Int.toNat_natCast, rg_ok, ← hq]
  by_cases c7 : q = 7
  · refine ⟨58, hneg _ (by omega), fun h => ?_⟩
    simp (disch := omega) only [f_L_letter, b_L_letter_87, dg_ok, Option.bind_some, ↓nm_eq, ↓sm_inl, ↓sm_inr, ↓dzo_0, ↓dzo_1, ↓drg_ok, ↓if_pos, ↓if_neg, if_pos, if_neg, if_true, if_false, Int.toNat_natCast, rg_ok, ← hq]
  by_cases c16 : q < 16
  · refine ⟨97 + v / 24 % 3, hneg _ (by omega), fun h => ?_⟩
    simp (disch := omega) only [f_L_letter, b_L_letter_87, dg_ok, Option.bind_some, ↓nm_eq, ↓sm_inl, ↓sm_inr, ↓dzo_0, ↓dzo_1, ↓drg_ok, ↓if_pos, ↓if_neg, if_pos, if_neg, if_true, if_false, Int.toNat_natCast, rg_ok, ← hq]
  · refine ⟨65 + v / 24 % 4, hneg _ (by omega), fun h => ?_⟩
    simp (disch := omega) only [f_L_letter, b_L_letter_87, dg_ok, Option.bind_some, ↓nm_eq, ↓sm_inl, ↓sm_inr, ↓dzo_0, ↓dzo_1, ↓drg_ok, ↓if_pos, ↓if_neg, if_pos, if_neg, if_true, if_false, Int.toNat_natCast, rg_ok, ← hq]
theorem dr_loop (hL : L ≤ 260) {u : Nat} {K : Nat → Nat → Int} {i m : Nat} (hi : i < 26) (hm : m ≤ 12) : ∀ (d f k : Nat) (J : Nat → Nat → Int), m = k + d → d < f → (∀ j, j < k → tk (J 161 j) ≠ 8) → ∃ J', l_L_draws_28 n L xs f 161 (i : Int) (m : Int) (k : Int) (hp u J K) = some ((m : Int), hp u J' K) ∧ Fr [161] J J' ∧ (∀ j, j < k → J' 161 j = J 161 j) ∧ ∀ j, j < m → tk (J' 161 j) ≠ 8
  | 0, 0, _, _, _, h, _ => absurd h (by omega)
  | 0, f + 1, k, J, hk, _, hJ => by
    refine ⟨J, ?_, Fr.rf, fun _ _ => rfl, fun j hj => hJ j (by omega)⟩
    show b_L_draws_28 n L xs (l_L_draws_28 n L xs f) 161 (i : Int) (m : Int) (k : Int) (hp u J K) = _
    simp (disch := omega) only [b_L_draws_28, Option.bind_some, ↓nm_eq, ↓sm_inl, ↓sm_inr, ↓dzo_0, ↓dzo_1, ↓drg_ok, ↓if_pos, ↓if_neg, if_pos, if_neg, if_true, if_false, Int.toNat_natCast, rg_ok]
  | d + 1, 0, _, _, _, h, _ => absurd h (by omega)
  | d + 1, f + 1, k, J, hk, hf, hJ => by
    obtain ⟨c, hc, ec⟩ := c_cell (xs := xs) hL (k := ((i : Int) + 7 * (k : Int)) % 67) (by omega)
    obtain ⟨r, hr, er⟩ := c_letter (v := c / 3 + 5 * (k : Int)) (by omega)
    obtain ⟨J', e, f1, f2, f3⟩ := dr_loop hL hi hm d f (k + 1) (gx_u J 161 k r) (by omega) (by omega) (fun j hj => by
      by_cases cj : j = k
      · rw [cj, gu_same]; exact hr
      · rw [gu_at_ne cj]; exact hJ j (by omega))
    refine ⟨J', ?_, (Fr.rf.wr (by simp)).tr f1, fun j hj => by rw [f2 j (by omega), gu_at_ne (by omega)], f3⟩
    show b_L_draws_28 n L xs (l_L_draws_28 n L xs f) 161 (i : Int) (m : Int) (k : Int) (hp u J K) = _
    have hmk : gi_mk (hp u J K) = some () := if_pos (show 162 < 100000 by omega)
    have ek : (k : Int) + 1 = ((k + 1 : Nat) : Int) := rfl
    have ec' := ec (hp u J K)
    have er' := er (hp u J K)
    simp (disch := omega) only [b_L_draws_28, dg_ok, ↓dha_161, ↓dhs_161, ↓dhl_161, Option.bind_some, ↓nm_eq, ↓sm_inl, ↓sm_inr, ↓dzo_0, ↓dzo_1, ↓drg_ok, ↓if_pos, ↓if_neg, if_pos, if_neg, if_true, if_false, Int.toNat_natCast, rg_ok, ↓bnd hmk, ↓bnd ec', ↓bnd er', ek]
    exact e
/-- a text is drawn -/
theorem c_draws (hn : 1000000000000000000000000000000 ≤ n) (hL : L ≤ 260) {u : Nat} {J K : Nat → Nat → Int} {i z : Nat} (hi : i < 26) (hz : z ≤ 2147483647) : ∃ (m : Nat) (J' : Nat → Nat → Int), f_L_draws n L xs 161 (i : Int) (z : Int) (hp u J K) = some ((m : Int), hp u J' K) ∧ Fr [161] J J' ∧ (3 ≤ m ∧ m ≤ 12) ∧ (∀ j, j < m → tk (J' 161 j) ≠ 8) ∧ 65 ≤ J' 161 0 ∧ J' 161 0 ≤ 68 := by
  obtain ⟨s0, hs0⟩ : ∃ s0 : Int, s0 = 65 + (z : Int) / 10 % 4 := ⟨_, rfl⟩
  have hs : 65 ≤ s0 ∧ s0 ≤ 68 := by omega
  have t0 : tk s0 ≠ 8 := by
    rcases tk_cases s0 with ⟨e, -⟩ | ⟨e, -⟩ | ⟨e, -⟩ | ⟨e, -⟩ | ⟨e, -⟩ | ⟨e, -⟩ | ⟨e, -⟩ | ⟨e, -⟩ | ⟨e, z1, z2, -⟩
    all_goals omega
  have t1 : tk 58 ≠ 8 := by decide
  obtain ⟨m, hm⟩ : ∃ m : Nat, (m : Int) = 3 + (z : Int) % 10 := ⟨(3 + (z : Int) % 10).toNat, by omega⟩
  have hm2 : 3 ≤ m ∧ m ≤ 12 := by omega
  obtain ⟨J', e, f1, f2, f3⟩ := dr_loop (n := n) (xs := xs) hL (u := u) (K := K) hi hm2.2 (m - 2) n 2 (gx_u (gx_u J 161 0 s0) 161 1 58) (by omega) (by omega) (fun j hj => by
    by_cases c : j = 1
    · rw [c, gu_same]; exact t1
    · rw [gu_at_ne c, show j = 0 by omega, gu_same]; exact t0)
  have e0 : J' 161 0 = s0 := by rw [f2 0 (by omega), gu_at_ne (by decide), gu_same]
  refine ⟨m, J', ?_, ((Fr.rf.wr (by simp)).wr (by simp)).tr f1, hm2, f3, by omega, by omega⟩
  simp (disch := omega) only [f_L_draws, dg_ok, ↓dha_161, ↓dhs_161, ↓dhl_161, Option.bind_some, ↓nm_eq, ↓sm_inl, ↓sm_inr, ↓dzo_0, ↓dzo_1, ↓drg_ok, ↓if_pos, ↓if_neg, if_pos, if_neg, if_true, if_false, Int.toNat_natCast, rg_ok, ← hm, ← hs0]
  exact e
end DR
section TY
variable {n : Nat} {u : Nat} {ps ps1 : List (Nat × List Nat)} {rs rs1 : List (Nat × List Int)} {t : List Int} {lv sd : Nat → Int} {w : Nat → Nat} {nw tp tq : Nat} {J L : Nat → Nat → Int}
theorem JV.sig (h : JV u ps rs ps1 rs1 t lv sd w nw tp tq J L) {J1 : Nat → Nat → Int} (f : Fr [161] J J1) : JV u ps rs ps1 rs1 t lv sd w nw tp tq J1 L := by
  have fr : ∀ a, a ≠ 161 → J1 a = J a := fun a h1 => f a (by simp; omega)
  refine h.upd (fun a ha => fr a (fun z => by simp [z] at ha)) (by rw [fr 0 (by decide)]) rfl (h.tl.fr (fr 1 (by decide)) (fr 2 (by decide))) (h.clv.fr (fr 61 (by decide)) (fr 62 (by decide))) ?_ (by rw [fr 0 (by decide)]; exact h.h7) h.sw
  have := h.cse
  unfold CSE at *
  rw [fr 63 (by decide)]; exact this
/-- the first m signs -/
def sg (J : Nat → Nat → Int) (m : Nat) : List Int := (List.range m).map (J 161)
theorem sg_len {m : Nat} : (sg J m).length = m := by unfold sg; simp
theorem sg_at {m j : Nat} (hj : j < m) : tl (sg J m) j = J 161 j := by
  unfold tl sg
  rw [List.getD_eq_getElem?_getD, List.getElem?_map, List.getElem?_range hj]
  rfl
theorem sg_s {m : Nat} : sg J (m + 1) = sg J m ++ [J 161 m] := by
  unfold sg
  rw [List.range_succ, List.map_append]
  rfl
theorem ty_loop {m : Nat} (hm : m ≤ 24) {S : Nat → Nat → Int} (hs : ∀ j, j < m → tk (S 161 j) ≠ 8) : ∀ (d f k : Nat) (J : Nat → Nat → Int), m = k + d → d < f → JV u ps rs ps1 rs1 (sg S k) lv sd w nw tp tq J L → J 161 = S 161 → ∃ J1, l_L_types_16 n f 0 161 (m : Int) 1 (k : Int) (hp u J L) = some (1, hp u J1 L) ∧ JV u ps rs ps1 rs1 (sg S m) lv sd w nw tp tq J1 L ∧ J1 161 = S 161
  | 0, 0, _, _, _, h, _, _ => absurd h (by omega)
  | 0, f + 1, k, J, hk, _, h, e => by
    have : k = m := by omega
    subst this
    refine ⟨J, ?_, h, e⟩
    show b_L_types_16 n (l_L_types_16 n f) 0 161 (k : Int) 1 (k : Int) (hp u J L) = _
    simp (disch := omega) only [b_L_types_16, Option.bind_some, ↓nm_eq, ↓sm_inl, ↓sm_inr, ↓dzo_0, ↓dzo_1, ↓drg_ok, ↓if_pos, ↓if_neg, if_pos, if_neg, if_true, if_false, Int.toNat_natCast, rg_ok]
  | d + 1, 0, _, _, _, h, _, _ => absurd h (by omega)
  | d + 1, f + 1, k, J, hk, hf, h, e => by
    obtain ⟨J1, e1, h1, f1⟩ := k_type h (x := S 161 k) (hs k (by omega)) (by rw [sg_len]; omega)
    rw [sg_len] at e1
    obtain ⟨J2, e2, h2, f2⟩ := ty_loop hm hs d f (k + 1) J1 (by omega) (by omega) (by rw [sg_s]; exact h1) (f1.trans e)
    refine ⟨J2, ?_, h2, f2⟩
    show b_L_types_16 n (l_L_types_16 n f) 0 161 (m : Int) 1 (k : Int) (hp u J L) = _
    have ek : (k : Int) + 1 = ((k + 1 : Nat) : Int) := rfl
    have ej : J 161 k = S 161 k := by rw [e]
    simp (disch := omega) only [b_L_types_16, b_L_types_46, ↓dha_161, ↓dhs_161, ↓dhl_161, Option.bind_some, ↓nm_eq, ↓sm_inl, ↓sm_inr, ↓dzo_0, ↓dzo_1, ↓drg_ok, ↓if_pos, ↓if_neg, if_pos, if_neg, if_true, if_false, Int.toNat_natCast, rg_ok, ej, ↓bnd e1, ek]
    exact e2
/-- the first m signs are typed -/
theorem c_types (h : JV u ps rs ps1 rs1 t lv sd w nw tp tq J L) {m : Nat} (hm : m ≤ 24) (hs : ∀ j, j < m → tk (J 161 j) ≠ 8) : ∃ J1, f_L_types n 0 161 (m : Int) (hp u J L) = some (1, hp u J1 L) ∧ JV u ps rs ps1 rs1 (sg J m) lv sd w nw tp tq J1 L ∧ J1 161 = J 161 := by
  obtain ⟨J1, e1, h1, f1⟩ := k_wipe h
  obtain ⟨J2, e2, h2, f2⟩ := ty_loop (n := n) hm hs m 26 0 J1 (by omega) (by omega) h1 f1
  refine ⟨J2, ?_, h2, f2⟩
  have ht := h.tl.2.2.1
  simp (disch := omega) only [f_L_types, b_L_types_12, ↓dhi_X, ↓dhG_X_0, ↓dhG_X_1, ↓dhG_X_2, ↓dhg_X_3, ↓dhq_X_3, ↓dhG_X_4, ↓dhG_X_5, ↓dhG_X_6, ↓dhg_X_7, ↓dhq_X_7, ↓dhG_X_8, ↓dhG_X_9, ↓dhG_X_10, ↓dhG_X_11, ↓dhG_X_12, ↓dhG_X_13, ↓dhG_X_14, ↓dhG_X_15, ↓dhG_X_16, Option.bind_some, ↓nm_eq, ↓sm_inl, ↓sm_inr, ↓dzo_0, ↓dzo_1, ↓drg_ok, ↓if_pos, ↓if_neg, if_pos, if_neg, if_true, if_false, Int.toNat_natCast, rg_ok, ↓bnd e1]
  exact e2
end TY
