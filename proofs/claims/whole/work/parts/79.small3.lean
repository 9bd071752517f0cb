/-! ===== calls: a letter is typed, a level is set ===== -/
theorem isT11 {x : Int} (hx : gi_ok x) (h : gi_H) : f_X11_isTerminalLetter x h = some (if 97 ≤ x ∧ x ≤ 104 then 1 else 0) := by
  obtain ⟨h1, h2⟩ := hx
  by_cases c : x < 97
  · rw [if_neg (by omega)]; simp (disch := omega) only [f_X11_isTerminalLetter, b_X11_isTerminalLetter_16, Option.bind_some, ↓nm_eq, ↓sm_inl, ↓sm_inr, ↓dzo_0, ↓dzo_1, ↓drg_ok, ↓if_pos, ↓if_neg, if_pos, if_neg, if_true, if_false, Int.toNat_natCast, rg_ok]
  · by_cases c2 : 104 < x
    · rw [if_neg (by omega)]; simp (disch := omega) only [f_X11_isTerminalLetter, b_X11_isTerminalLetter_16, Option.bind_some, ↓nm_eq, ↓sm_inl, ↓sm_inr, ↓dzo_0, ↓dzo_1, ↓drg_ok, ↓if_pos, ↓if_neg, if_pos, if_neg, if_true, if_false, Int.toNat_natCast, rg_ok]
    · rw [if_pos (by omega)]; simp (disch := omega) only [f_X11_isTerminalLetter, b_X11_isTerminalLetter_16, Option.bind_some, ↓nm_eq, ↓sm_inl, ↓sm_inr, ↓dzo_0, ↓dzo_1, ↓drg_ok, ↓if_pos, ↓if_neg, if_pos, if_neg, if_true, if_false, Int.toNat_natCast, rg_ok]
theorem isN11 {x : Int} (hx : gi_ok x) (h : gi_H) : f_X11_isNonterminalLetter x h = some (if 65 ≤ x ∧ x ≤ 72 then 1 else 0) := by
  obtain ⟨h1, h2⟩ := hx
  by_cases c : x < 65
  · rw [if_neg (by omega)]; simp (disch := omega) only [f_X11_isNonterminalLetter, b_X11_isNonterminalLetter_16, Option.bind_some, ↓nm_eq, ↓sm_inl, ↓sm_inr, ↓dzo_0, ↓dzo_1, ↓drg_ok, ↓if_pos, ↓if_neg, if_pos, if_neg, if_true, if_false, Int.toNat_natCast, rg_ok]
  · by_cases c2 : 72 < x
    · rw [if_neg (by omega)]; simp (disch := omega) only [f_X11_isNonterminalLetter, b_X11_isNonterminalLetter_16, Option.bind_some, ↓nm_eq, ↓sm_inl, ↓sm_inr, ↓dzo_0, ↓dzo_1, ↓drg_ok, ↓if_pos, ↓if_neg, if_pos, if_neg, if_true, if_false, Int.toNat_natCast, rg_ok]
    · rw [if_pos (by omega)]; simp (disch := omega) only [f_X11_isNonterminalLetter, b_X11_isNonterminalLetter_16, Option.bind_some, ↓nm_eq, ↓sm_inl, ↓sm_inr, ↓dzo_0, ↓dzo_1, ↓drg_ok, ↓if_pos, ↓if_neg, if_pos, if_neg, if_true, if_false, Int.toNat_natCast, rg_ok]
theorem isR11 {x : Int} (hx : gi_ok x) (h : gi_H) : f_X11_isRepeat x h = some (if x = 63 ∨ x = 42 ∨ x = 43 then 1 else 0) := by
  obtain ⟨h1, h2⟩ := hx
  by_cases c : x = 63
  · rw [if_pos (by omega)]; simp (disch := omega) only [f_X11_isRepeat, b_X11_isRepeat_18, Option.bind_some, ↓nm_eq, ↓sm_inl, ↓sm_inr, ↓dzo_0, ↓dzo_1, ↓drg_ok, ↓if_pos, ↓if_neg, if_pos, if_neg, if_true, if_false, Int.toNat_natCast, rg_ok]
  · by_cases c2 : x = 42
    · rw [if_pos (by omega)]; simp (disch := omega) only [f_X11_isRepeat, b_X11_isRepeat_18, Option.bind_some, ↓nm_eq, ↓sm_inl, ↓sm_inr, ↓dzo_0, ↓dzo_1, ↓drg_ok, ↓if_pos, ↓if_neg, if_pos, if_neg, if_true, if_false, Int.toNat_natCast, rg_ok]
    · by_cases c3 : x = 43
      · rw [if_pos (by omega)]; simp (disch := omega) only [f_X11_isRepeat, b_X11_isRepeat_18, Option.bind_some, ↓nm_eq, ↓sm_inl, ↓sm_inr, ↓dzo_0, ↓dzo_1, ↓drg_ok, ↓if_pos, ↓if_neg, if_pos, if_neg, if_true, if_false, Int.toNat_natCast, rg_ok]
      · rw [if_neg (by omega)]; simp (disch := omega) only [f_X11_isRepeat, b_X11_isRepeat_18, Option.bind_some, ↓nm_eq, ↓sm_inl, ↓sm_inr, ↓dzo_0, ↓dzo_1, ↓drg_ok, ↓if_pos, ↓if_neg, if_pos, if_neg, if_true, if_false, Int.toNat_natCast, rg_ok]
theorem isT12 {x : Int} (hx : gi_ok x) (h : gi_H) : f_X12_isTerminal x h = some (if 97 ≤ x ∧ x ≤ 104 then 1 else 0) := by
  obtain ⟨h1, h2⟩ := hx
  by_cases c : x < 97
  · rw [if_neg (by omega)]; simp (disch := omega) only [f_X12_isTerminal, b_X12_isTerminal_16, Option.bind_some, ↓nm_eq, ↓sm_inl, ↓sm_inr, ↓dzo_0, ↓dzo_1, ↓drg_ok, ↓if_pos, ↓if_neg, if_pos, if_neg, if_true, if_false, Int.toNat_natCast, rg_ok]
  · by_cases c2 : 104 < x
    · rw [if_neg (by omega)]; simp (disch := omega) only [f_X12_isTerminal, b_X12_isTerminal_16, Option.bind_some, ↓nm_eq, ↓sm_inl, ↓sm_inr, ↓dzo_0, ↓dzo_1, ↓drg_ok, ↓if_pos, ↓if_neg, if_pos, if_neg, if_true, if_false, Int.toNat_natCast, rg_ok]
    · rw [if_pos (by omega)]; simp (disch := omega) only [f_X12_isTerminal, b_X12_isTerminal_16, Option.bind_some, ↓nm_eq, ↓sm_inl, ↓sm_inr, ↓dzo_0, ↓dzo_1, ↓drg_ok, ↓if_pos, ↓if_neg, if_pos, if_neg, if_true, if_false, Int.toNat_natCast, rg_ok]
theorem isN12 {x : Int} (hx : gi_ok x) (h : gi_H) : f_X12_isName x h = some (if 65 ≤ x ∧ x ≤ 72 then 1 else 0) := by
  obtain ⟨h1, h2⟩ := hx
  by_cases c : x < 65
  · rw [if_neg (by omega)]; simp (disch := omega) only [f_X12_isName, b_X12_isName_16, Option.bind_some, ↓nm_eq, ↓sm_inl, ↓sm_inr, ↓dzo_0, ↓dzo_1, ↓drg_ok, ↓if_pos, ↓if_neg, if_pos, if_neg, if_true, if_false, Int.toNat_natCast, rg_ok]
  · by_cases c2 : 72 < x
    · rw [if_neg (by omega)]; simp (disch := omega) only [f_X12_isName, b_X12_isName_16, Option.bind_some, ↓nm_eq, ↓sm_inl, ↓sm_inr, ↓dzo_0, ↓dzo_1, ↓drg_ok, ↓if_pos, ↓if_neg, if_pos, if_neg, if_true, if_false, Int.toNat_natCast, rg_ok]
    · rw [if_pos (by omega)]; simp (disch := omega) only [f_X12_isName, b_X12_isName_16, Option.bind_some, ↓nm_eq, ↓sm_inl, ↓sm_inr, ↓dzo_0, ↓dzo_1, ↓drg_ok, ↓if_pos, ↓if_neg, if_pos, if_neg, if_true, if_false, Int.toNat_natCast, rg_ok]
theorem isR12 {x : Int} (hx : gi_ok x) (h : gi_H) : f_X12_isTail x h = some (if x = 63 ∨ x = 42 ∨ x = 43 then 1 else 0) := by
  obtain ⟨h1, h2⟩ := hx
  by_cases c : x = 63
  · rw [if_pos (by omega)]; simp (disch := omega) only [f_X12_isTail, b_X12_isTail_18, Option.bind_some, ↓nm_eq, ↓sm_inl, ↓sm_inr, ↓dzo_0, ↓dzo_1, ↓drg_ok, ↓if_pos, ↓if_neg, if_pos, if_neg, if_true, if_false, Int.toNat_natCast, rg_ok]
  · by_cases c2 : x = 42
    · rw [if_pos (by omega)]; simp (disch := omega) only [f_X12_isTail, b_X12_isTail_18, Option.bind_some, ↓nm_eq, ↓sm_inl, ↓sm_inr, ↓dzo_0, ↓dzo_1, ↓drg_ok, ↓if_pos, ↓if_neg, if_pos, if_neg, if_true, if_false, Int.toNat_natCast, rg_ok]
    · by_cases c3 : x = 43
      · rw [if_pos (by omega)]; simp (disch := omega) only [f_X12_isTail, b_X12_isTail_18, Option.bind_some, ↓nm_eq, ↓sm_inl, ↓sm_inr, ↓dzo_0, ↓dzo_1, ↓drg_ok, ↓if_pos, ↓if_neg, if_pos, if_neg, if_true, if_false, Int.toNat_natCast, rg_ok]
      · rw [if_neg (by omega)]; simp (disch := omega) only [f_X12_isTail, b_X12_isTail_18, Option.bind_some, ↓nm_eq, ↓sm_inl, ↓sm_inr, ↓dzo_0, ↓dzo_1, ↓drg_ok, ↓if_pos, ↓if_neg, if_pos, if_neg, if_true, if_false, Int.toNat_natCast, rg_ok]
/-- is it a letter of rules? -/
theorem isL {x : Int} (hx : gi_ok x) (h : gi_H) : f_X11_isLetter x h = some (if tk x = 8 then 0 else 1) ∧ f_X12_type 161 x h = if tk x = 8 then b_X12_type_56 161 x 0 h else b_X12_type_56 161 x 1 h := by
  have a1 := isT11 hx h
  have a2 := isN11 hx h
  have a3 := isR11 hx h
  have b1 := isT12 hx h
  have b2 := isN12 hx h
  have b3 := isR12 hx h
  obtain ⟨h1, h2⟩ := hx
  rcases tk_cases x with ⟨e, q⟩ | ⟨e, q⟩ | ⟨e, q⟩ | ⟨e, q⟩ | ⟨e, q⟩ | ⟨e, q⟩ | ⟨e, q⟩ | ⟨e, q⟩ | ⟨e, q⟩
  · rw [if_pos (by omega)] at a1 b1
    rw [e, if_neg (by decide), if_neg (by decide)]
    exact ⟨by simp (disch := omega) only [f_X11_isLetter, b_X11_isLetter_51, Option.bind_some, ↓nm_eq, ↓sm_inl, ↓sm_inr, ↓dzo_0, ↓dzo_1, ↓drg_ok, ↓if_pos, ↓if_neg, if_pos, if_neg, if_true, if_false, Int.toNat_natCast, rg_ok, ↓bnd a1], by simp (disch := omega) only [f_X12_type, b_X12_type_51, Option.bind_some, ↓nm_eq, ↓sm_inl, ↓sm_inr, ↓dzo_0, ↓dzo_1, ↓drg_ok, ↓if_pos, ↓if_neg, if_pos, if_neg, if_true, if_false, Int.toNat_natCast, rg_ok, ↓bnd b1]⟩
  · rw [if_neg (by omega)] at a1 b1
    rw [if_pos (by omega)] at a2 b2
    rw [e, if_neg (by decide), if_neg (by decide)]
    exact ⟨by simp (disch := omega) only [f_X11_isLetter, b_X11_isLetter_51, Option.bind_some, ↓nm_eq, ↓sm_inl, ↓sm_inr, ↓dzo_0, ↓dzo_1, ↓drg_ok, ↓if_pos, ↓if_neg, if_pos, if_neg, if_true, if_false, Int.toNat_natCast, rg_ok, ↓bnd a1, ↓bnd a2], by simp (disch := omega) only [f_X12_type, b_X12_type_51, Option.bind_some, ↓nm_eq, ↓sm_inl, ↓sm_inr, ↓dzo_0, ↓dzo_1, ↓drg_ok, ↓if_pos, ↓if_neg, if_pos, if_neg, if_true, if_false, Int.toNat_natCast, rg_ok, ↓bnd b1, ↓bnd b2]⟩
  · rw [if_neg (by omega)] at a1 b1
    rw [if_neg (by omega)] at a2 b2
    rw [if_pos (by omega)] at a3 b3
    rw [e, if_neg (by decide), if_neg (by decide)]
    exact ⟨by simp (disch := omega) only [f_X11_isLetter, b_X11_isLetter_51, Option.bind_some, ↓nm_eq, ↓sm_inl, ↓sm_inr, ↓dzo_0, ↓dzo_1, ↓drg_ok, ↓if_pos, ↓if_neg, if_pos, if_neg, if_true, if_false, Int.toNat_natCast, rg_ok, ↓bnd a1, ↓bnd a2, ↓bnd a3], by simp (disch := omega) only [f_X12_type, b_X12_type_51, Option.bind_some, ↓nm_eq, ↓sm_inl, ↓sm_inr, ↓dzo_0, ↓dzo_1, ↓drg_ok, ↓if_pos, ↓if_neg, if_pos, if_neg, if_true, if_false, Int.toNat_natCast, rg_ok, ↓bnd b1, ↓bnd b2, ↓bnd b3]⟩
  · rw [if_neg (by omega)] at a1 b1
    rw [if_neg (by omega)] at a2 b2
    rw [if_neg (by omega)] at a3 b3
    rw [e, if_neg (by decide), if_neg (by decide)]
    exact ⟨by simp (disch := omega) only [f_X11_isLetter, b_X11_isLetter_51, Option.bind_some, ↓nm_eq, ↓sm_inl, ↓sm_inr, ↓dzo_0, ↓dzo_1, ↓drg_ok, ↓if_pos, ↓if_neg, if_pos, if_neg, if_true, if_false, Int.toNat_natCast, rg_ok, ↓bnd a1, ↓bnd a2, ↓bnd a3], by simp (disch := omega) only [f_X12_type, b_X12_type_51, Option.bind_some, ↓nm_eq, ↓sm_inl, ↓sm_inr, ↓dzo_0, ↓dzo_1, ↓drg_ok, ↓if_pos, ↓if_neg, if_pos, if_neg, if_true, if_false, Int.toNat_natCast, rg_ok, ↓bnd b1, ↓bnd b2, ↓bnd b3]⟩
  · rw [if_neg (by omega)] at a1 b1
    rw [if_neg (by omega)] at a2 b2
    rw [if_neg (by omega)] at a3 b3
    rw [e, if_neg (by decide), if_neg (by decide)]
    exact ⟨by simp (disch := omega) only [f_X11_isLetter, b_X11_isLetter_51, Option.bind_some, ↓nm_eq, ↓sm_inl, ↓sm_inr, ↓dzo_0, ↓dzo_1, ↓drg_ok, ↓if_pos, ↓if_neg, if_pos, if_neg, if_true, if_false, Int.toNat_natCast, rg_ok, ↓bnd a1, ↓bnd a2, ↓bnd a3], by simp (disch := omega) only [f_X12_type, b_X12_type_51, Option.bind_some, ↓nm_eq, ↓sm_inl, ↓sm_inr, ↓dzo_0, ↓dzo_1, ↓drg_ok, ↓if_pos, ↓if_neg, if_pos, if_neg, if_true, if_false, Int.toNat_natCast, rg_ok, ↓bnd b1, ↓bnd b2, ↓bnd b3]⟩
  · rw [if_neg (by omega)] at a1 b1
    rw [if_neg (by omega)] at a2 b2
    rw [if_neg (by omega)] at a3 b3
    rw [e, if_neg (by decide), if_neg (by decide)]
    exact ⟨by simp (disch := omega) only [f_X11_isLetter, b_X11_isLetter_51, Option.bind_some, ↓nm_eq, ↓sm_inl, ↓sm_inr, ↓dzo_0, ↓dzo_1, ↓drg_ok, ↓if_pos, ↓if_neg, if_pos, if_neg, if_true, if_false, Int.toNat_natCast, rg_ok, ↓bnd a1, ↓bnd a2, ↓bnd a3], by simp (disch := omega) only [f_X12_type, b_X12_type_51, Option.bind_some, ↓nm_eq, ↓sm_inl, ↓sm_inr, ↓dzo_0, ↓dzo_1, ↓drg_ok, ↓if_pos, ↓if_neg, if_pos, if_neg, if_true, if_false, Int.toNat_natCast, rg_ok, ↓bnd b1, ↓bnd b2, ↓bnd b3]⟩
  · rw [if_neg (by omega)] at a1 b1
    rw [if_neg (by omega)] at a2 b2
    rw [if_neg (by omega)] at a3 b3
    rw [e, if_neg (by decide), if_neg (by decide)]
    exact ⟨by simp (disch := omega) only [f_X11_isLetter, b_X11_isLetter_51, Option.bind_some, ↓nm_eq, ↓sm_inl, ↓sm_inr, ↓dzo_0, ↓dzo_1, ↓drg_ok, ↓if_pos, ↓if_neg, if_pos, if_neg, if_true, if_false, Int.toNat_natCast, rg_ok, ↓bnd a1, ↓bnd a2, ↓bnd a3], by simp (disch := omega) only [f_X12_type, b_X12_type_51, Option.bind_some, ↓nm_eq, ↓sm_inl, ↓sm_inr, ↓dzo_0, ↓dzo_1, ↓drg_ok, ↓if_pos, ↓if_neg, if_pos, if_neg, if_true, if_false, Int.toNat_natCast, rg_ok, ↓bnd b1, ↓bnd b2, ↓bnd b3]⟩
  · rw [if_neg (by omega)] at a1 b1
    rw [if_neg (by omega)] at a2 b2
    rw [if_neg (by omega)] at a3 b3
    rw [e, if_neg (by decide), if_neg (by decide)]
    exact ⟨by simp (disch := omega) only [f_X11_isLetter, b_X11_isLetter_51, Option.bind_some, ↓nm_eq, ↓sm_inl, ↓sm_inr, ↓dzo_0, ↓dzo_1, ↓drg_ok, ↓if_pos, ↓if_neg, if_pos, if_neg, if_true, if_false, Int.toNat_natCast, rg_ok, ↓bnd a1, ↓bnd a2, ↓bnd a3], by simp (disch := omega) only [f_X12_type, b_X12_type_51, Option.bind_some, ↓nm_eq, ↓sm_inl, ↓sm_inr, ↓dzo_0, ↓dzo_1, ↓drg_ok, ↓if_pos, ↓if_neg, if_pos, if_neg, if_true, if_false, Int.toNat_natCast, rg_ok, ↓bnd b1, ↓bnd b2, ↓bnd b3]⟩
  · rw [if_neg (by omega)] at a1 b1
    rw [if_neg (by omega)] at a2 b2
    rw [if_neg (by omega)] at a3 b3
    rw [e, if_pos rfl, if_pos rfl]
    exact ⟨by simp (disch := omega) only [f_X11_isLetter, b_X11_isLetter_51, Option.bind_some, ↓nm_eq, ↓sm_inl, ↓sm_inr, ↓dzo_0, ↓dzo_1, ↓drg_ok, ↓if_pos, ↓if_neg, if_pos, if_neg, if_true, if_false, Int.toNat_natCast, rg_ok, ↓bnd a1, ↓bnd a2, ↓bnd a3], by simp (disch := omega) only [f_X12_type, b_X12_type_51, Option.bind_some, ↓nm_eq, ↓sm_inl, ↓sm_inr, ↓dzo_0, ↓dzo_1, ↓drg_ok, ↓if_pos, ↓if_neg, if_pos, if_neg, if_true, if_false, Int.toNat_natCast, rg_ok, ↓bnd b1, ↓bnd b2, ↓bnd b3]⟩
theorem tl_app {t : List Int} {x : Int} : (∀ j, j < t.length → tl (t ++ [x]) j = tl t j) ∧ tl (t ++ [x]) t.length = x := ⟨fun _ hj => gD_l hj, gD_m⟩
theorem ty_a {x : Int} (hx : 0 ≤ x ∧ x ≤ 65535) {u : Nat} {J L : Nat → Nat → Int} (hI : IX u J L) (c : tk x = 8) : ∃ (k : Int) (u1 : Nat) (J1 L1 : Nat → Nat → Int) (B : Int) (J2 L2 : Nat → Nat → Int), f_L_type 0 x 193 (hp u J L) = some (k, hp u1 J1 L1) ∧ f_X12_type 161 x (hp u1 J1 L1) = some (B, hp u1 J2 L2) ∧ J2 161 44 = k ∧ (k = 0 ∨ k = 1 ∨ k = 2) ∧ gi_ok B ∧ (k = 0 → L2 193 0 = B) ∧ IX u1 J2 L2 := by
  have hI0 := hI
  obtain ⟨ps, rs, ps1, rs1, t, lv, sd, w, nw, tp, tq, h⟩ := hI
  have hok : gi_ok x := ⟨by omega, by omega⟩
  have hT := h.2.1.2.2.2.2.1
  have rT := h.2.2.1.2.2.2.2.2.1
  have h1T : (1 : Nat) ∈ gTX := by decide
  have h24 := hT.tk.1
  have hl := hT.1
  have hl3 := rT.1
  have e1 := fun hh => (isL hok hh).1
  have e2 := fun hh => (isL hok hh).2
  refine k_out hI0 ?_ ?_
  · rw [c] at e1
    simp only [if_true] at e1
    simp (disch := omega) only [f_L_type, f_X11_type, ↓bnd (e1 _), ↓dhi_X, ↓dhG_X_0, ↓dhG_X_1, ↓dhG_X_2, ↓dhg_X_3, ↓dhq_X_3, ↓dhG_X_4, ↓dhG_X_5, ↓dhG_X_6, ↓dhg_X_7, ↓dhq_X_7, ↓dhG_X_8, ↓dhG_X_9, ↓dhG_X_10, ↓dhG_X_11, ↓dhG_X_12, ↓dhG_X_13, ↓dhG_X_14, ↓dhG_X_15, ↓dhG_X_16, ↓dhi_T h1T, ↓dhG_T_0 h1T, ↓dhg_T_1 h1T, ↓dhq_T_1 h1T, ↓dha_T_1 h1T, ↓dhs_T_1 h1T, ↓dhl_T_1 h1T, Option.bind_some, ↓nm_eq, ↓sm_inl, ↓sm_inr, ↓dzo_0, ↓dzo_1, ↓drg_ok, ↓if_pos, ↓if_neg, if_pos, if_neg, if_true, if_false, Int.toNat_natCast, rg_ok, xI2, if_true]
  · show f_X12_type 161 x (hp u J L) = _
    rw [e2, if_pos c]
    by_cases c2 : 24 ≤ J 161 13
    · simp (disch := omega) only [b_X12_type_56, b_X12_type_73, ↓dhi_M, ↓dhG_M_0, ↓dhG_M_1, ↓dhG_M_2, ↓dhG_M_3, ↓dhG_M_4, ↓dhG_M_5, ↓dhG_M_6, ↓dhG_M_7, ↓dhG_M_8, ↓dhg_M_9, ↓dhq_M_9, ↓dhG_M_10, ↓dhG_M_11, ↓dhG_M_12, ↓dhg_M_13, ↓dhq_M_13, ↓dhG_M_14, ↓dhg_M_15, ↓dhq_M_15, ↓dhG_M_16, ↓dhg_M_17, ↓dhq_M_17, ↓dhg_M_18, ↓dhq_M_18, ↓dhG_M_19, ↓dhG_M_20, ↓dhG_M_21, ↓dhG_M_22, ↓dhG_M_23, ↓dhG_M_24, ↓dhg_M_25, ↓dhq_M_25, ↓dhG_M_26, ↓dhG_M_27, ↓dhG_M_28, ↓dhg_M_29, ↓dhq_M_29, ↓dhG_M_30, ↓dhG_M_31, ↓dhg_M_32, ↓dhq_M_32, ↓dhg_M_33, ↓dhq_M_33, ↓dhg_M_34, ↓dhq_M_34, ↓dhg_M_35, ↓dhq_M_35, ↓dhG_M_36, ↓dhG_M_37, ↓dhg_M_38, ↓dhq_M_38, ↓dhg_M_39, ↓dhq_M_39, ↓dhG_M_40, ↓dhG_M_41, ↓dhG_M_42, ↓dhG_M_43, ↓dhg_M_44, ↓dhq_M_44, Option.bind_some, ↓nm_eq, ↓sm_inl, ↓sm_inr, ↓dzo_0, ↓dzo_1, ↓drg_ok, ↓if_pos, ↓if_neg, if_pos, if_neg, if_true, if_false, Int.toNat_natCast, rg_ok, ↓bnd (goes_1 0 1)]
    · simp (disch := omega) only [b_X12_type_56, b_X12_type_73, ↓dhi_M, ↓dhG_M_0, ↓dhG_M_1, ↓dhG_M_2, ↓dhG_M_3, ↓dhG_M_4, ↓dhG_M_5, ↓dhG_M_6, ↓dhG_M_7, ↓dhG_M_8, ↓dhg_M_9, ↓dhq_M_9, ↓dhG_M_10, ↓dhG_M_11, ↓dhG_M_12, ↓dhg_M_13, ↓dhq_M_13, ↓dhG_M_14, ↓dhg_M_15, ↓dhq_M_15, ↓dhG_M_16, ↓dhg_M_17, ↓dhq_M_17, ↓dhg_M_18, ↓dhq_M_18, ↓dhG_M_19, ↓dhG_M_20, ↓dhG_M_21, ↓dhG_M_22, ↓dhG_M_23, ↓dhG_M_24, ↓dhg_M_25, ↓dhq_M_25, ↓dhG_M_26, ↓dhG_M_27, ↓dhG_M_28, ↓dhg_M_29, ↓dhq_M_29, ↓dhG_M_30, ↓dhG_M_31, ↓dhg_M_32, ↓dhq_M_32, ↓dhg_M_33, ↓dhq_M_33, ↓dhg_M_34, ↓dhq_M_34, ↓dhg_M_35, ↓dhq_M_35, ↓dhG_M_36, ↓dhG_M_37, ↓dhg_M_38, ↓dhq_M_38, ↓dhg_M_39, ↓dhq_M_39, ↓dhG_M_40, ↓dhG_M_41, ↓dhG_M_42, ↓dhG_M_43, ↓dhg_M_44, ↓dhq_M_44, Option.bind_some, ↓nm_eq, ↓sm_inl, ↓sm_inr, ↓dzo_0, ↓dzo_1, ↓drg_ok, ↓if_pos, ↓if_neg, if_pos, if_neg, if_true, if_false, Int.toNat_natCast, rg_ok, ↓bnd (goes_1 1 1)]
theorem ty_b {x : Int} (hx : 0 ≤ x ∧ x ≤ 65535) {u : Nat} {J L : Nat → Nat → Int} (hI : IX u J L) (c : ¬ tk x = 8) (c2 : J 1 1 = 24) : ∃ (k : Int) (u1 : Nat) (J1 L1 : Nat → Nat → Int) (B : Int) (J2 L2 : Nat → Nat → Int), f_L_type 0 x 193 (hp u J L) = some (k, hp u1 J1 L1) ∧ f_X12_type 161 x (hp u1 J1 L1) = some (B, hp u1 J2 L2) ∧ J2 161 44 = k ∧ (k = 0 ∨ k = 1 ∨ k = 2) ∧ gi_ok B ∧ (k = 0 → L2 193 0 = B) ∧ IX u1 J2 L2 := by
  have hI0 := hI
  obtain ⟨ps, rs, ps1, rs1, t, lv, sd, w, nw, tp, tq, h⟩ := hI
  have hok : gi_ok x := ⟨by omega, by omega⟩
  have hT := h.2.1.2.2.2.2.1
  have rT := h.2.2.1.2.2.2.2.2.1
  have h1T : (1 : Nat) ∈ gTX := by decide
  have h24 := hT.tk.1
  have hl := hT.1
  have hl3 := rT.1
  have e1 : ∀ hh, f_X11_isLetter x hh = some 1 := fun hh => by rw [(isL hok hh).1, if_neg c]
  have e2 : ∀ hh, f_X12_type 161 x hh = b_X12_type_56 161 x 1 hh := fun hh => by rw [(isL hok hh).2, if_neg c]
  have ef := X8_isFull (u := u) (L := L) h1T h24
  rw [if_pos c2] at ef
  refine ⟨2, u, J, L, 0, gx_u J 161 44 2, L, ?_, ?_, gu_same _ _ _ _, Or.inr (Or.inr rfl), by decide, fun z => absurd z (by decide), ps, rs, ps1, rs1, t, lv, sd, w, nw, tp, tq, h.r (RQO.rf h.2.2.2.2).thr⟩
  · simp (disch := omega) only [f_L_type, f_X11_type, ↓bnd (e1 _), ↓dhi_X, ↓dhG_X_0, ↓dhG_X_1, ↓dhG_X_2, ↓dhg_X_3, ↓dhq_X_3, ↓dhG_X_4, ↓dhG_X_5, ↓dhG_X_6, ↓dhg_X_7, ↓dhq_X_7, ↓dhG_X_8, ↓dhG_X_9, ↓dhG_X_10, ↓dhG_X_11, ↓dhG_X_12, ↓dhG_X_13, ↓dhG_X_14, ↓dhG_X_15, ↓dhG_X_16, ↓dhi_T h1T, ↓dhG_T_0 h1T, ↓dhg_T_1 h1T, ↓dhq_T_1 h1T, ↓dha_T_1 h1T, ↓dhs_T_1 h1T, ↓dhl_T_1 h1T, Option.bind_some, ↓nm_eq, ↓sm_inl, ↓sm_inr, ↓dzo_0, ↓dzo_1, ↓drg_ok, ↓if_pos, ↓if_neg, if_pos, if_neg, if_true, if_false, Int.toNat_natCast, rg_ok, ↓bnd ef, xI4, xI3, if_true, if_false]
  · show f_X12_type 161 x (hp u J L) = _
    rw [e2]
    simp (disch := omega) only [b_X12_type_56, b_X12_type_73, ↓dhi_M, ↓dhG_M_0, ↓dhG_M_1, ↓dhG_M_2, ↓dhG_M_3, ↓dhG_M_4, ↓dhG_M_5, ↓dhG_M_6, ↓dhG_M_7, ↓dhG_M_8, ↓dhg_M_9, ↓dhq_M_9, ↓dhG_M_10, ↓dhG_M_11, ↓dhG_M_12, ↓dhg_M_13, ↓dhq_M_13, ↓dhG_M_14, ↓dhg_M_15, ↓dhq_M_15, ↓dhG_M_16, ↓dhg_M_17, ↓dhq_M_17, ↓dhg_M_18, ↓dhq_M_18, ↓dhG_M_19, ↓dhG_M_20, ↓dhG_M_21, ↓dhG_M_22, ↓dhG_M_23, ↓dhG_M_24, ↓dhg_M_25, ↓dhq_M_25, ↓dhG_M_26, ↓dhG_M_27, ↓dhG_M_28, ↓dhg_M_29, ↓dhq_M_29, ↓dhG_M_30, ↓dhG_M_31, ↓dhg_M_32, ↓dhq_M_32, ↓dhg_M_33, ↓dhq_M_33, ↓dhg_M_34, ↓dhq_M_34, ↓dhg_M_35, ↓dhq_M_35, ↓dhG_M_36, ↓dhG_M_37, ↓dhg_M_38, ↓dhq_M_38, ↓dhg_M_39, ↓dhq_M_39, ↓dhG_M_40, ↓dhG_M_41, ↓dhG_M_42, ↓dhG_M_43, ↓dhg_M_44, ↓dhq_M_44, Option.bind_some, ↓nm_eq, ↓sm_inl, ↓sm_inr, ↓dzo_0, ↓dzo_1, ↓drg_ok, ↓if_pos, ↓if_neg, if_pos, if_neg, if_true, if_false, Int.toNat_natCast, rg_ok, ↓bnd (goes_2 1)]
theorem ty_c {x : Int} (hx : 0 ≤ x ∧ x ≤ 65535) {u : Nat} {J L : Nat → Nat → Int} (hI : IX u J L) (c : ¬ tk x = 8) (c2 : ¬ J 1 1 = 24) : ∃ (k : Int) (u1 : Nat) (J1 L1 : Nat → Nat → Int) (B : Int) (J2 L2 : Nat → Nat → Int), f_L_type 0 x 193 (hp u J L) = some (k, hp u1 J1 L1) ∧ f_X12_type 161 x (hp u1 J1 L1) = some (B, hp u1 J2 L2) ∧ J2 161 44 = k ∧ (k = 0 ∨ k = 1 ∨ k = 2) ∧ gi_ok B ∧ (k = 0 → L2 193 0 = B) ∧ IX u1 J2 L2 := by
  have hI0 := hI
  obtain ⟨ps, rs, ps1, rs1, t, lv, sd, w, nw, tp, tq, h⟩ := hI
  have hok : gi_ok x := ⟨by omega, by omega⟩
  have hT := h.2.1.2.2.2.2.1
  have rT := h.2.2.1.2.2.2.2.2.1
  have h1T : (1 : Nat) ∈ gTX := by decide
  have h24 := hT.tk.1
  have hl := hT.1
  have hl3 := rT.1
  have e1 : ∀ hh, f_X11_isLetter x hh = some 1 := fun hh => by rw [(isL hok hh).1, if_neg c]
  have e2 : ∀ hh, f_X12_type 161 x hh = b_X12_type_56 161 x 1 hh := fun hh => by rw [(isL hok hh).2, if_neg c]
  have ef := X8_isFull (u := u) (L := L) h1T h24
  rw [if_neg c2] at ef
  have ea := X8_append (u := u) (I := J) (L := L) h1T (x := x) h24.1 (by omega) hx.1 hx.2
  have hlen : J 1 1 = (t.length : Int) := hl
  have ht24 : t.length < 24 := by omega
  obtain ⟨J1, hJ1⟩ : ∃ J1, J1 = gx_u (gx_u J (1 + 1) (J 1 1).toNat x) 1 1 (J 1 1 + 1) := ⟨_, rfl⟩
  rw [← hJ1] at ea
  have en : (J 1 1).toNat = t.length := by omega
  have f1 : ∀ a, a ≠ 1 → a ≠ 2 → J1 a = J a := fun a h1 h2 => by rw [hJ1, gu_ne h1, gu_ne h2]
  have e13 : gx_u J1 161 44 0 161 13 = (t.length : Int) := by rw [gu_at_ne (by decide), f1 161 (by decide) (by decide)]; exact hl3
  have e13b : gx_u (gx_u J1 161 44 0) 173 t.length x 161 13 = (t.length : Int) := by rw [gu_ne (by decide)]; exact e13
  have e13c : gx_u (gx_u (gx_u J1 161 44 0) 173 t.length x) 161 13 ((t.length : Int) + 1) 161 13 = (t.length : Int) + 1 := gu_same _ _ _ _
  have e13d : J1 161 13 = (t.length : Int) := by rw [f1 161 (by decide) (by decide)]; exact hl3
  refine ⟨0, u, J1, gx_u L 193 0 ((t.length : Int) + 1), (t.length : Int) + 1, gx_u (gx_u (gx_u J1 161 44 0) 173 t.length x) 161 13 ((t.length : Int) + 1), gx_u L 193 0 ((t.length : Int) + 1), ?_, ?_, ?_, Or.inl rfl, ⟨by omega, by omega⟩, fun _ => gu_same _ _ _ _, ps, rs, ps1, rs1, t ++ [x], lv, sd, w, nw, tp, tq, ?_⟩
  · rw [hlen] at ea
    have e1' := e1 (hp u J L)
    obtain ⟨m, hm⟩ : ∃ m : Int, m = (t.length : Int) + 1 := ⟨_, rfl⟩
    rw [← hm] at ea ⊢
    have hm1 : 0 ≤ m ∧ m ≤ 24 := by omega
    clear hm hl hl3 h24 hlen c2 hT rT e13 e13b e13c e13d en
    have e5 : f_X11_type 0 x (hp u J L) = some (.inl m, hp u J1 L) := by
      simp (disch := omega) only [f_X11_type, ↓dhi_X, ↓dhG_X_0, ↓dhG_X_1, ↓dhG_X_2, ↓dhg_X_3, ↓dhq_X_3, ↓dhG_X_4, ↓dhG_X_5, ↓dhG_X_6, ↓dhg_X_7, ↓dhq_X_7, ↓dhG_X_8, ↓dhG_X_9, ↓dhG_X_10, ↓dhG_X_11, ↓dhG_X_12, ↓dhG_X_13, ↓dhG_X_14, ↓dhG_X_15, ↓dhG_X_16, Option.bind_some, ↓nm_eq, ↓sm_inl, ↓sm_inr, ↓dzo_0, ↓dzo_1, ↓drg_ok, ↓if_pos, ↓if_neg, if_pos, if_neg, if_true, if_false, Int.toNat_natCast, rg_ok, ↓bnd e1', ↓bnd ef, ↓bnd ea, ↓dhi_T h1T]
    show f_L_type 0 x 193 (hp u J L) = _
    have e6 : gi_s2 (hp u J1 L) 193 0 m = some (hp u J1 (gx_u L 193 0 m)) := hs_193 (by omega) (by omega)
    simp (disch := omega) only [f_L_type, ↓dhi_X, ↓dhG_X_0, ↓dhG_X_1, ↓dhG_X_2, ↓dhg_X_3, ↓dhq_X_3, ↓dhG_X_4, ↓dhG_X_5, ↓dhG_X_6, ↓dhg_X_7, ↓dhq_X_7, ↓dhG_X_8, ↓dhG_X_9, ↓dhG_X_10, ↓dhG_X_11, ↓dhG_X_12, ↓dhG_X_13, ↓dhG_X_14, ↓dhG_X_15, ↓dhG_X_16, Option.bind_some, ↓nm_eq, ↓sm_inl, ↓sm_inr, ↓dzo_0, ↓dzo_1, ↓drg_ok, ↓if_pos, ↓if_neg, if_pos, if_neg, if_true, if_false, Int.toNat_natCast, rg_ok, ↓bnd e5, ↓bnd e6]
  · have s1 : ∀ K, b_X12_type_56 161 x 1 (hp u J1 K) = b_X12_type_73 161 x 161 1 1 (hp u J1 K) := fun K => by
      simp (disch := omega) only [b_X12_type_56, ↓dhi_M, ↓dhG_M_0, ↓dhG_M_1, ↓dhG_M_2, ↓dhG_M_3, ↓dhG_M_4, ↓dhG_M_5, ↓dhG_M_6, ↓dhG_M_7, ↓dhG_M_8, ↓dhg_M_9, ↓dhq_M_9, ↓dhG_M_10, ↓dhG_M_11, ↓dhG_M_12, ↓dhg_M_13, ↓dhq_M_13, ↓dhG_M_14, ↓dhg_M_15, ↓dhq_M_15, ↓dhG_M_16, ↓dhg_M_17, ↓dhq_M_17, ↓dhg_M_18, ↓dhq_M_18, ↓dhG_M_19, ↓dhG_M_20, ↓dhG_M_21, ↓dhG_M_22, ↓dhG_M_23, ↓dhG_M_24, ↓dhg_M_25, ↓dhq_M_25, ↓dhG_M_26, ↓dhG_M_27, ↓dhG_M_28, ↓dhg_M_29, ↓dhq_M_29, ↓dhG_M_30, ↓dhG_M_31, ↓dhg_M_32, ↓dhq_M_32, ↓dhg_M_33, ↓dhq_M_33, ↓dhg_M_34, ↓dhq_M_34, ↓dhg_M_35, ↓dhq_M_35, ↓dhG_M_36, ↓dhG_M_37, ↓dhg_M_38, ↓dhq_M_38, ↓dhg_M_39, ↓dhq_M_39, ↓dhG_M_40, ↓dhG_M_41, ↓dhG_M_42, ↓dhG_M_43, ↓dhg_M_44, ↓dhq_M_44, Option.bind_some, ↓nm_eq, ↓sm_inl, ↓sm_inr, ↓dzo_0, ↓dzo_1, ↓drg_ok, ↓if_pos, ↓if_neg, if_pos, if_neg, if_true, if_false, Int.toNat_natCast, rg_ok, e13d]
    have s2 : ∀ K, gi_s1 (hp u (gx_u J1 161 44 0) K) 173 ((t.length : Nat) : Int) x = some (hp u (gx_u (gx_u J1 161 44 0) 173 t.length x) K) := fun K => hs_173 (by omega) (by omega)
    have s3 : ∀ K, b_X12_type_73 161 x 161 1 1 (hp u J1 K) = some ((t.length : Int) + 1, hp u (gx_u (gx_u (gx_u J1 161 44 0) 173 t.length x) 161 13 ((t.length : Int) + 1)) K) := fun K => by
      simp (disch := omega) only [b_X12_type_73, ↓dhi_M, ↓dhG_M_0, ↓dhG_M_1, ↓dhG_M_2, ↓dhG_M_3, ↓dhG_M_4, ↓dhG_M_5, ↓dhG_M_6, ↓dhG_M_7, ↓dhG_M_8, ↓dhg_M_9, ↓dhq_M_9, ↓dhG_M_10, ↓dhG_M_11, ↓dhG_M_12, ↓dhg_M_13, ↓dhq_M_13, ↓dhG_M_14, ↓dhg_M_15, ↓dhq_M_15, ↓dhG_M_16, ↓dhg_M_17, ↓dhq_M_17, ↓dhg_M_18, ↓dhq_M_18, ↓dhG_M_19, ↓dhG_M_20, ↓dhG_M_21, ↓dhG_M_22, ↓dhG_M_23, ↓dhG_M_24, ↓dhg_M_25, ↓dhq_M_25, ↓dhG_M_26, ↓dhG_M_27, ↓dhG_M_28, ↓dhg_M_29, ↓dhq_M_29, ↓dhG_M_30, ↓dhG_M_31, ↓dhg_M_32, ↓dhq_M_32, ↓dhg_M_33, ↓dhq_M_33, ↓dhg_M_34, ↓dhq_M_34, ↓dhg_M_35, ↓dhq_M_35, ↓dhG_M_36, ↓dhG_M_37, ↓dhg_M_38, ↓dhq_M_38, ↓dhg_M_39, ↓dhq_M_39, ↓dhG_M_40, ↓dhG_M_41, ↓dhG_M_42, ↓dhG_M_43, ↓dhg_M_44, ↓dhq_M_44, Option.bind_some, ↓nm_eq, ↓sm_inl, ↓sm_inr, ↓dzo_0, ↓dzo_1, ↓drg_ok, ↓if_pos, ↓if_neg, if_pos, if_neg, if_true, if_false, Int.toNat_natCast, rg_ok, ↓bnd goes_0, e13, ↓bnd (s2 K), e13b, e13c]
    exact (e2 _).trans ((s1 _).trans (s3 _))
  · rw [gu_at_ne (by decide), gu_ne (by decide), gu_same]
  · have fr : ∀ a, a ≠ 1 → a ≠ 2 → a ≠ 161 → a ≠ 173 → gx_u (gx_u (gx_u J1 161 44 0) 173 t.length x) 161 13 ((t.length : Int) + 1) a = J a := fun a h1 h2 h3 h4 => by rw [gu_ne h3, gu_ne h4, gu_ne h3, f1 a h1 h2]
    have fm : ∀ k, k ≠ 13 → k ≠ 44 → gx_u (gx_u (gx_u J1 161 44 0) 173 t.length x) 161 13 ((t.length : Int) + 1) 161 k = J 161 k := fun k h1 h2 => by rw [gu_at_ne h1, gu_ne (by decide), gu_at_ne h2, f1 161 (by decide) (by decide)]
    have flen : (t ++ [x]).length = t.length + 1 := by simp
    have htk : ∀ j, j < (t ++ [x]).length → tk (tl (t ++ [x]) j) ≠ 8 := fun j hj => by
      by_cases cj : j < t.length
      · rw [tl_app.1 j cj]; exact hT.2.2.2 j cj
      · have : j = t.length := by omega
        rw [this, tl_app.2]; exact c
    refine h.upd (fun a ha => fr a (fun z => by simp [z] at ha) (fun z => by simp [z] at ha) (fun z => by simp [z] at ha) (fun z => by simp [z] at ha)) (by rw [fr 0 (by decide) (by decide) (by decide) (by decide)]) (fun k h1 h2 h3 => fm k h1 h3) (fun a ha => gu_ne ha) ⟨?_, fun j hj => ?_, by omega, htk⟩ (h.clv.fr (fr 61 (by decide) (by decide) (by decide) (by decide)) (fr 62 (by decide) (by decide) (by decide) (by decide))) ?_ ?_ ⟨?_, fun j hj => ?_, by omega, htk⟩ (h.rlv.fr (fr 171 (by decide) (by decide) (by decide) (by decide)) (fr 172 (by decide) (by decide) (by decide) (by decide))) ?_ h.sw
    · rw [gu_ne (by decide), gu_ne (by decide), gu_ne (by decide), hJ1, gu_same, hlen, flen]; rfl
    · rw [gu_ne (by decide), gu_ne (by decide), gu_ne (by decide), hJ1, gu_ne (by decide), en]
      by_cases cj : j < t.length
      · rw [tl_app.1 j cj, gu_at_ne (by omega)]; exact hT.2.1 j cj
      · have : j = t.length := by omega
        rw [this, tl_app.2, gu_same]
    · have := h.cse; unfold CSE at *; rw [fr 63 (by decide) (by decide) (by decide) (by decide)]; exact this
    · rw [fr 0 (by decide) (by decide) (by decide) (by decide)]; exact h.2.1.2.2.2.2.2.2.2.1
    · rw [gu_same, flen]; rfl
    · rw [gu_ne (by decide)]
      by_cases cj : j < t.length
      · rw [tl_app.1 j cj, gu_at_ne (by omega), gu_ne (by decide), f1 173 (by decide) (by decide)]; exact rT.2.1 j cj
      · have : j = t.length := by omega
        rw [this, tl_app.2, gu_same]
    · have := h.wse; unfold WSE at *; rw [fr 175 (by decide) (by decide) (by decide) (by decide), fm 17 (by decide) (by decide)]; exact this
theorem op_type {x : Int} (hx : 0 ≤ x ∧ x ≤ 65535) : OPK (fun h => f_L_type 0 x 193 h) (fun h => f_X12_type 161 x h) := by
  intro u J L hI
  by_cases c : tk x = 8
  · exact ty_a hx hI c
  · by_cases c2 : J 1 1 = 24
    · exact ty_b hx hI c c2
    · exact ty_c hx hI c c2
theorem isT8_1 {y : Nat} (hy : y < 8) (h : gi_H) : f_X11_isTerminal (y : Int) h = some 1 := X11_isT1 y hy h
theorem isT8_0 {x : Int} (h : x < 0 ∨ 8 ≤ x) (hx : gi_ok x) (hh : gi_H) : f_X11_isTerminal x hh = some 0 := by
  obtain ⟨h1, h2⟩ := hx
  by_cases c : x < 0
  · simp (disch := omega) only [f_X11_isTerminal, b_X11_isTerminal_14, Option.bind_some, ↓nm_eq, ↓sm_inl, ↓sm_inr, ↓dzo_0, ↓dzo_1, ↓drg_ok, ↓if_pos, ↓if_neg, if_pos, if_neg, if_true, if_false, Int.toNat_natCast, rg_ok]
  · simp (disch := omega) only [f_X11_isTerminal, b_X11_isTerminal_14, Option.bind_some, ↓nm_eq, ↓sm_inl, ↓sm_inr, ↓dzo_0, ↓dzo_1, ↓drg_ok, ↓if_pos, ↓if_neg, if_pos, if_neg, if_true, if_false, Int.toNat_natCast, rg_ok]
theorem op_level {n : Nat} {x y z : Int} (hx : gi_ok x) (hy : gi_ok y) (hz : gi_ok z) : OPK (fun h => f_L_level 0 x y z 193 h) (fun h => f_X12_level 161 x y z h) := by
  intro u J L hI
  have hI0 := hI
  obtain ⟨ps, rs, ps1, rs1, t, lv, sd, w, nw, tp, tq, h⟩ := hI
  obtain ⟨hx1, hx2⟩ := id hx
  obtain ⟨hy1, hy2⟩ := id hy
  obtain ⟨hz1, hz2⟩ := id hz
  by_cases c1 : x < 0 ∨ 8 ≤ x
  · refine k_out hI0 ?_ ?_
    · simp (disch := omega) only [f_L_level, f_X11_level, b_X11_level_16, ↓bnd (isT8_0 c1 hx _), ↓dhi_X, ↓dhG_X_0, ↓dhG_X_1, ↓dhG_X_2, ↓dhg_X_3, ↓dhq_X_3, ↓dhG_X_4, ↓dhG_X_5, ↓dhG_X_6, ↓dhg_X_7, ↓dhq_X_7, ↓dhG_X_8, ↓dhG_X_9, ↓dhG_X_10, ↓dhG_X_11, ↓dhG_X_12, ↓dhG_X_13, ↓dhG_X_14, ↓dhG_X_15, ↓dhG_X_16, Option.bind_some, ↓nm_eq, ↓sm_inl, ↓sm_inr, ↓dzo_0, ↓dzo_1, ↓drg_ok, ↓if_pos, ↓if_neg, if_pos, if_neg, if_true, if_false, Int.toNat_natCast, rg_ok, xI1, if_true]
    · by_cases c : y < 0
      · simp (disch := omega) only [f_X12_level, b_X12_level_23, b_X12_level_24, b_X12_level_37, b_X12_level_38, ↓bnd (isB_0 (m := 8) c1 hx (by omega) _), ↓dhi_M, ↓dhG_M_0, ↓dhG_M_1, ↓dhG_M_2, ↓dhG_M_3, ↓dhG_M_4, ↓dhG_M_5, ↓dhG_M_6, ↓dhG_M_7, ↓dhG_M_8, ↓dhg_M_9, ↓dhq_M_9, ↓dhG_M_10, ↓dhG_M_11, ↓dhG_M_12, ↓dhg_M_13, ↓dhq_M_13, ↓dhG_M_14, ↓dhg_M_15, ↓dhq_M_15, ↓dhG_M_16, ↓dhg_M_17, ↓dhq_M_17, ↓dhg_M_18, ↓dhq_M_18, ↓dhG_M_19, ↓dhG_M_20, ↓dhG_M_21, ↓dhG_M_22, ↓dhG_M_23, ↓dhG_M_24, ↓dhg_M_25, ↓dhq_M_25, ↓dhG_M_26, ↓dhG_M_27, ↓dhG_M_28, ↓dhg_M_29, ↓dhq_M_29, ↓dhG_M_30, ↓dhG_M_31, ↓dhg_M_32, ↓dhq_M_32, ↓dhg_M_33, ↓dhq_M_33, ↓dhg_M_34, ↓dhq_M_34, ↓dhg_M_35, ↓dhq_M_35, ↓dhG_M_36, ↓dhG_M_37, ↓dhg_M_38, ↓dhq_M_38, ↓dhg_M_39, ↓dhq_M_39, ↓dhG_M_40, ↓dhG_M_41, ↓dhG_M_42, ↓dhG_M_43, ↓dhg_M_44, ↓dhq_M_44, Option.bind_some, ↓nm_eq, ↓sm_inl, ↓sm_inr, ↓dzo_0, ↓dzo_1, ↓drg_ok, ↓if_pos, ↓if_neg, if_pos, if_neg, if_true, if_false, Int.toNat_natCast, rg_ok, ↓bnd (goes_1 0 1)]
      · by_cases c' : 5 < y
        · simp (disch := omega) only [f_X12_level, b_X12_level_23, b_X12_level_24, b_X12_level_37, b_X12_level_38, ↓bnd (isB_0 (m := 8) c1 hx (by omega) _), ↓dhi_M, ↓dhG_M_0, ↓dhG_M_1, ↓dhG_M_2, ↓dhG_M_3, ↓dhG_M_4, ↓dhG_M_5, ↓dhG_M_6, ↓dhG_M_7, ↓dhG_M_8, ↓dhg_M_9, ↓dhq_M_9, ↓dhG_M_10, ↓dhG_M_11, ↓dhG_M_12, ↓dhg_M_13, ↓dhq_M_13, ↓dhG_M_14, ↓dhg_M_15, ↓dhq_M_15, ↓dhG_M_16, ↓dhg_M_17, ↓dhq_M_17, ↓dhg_M_18, ↓dhq_M_18, ↓dhG_M_19, ↓dhG_M_20, ↓dhG_M_21, ↓dhG_M_22, ↓dhG_M_23, ↓dhG_M_24, ↓dhg_M_25, ↓dhq_M_25, ↓dhG_M_26, ↓dhG_M_27, ↓dhG_M_28, ↓dhg_M_29, ↓dhq_M_29, ↓dhG_M_30, ↓dhG_M_31, ↓dhg_M_32, ↓dhq_M_32, ↓dhg_M_33, ↓dhq_M_33, ↓dhg_M_34, ↓dhq_M_34, ↓dhg_M_35, ↓dhq_M_35, ↓dhG_M_36, ↓dhG_M_37, ↓dhg_M_38, ↓dhq_M_38, ↓dhg_M_39, ↓dhq_M_39, ↓dhG_M_40, ↓dhG_M_41, ↓dhG_M_42, ↓dhG_M_43, ↓dhg_M_44, ↓dhq_M_44, Option.bind_some, ↓nm_eq, ↓sm_inl, ↓sm_inr, ↓dzo_0, ↓dzo_1, ↓drg_ok, ↓if_pos, ↓if_neg, if_pos, if_neg, if_true, if_false, Int.toNat_natCast, rg_ok, ↓bnd (goes_1 0 1)]
        · simp (disch := omega) only [f_X12_level, b_X12_level_23, b_X12_level_24, b_X12_level_37, b_X12_level_38, ↓bnd (isB_0 (m := 8) c1 hx (by omega) _), ↓dhi_M, ↓dhG_M_0, ↓dhG_M_1, ↓dhG_M_2, ↓dhG_M_3, ↓dhG_M_4, ↓dhG_M_5, ↓dhG_M_6, ↓dhG_M_7, ↓dhG_M_8, ↓dhg_M_9, ↓dhq_M_9, ↓dhG_M_10, ↓dhG_M_11, ↓dhG_M_12, ↓dhg_M_13, ↓dhq_M_13, ↓dhG_M_14, ↓dhg_M_15, ↓dhq_M_15, ↓dhG_M_16, ↓dhg_M_17, ↓dhq_M_17, ↓dhg_M_18, ↓dhq_M_18, ↓dhG_M_19, ↓dhG_M_20, ↓dhG_M_21, ↓dhG_M_22, ↓dhG_M_23, ↓dhG_M_24, ↓dhg_M_25, ↓dhq_M_25, ↓dhG_M_26, ↓dhG_M_27, ↓dhG_M_28, ↓dhg_M_29, ↓dhq_M_29, ↓dhG_M_30, ↓dhG_M_31, ↓dhg_M_32, ↓dhq_M_32, ↓dhg_M_33, ↓dhq_M_33, ↓dhg_M_34, ↓dhq_M_34, ↓dhg_M_35, ↓dhq_M_35, ↓dhG_M_36, ↓dhG_M_37, ↓dhg_M_38, ↓dhq_M_38, ↓dhg_M_39, ↓dhq_M_39, ↓dhG_M_40, ↓dhG_M_41, ↓dhG_M_42, ↓dhG_M_43, ↓dhg_M_44, ↓dhq_M_44, Option.bind_some, ↓nm_eq, ↓sm_inl, ↓sm_inr, ↓dzo_0, ↓dzo_1, ↓drg_ok, ↓if_pos, ↓if_neg, if_pos, if_neg, if_true, if_false, Int.toNat_natCast, rg_ok, ↓bnd (goes_1 1 1)]
  · obtain ⟨p, rfl⟩ : ∃ a : Nat, x = (a : Int) := ⟨x.toNat, by omega⟩
    have hp8 : p < 8 := by omega
    by_cases c2 : z < 0 ∨ 2 < z
    · refine k_out hI0 ?_ ?_
      · by_cases c : z < 0
        · simp (disch := omega) only [f_L_level, f_X11_level, b_X11_level_16, ↓bnd (isT8_1 hp8 _), ↓dhi_X, ↓dhG_X_0, ↓dhG_X_1, ↓dhG_X_2, ↓dhg_X_3, ↓dhq_X_3, ↓dhG_X_4, ↓dhG_X_5, ↓dhG_X_6, ↓dhg_X_7, ↓dhq_X_7, ↓dhG_X_8, ↓dhG_X_9, ↓dhG_X_10, ↓dhG_X_11, ↓dhG_X_12, ↓dhG_X_13, ↓dhG_X_14, ↓dhG_X_15, ↓dhG_X_16, Option.bind_some, ↓nm_eq, ↓sm_inl, ↓sm_inr, ↓dzo_0, ↓dzo_1, ↓drg_ok, ↓if_pos, ↓if_neg, if_pos, if_neg, if_true, if_false, Int.toNat_natCast, rg_ok, xI1, if_true]
        · simp (disch := omega) only [f_L_level, f_X11_level, b_X11_level_16, ↓bnd (isT8_1 hp8 _), ↓dhi_X, ↓dhG_X_0, ↓dhG_X_1, ↓dhG_X_2, ↓dhg_X_3, ↓dhq_X_3, ↓dhG_X_4, ↓dhG_X_5, ↓dhG_X_6, ↓dhg_X_7, ↓dhq_X_7, ↓dhG_X_8, ↓dhG_X_9, ↓dhG_X_10, ↓dhG_X_11, ↓dhG_X_12, ↓dhG_X_13, ↓dhG_X_14, ↓dhG_X_15, ↓dhG_X_16, Option.bind_some, ↓nm_eq, ↓sm_inl, ↓sm_inr, ↓dzo_0, ↓dzo_1, ↓drg_ok, ↓if_pos, ↓if_neg, if_pos, if_neg, if_true, if_false, Int.toNat_natCast, rg_ok, xI1, if_true]
      · by_cases c : z < 0
        · by_cases d : y < 0
          · simp (disch := omega) only [f_X12_level, b_X12_level_23, b_X12_level_24, b_X12_level_37, b_X12_level_38, ↓bnd (isB_1 (x := (p : Int)) (m := 8) (by omega) (by omega) _), ↓dhi_M, ↓dhG_M_0, ↓dhG_M_1, ↓dhG_M_2, ↓dhG_M_3, ↓dhG_M_4, ↓dhG_M_5, ↓dhG_M_6, ↓dhG_M_7, ↓dhG_M_8, ↓dhg_M_9, ↓dhq_M_9, ↓dhG_M_10, ↓dhG_M_11, ↓dhG_M_12, ↓dhg_M_13, ↓dhq_M_13, ↓dhG_M_14, ↓dhg_M_15, ↓dhq_M_15, ↓dhG_M_16, ↓dhg_M_17, ↓dhq_M_17, ↓dhg_M_18, ↓dhq_M_18, ↓dhG_M_19, ↓dhG_M_20, ↓dhG_M_21, ↓dhG_M_22, ↓dhG_M_23, ↓dhG_M_24, ↓dhg_M_25, ↓dhq_M_25, ↓dhG_M_26, ↓dhG_M_27, ↓dhG_M_28, ↓dhg_M_29, ↓dhq_M_29, ↓dhG_M_30, ↓dhG_M_31, ↓dhg_M_32, ↓dhq_M_32, ↓dhg_M_33, ↓dhq_M_33, ↓dhg_M_34, ↓dhq_M_34, ↓dhg_M_35, ↓dhq_M_35, ↓dhG_M_36, ↓dhG_M_37, ↓dhg_M_38, ↓dhq_M_38, ↓dhg_M_39, ↓dhq_M_39, ↓dhG_M_40, ↓dhG_M_41, ↓dhG_M_42, ↓dhG_M_43, ↓dhg_M_44, ↓dhq_M_44, Option.bind_some, ↓nm_eq, ↓sm_inl, ↓sm_inr, ↓dzo_0, ↓dzo_1, ↓drg_ok, ↓if_pos, ↓if_neg, if_pos, if_neg, if_true, if_false, Int.toNat_natCast, rg_ok, ↓bnd (goes_1 0 1)]
          · by_cases d' : 5 < y
            · simp (disch := omega) only [f_X12_level, b_X12_level_23, b_X12_level_24, b_X12_level_37, b_X12_level_38, ↓bnd (isB_1 (x := (p : Int)) (m := 8) (by omega) (by omega) _), ↓dhi_M, ↓dhG_M_0, ↓dhG_M_1, ↓dhG_M_2, ↓dhG_M_3, ↓dhG_M_4, ↓dhG_M_5, ↓dhG_M_6, ↓dhG_M_7, ↓dhG_M_8, ↓dhg_M_9, ↓dhq_M_9, ↓dhG_M_10, ↓dhG_M_11, ↓dhG_M_12, ↓dhg_M_13, ↓dhq_M_13, ↓dhG_M_14, ↓dhg_M_15, ↓dhq_M_15, ↓dhG_M_16, ↓dhg_M_17, ↓dhq_M_17, ↓dhg_M_18, ↓dhq_M_18, ↓dhG_M_19, ↓dhG_M_20, ↓dhG_M_21, ↓dhG_M_22, ↓dhG_M_23, ↓dhG_M_24, ↓dhg_M_25, ↓dhq_M_25, ↓dhG_M_26, ↓dhG_M_27, ↓dhG_M_28, ↓dhg_M_29, ↓dhq_M_29, ↓dhG_M_30, ↓dhG_M_31, ↓dhg_M_32, ↓dhq_M_32, ↓dhg_M_33, ↓dhq_M_33, ↓dhg_M_34, ↓dhq_M_34, ↓dhg_M_35, ↓dhq_M_35, ↓dhG_M_36, ↓dhG_M_37, ↓dhg_M_38, ↓dhq_M_38, ↓dhg_M_39, ↓dhq_M_39, ↓dhG_M_40, ↓dhG_M_41, ↓dhG_M_42, ↓dhG_M_43, ↓dhg_M_44, ↓dhq_M_44, Option.bind_some, ↓nm_eq, ↓sm_inl, ↓sm_inr, ↓dzo_0, ↓dzo_1, ↓drg_ok, ↓if_pos, ↓if_neg, if_pos, if_neg, if_true, if_false, Int.toNat_natCast, rg_ok, ↓bnd (goes_1 0 1)]
            · simp (disch := omega) only [f_X12_level, b_X12_level_23, b_X12_level_24, b_X12_level_37, b_X12_level_38, ↓bnd (isB_1 (x := (p : Int)) (m := 8) (by omega) (by omega) _), ↓dhi_M, ↓dhG_M_0, ↓dhG_M_1, ↓dhG_M_2, ↓dhG_M_3, ↓dhG_M_4, ↓dhG_M_5, ↓dhG_M_6, ↓dhG_M_7, ↓dhG_M_8, ↓dhg_M_9, ↓dhq_M_9, ↓dhG_M_10, ↓dhG_M_11, ↓dhG_M_12, ↓dhg_M_13, ↓dhq_M_13, ↓dhG_M_14, ↓dhg_M_15, ↓dhq_M_15, ↓dhG_M_16, ↓dhg_M_17, ↓dhq_M_17, ↓dhg_M_18, ↓dhq_M_18, ↓dhG_M_19, ↓dhG_M_20, ↓dhG_M_21, ↓dhG_M_22, ↓dhG_M_23, ↓dhG_M_24, ↓dhg_M_25, ↓dhq_M_25, ↓dhG_M_26, ↓dhG_M_27, ↓dhG_M_28, ↓dhg_M_29, ↓dhq_M_29, ↓dhG_M_30, ↓dhG_M_31, ↓dhg_M_32, ↓dhq_M_32, ↓dhg_M_33, ↓dhq_M_33, ↓dhg_M_34, ↓dhq_M_34, ↓dhg_M_35, ↓dhq_M_35, ↓dhG_M_36, ↓dhG_M_37, ↓dhg_M_38, ↓dhq_M_38, ↓dhg_M_39, ↓dhq_M_39, ↓dhG_M_40, ↓dhG_M_41, ↓dhG_M_42, ↓dhG_M_43, ↓dhg_M_44, ↓dhq_M_44, Option.bind_some, ↓nm_eq, ↓sm_inl, ↓sm_inr, ↓dzo_0, ↓dzo_1, ↓drg_ok, ↓if_pos, ↓if_neg, if_pos, if_neg, if_true, if_false, Int.toNat_natCast, rg_ok, ↓bnd (goes_1 1 1)]
        · by_cases d : y < 0
          · simp (disch := omega) only [f_X12_level, b_X12_level_23, b_X12_level_24, b_X12_level_37, b_X12_level_38, ↓bnd (isB_1 (x := (p : Int)) (m := 8) (by omega) (by omega) _), ↓dhi_M, ↓dhG_M_0, ↓dhG_M_1, ↓dhG_M_2, ↓dhG_M_3, ↓dhG_M_4, ↓dhG_M_5, ↓dhG_M_6, ↓dhG_M_7, ↓dhG_M_8, ↓dhg_M_9, ↓dhq_M_9, ↓dhG_M_10, ↓dhG_M_11, ↓dhG_M_12, ↓dhg_M_13, ↓dhq_M_13, ↓dhG_M_14, ↓dhg_M_15, ↓dhq_M_15, ↓dhG_M_16, ↓dhg_M_17, ↓dhq_M_17, ↓dhg_M_18, ↓dhq_M_18, ↓dhG_M_19, ↓dhG_M_20, ↓dhG_M_21, ↓dhG_M_22, ↓dhG_M_23, ↓dhG_M_24, ↓dhg_M_25, ↓dhq_M_25, ↓dhG_M_26, ↓dhG_M_27, ↓dhG_M_28, ↓dhg_M_29, ↓dhq_M_29, ↓dhG_M_30, ↓dhG_M_31, ↓dhg_M_32, ↓dhq_M_32, ↓dhg_M_33, ↓dhq_M_33, ↓dhg_M_34, ↓dhq_M_34, ↓dhg_M_35, ↓dhq_M_35, ↓dhG_M_36, ↓dhG_M_37, ↓dhg_M_38, ↓dhq_M_38, ↓dhg_M_39, ↓dhq_M_39, ↓dhG_M_40, ↓dhG_M_41, ↓dhG_M_42, ↓dhG_M_43, ↓dhg_M_44, ↓dhq_M_44, Option.bind_some, ↓nm_eq, ↓sm_inl, ↓sm_inr, ↓dzo_0, ↓dzo_1, ↓drg_ok, ↓if_pos, ↓if_neg, if_pos, if_neg, if_true, if_false, Int.toNat_natCast, rg_ok, ↓bnd (goes_1 0 1)]
          · by_cases d' : 5 < y
            · simp (disch := omega) only [f_X12_level, b_X12_level_23, b_X12_level_24, b_X12_level_37, b_X12_level_38, ↓bnd (isB_1 (x := (p : Int)) (m := 8) (by omega) (by omega) _), ↓dhi_M, ↓dhG_M_0, ↓dhG_M_1, ↓dhG_M_2, ↓dhG_M_3, ↓dhG_M_4, ↓dhG_M_5, ↓dhG_M_6, ↓dhG_M_7, ↓dhG_M_8, ↓dhg_M_9, ↓dhq_M_9, ↓dhG_M_10, ↓dhG_M_11, ↓dhG_M_12, ↓dhg_M_13, ↓dhq_M_13, ↓dhG_M_14, ↓dhg_M_15, ↓dhq_M_15, ↓dhG_M_16, ↓dhg_M_17, ↓dhq_M_17, ↓dhg_M_18, ↓dhq_M_18, ↓dhG_M_19, ↓dhG_M_20, ↓dhG_M_21, ↓dhG_M_22, ↓dhG_M_23, ↓dhG_M_24, ↓dhg_M_25, ↓dhq_M_25, ↓dhG_M_26, ↓dhG_M_27, ↓dhG_M_28, ↓dhg_M_29, ↓dhq_M_29, ↓dhG_M_30, ↓dhG_M_31, ↓dhg_M_32, ↓dhq_M_32, ↓dhg_M_33, ↓dhq_M_33, ↓dhg_M_34, ↓dhq_M_34, ↓dhg_M_35, ↓dhq_M_35, ↓dhG_M_36, ↓dhG_M_37, ↓dhg_M_38, ↓dhq_M_38, ↓dhg_M_39, ↓dhq_M_39, ↓dhG_M_40, ↓dhG_M_41, ↓dhG_M_42, ↓dhG_M_43, ↓dhg_M_44, ↓dhq_M_44, Option.bind_some, ↓nm_eq, ↓sm_inl, ↓sm_inr, ↓dzo_0, ↓dzo_1, ↓drg_ok, ↓if_pos, ↓if_neg, if_pos, if_neg, if_true, if_false, Int.toNat_natCast, rg_ok, ↓bnd (goes_1 0 1)]
            · simp (disch := omega) only [f_X12_level, b_X12_level_23, b_X12_level_24, b_X12_level_37, b_X12_level_38, ↓bnd (isB_1 (x := (p : Int)) (m := 8) (by omega) (by omega) _), ↓dhi_M, ↓dhG_M_0, ↓dhG_M_1, ↓dhG_M_2, ↓dhG_M_3, ↓dhG_M_4, ↓dhG_M_5, ↓dhG_M_6, ↓dhG_M_7, ↓dhG_M_8, ↓dhg_M_9, ↓dhq_M_9, ↓dhG_M_10, ↓dhG_M_11, ↓dhG_M_12, ↓dhg_M_13, ↓dhq_M_13, ↓dhG_M_14, ↓dhg_M_15, ↓dhq_M_15, ↓dhG_M_16, ↓dhg_M_17, ↓dhq_M_17, ↓dhg_M_18, ↓dhq_M_18, ↓dhG_M_19, ↓dhG_M_20, ↓dhG_M_21, ↓dhG_M_22, ↓dhG_M_23, ↓dhG_M_24, ↓dhg_M_25, ↓dhq_M_25, ↓dhG_M_26, ↓dhG_M_27, ↓dhG_M_28, ↓dhg_M_29, ↓dhq_M_29, ↓dhG_M_30, ↓dhG_M_31, ↓dhg_M_32, ↓dhq_M_32, ↓dhg_M_33, ↓dhq_M_33, ↓dhg_M_34, ↓dhq_M_34, ↓dhg_M_35, ↓dhq_M_35, ↓dhG_M_36, ↓dhG_M_37, ↓dhg_M_38, ↓dhq_M_38, ↓dhg_M_39, ↓dhq_M_39, ↓dhG_M_40, ↓dhG_M_41, ↓dhG_M_42, ↓dhG_M_43, ↓dhg_M_44, ↓dhq_M_44, Option.bind_some, ↓nm_eq, ↓sm_inl, ↓sm_inr, ↓dzo_0, ↓dzo_1, ↓drg_ok, ↓if_pos, ↓if_neg, if_pos, if_neg, if_true, if_false, Int.toNat_natCast, rg_ok, ↓bnd (goes_1 1 1)]
    · by_cases c3 : y < 0 ∨ 5 < y
      · refine ⟨2, u, J, L, 0, gx_u J 161 44 2, L, ?_, ?_, gu_same _ _ _ _, Or.inr (Or.inr rfl), by decide, fun z => absurd z (by decide), ps, rs, ps1, rs1, t, lv, sd, w, nw, tp, tq, h.r (RQO.rf h.2.2.2.2).thr⟩
        · by_cases d : y < 0
          · simp (disch := omega) only [f_L_level, f_X11_level, b_X11_level_16, b_X11_level_35, ↓bnd (isT8_1 hp8 _), ↓dhi_X, ↓dhG_X_0, ↓dhG_X_1, ↓dhG_X_2, ↓dhg_X_3, ↓dhq_X_3, ↓dhG_X_4, ↓dhG_X_5, ↓dhG_X_6, ↓dhg_X_7, ↓dhq_X_7, ↓dhG_X_8, ↓dhG_X_9, ↓dhG_X_10, ↓dhG_X_11, ↓dhG_X_12, ↓dhG_X_13, ↓dhG_X_14, ↓dhG_X_15, ↓dhG_X_16, Option.bind_some, ↓nm_eq, ↓sm_inl, ↓sm_inr, ↓dzo_0, ↓dzo_1, ↓drg_ok, ↓if_pos, ↓if_neg, if_pos, if_neg, if_true, if_false, Int.toNat_natCast, rg_ok, xI5, xI2, if_true, if_false]
          · simp (disch := omega) only [f_L_level, f_X11_level, b_X11_level_16, b_X11_level_35, ↓bnd (isT8_1 hp8 _), ↓dhi_X, ↓dhG_X_0, ↓dhG_X_1, ↓dhG_X_2, ↓dhg_X_3, ↓dhq_X_3, ↓dhG_X_4, ↓dhG_X_5, ↓dhG_X_6, ↓dhg_X_7, ↓dhq_X_7, ↓dhG_X_8, ↓dhG_X_9, ↓dhG_X_10, ↓dhG_X_11, ↓dhG_X_12, ↓dhG_X_13, ↓dhG_X_14, ↓dhG_X_15, ↓dhG_X_16, Option.bind_some, ↓nm_eq, ↓sm_inl, ↓sm_inr, ↓dzo_0, ↓dzo_1, ↓drg_ok, ↓if_pos, ↓if_neg, if_pos, if_neg, if_true, if_false, Int.toNat_natCast, rg_ok, xI5, xI2, if_true, if_false]
        · by_cases d : y < 0
          · simp (disch := omega) only [f_X12_level, b_X12_level_23, b_X12_level_24, b_X12_level_37, b_X12_level_38, ↓bnd (isB_1 (x := (p : Int)) (m := 8) (by omega) (by omega) _), ↓dhi_M, ↓dhG_M_0, ↓dhG_M_1, ↓dhG_M_2, ↓dhG_M_3, ↓dhG_M_4, ↓dhG_M_5, ↓dhG_M_6, ↓dhG_M_7, ↓dhG_M_8, ↓dhg_M_9, ↓dhq_M_9, ↓dhG_M_10, ↓dhG_M_11, ↓dhG_M_12, ↓dhg_M_13, ↓dhq_M_13, ↓dhG_M_14, ↓dhg_M_15, ↓dhq_M_15, ↓dhG_M_16, ↓dhg_M_17, ↓dhq_M_17, ↓dhg_M_18, ↓dhq_M_18, ↓dhG_M_19, ↓dhG_M_20, ↓dhG_M_21, ↓dhG_M_22, ↓dhG_M_23, ↓dhG_M_24, ↓dhg_M_25, ↓dhq_M_25, ↓dhG_M_26, ↓dhG_M_27, ↓dhG_M_28, ↓dhg_M_29, ↓dhq_M_29, ↓dhG_M_30, ↓dhG_M_31, ↓dhg_M_32, ↓dhq_M_32, ↓dhg_M_33, ↓dhq_M_33, ↓dhg_M_34, ↓dhq_M_34, ↓dhg_M_35, ↓dhq_M_35, ↓dhG_M_36, ↓dhG_M_37, ↓dhg_M_38, ↓dhq_M_38, ↓dhg_M_39, ↓dhq_M_39, ↓dhG_M_40, ↓dhG_M_41, ↓dhG_M_42, ↓dhG_M_43, ↓dhg_M_44, ↓dhq_M_44, Option.bind_some, ↓nm_eq, ↓sm_inl, ↓sm_inr, ↓dzo_0, ↓dzo_1, ↓drg_ok, ↓if_pos, ↓if_neg, if_pos, if_neg, if_true, if_false, Int.toNat_natCast, rg_ok, ↓bnd (goes_2 1)]
          · simp (disch := omega) only [f_X12_level, b_X12_level_23, b_X12_level_24, b_X12_level_37, b_X12_level_38, ↓bnd (isB_1 (x := (p : Int)) (m := 8) (by omega) (by omega) _), ↓dhi_M, ↓dhG_M_0, ↓dhG_M_1, ↓dhG_M_2, ↓dhG_M_3, ↓dhG_M_4, ↓dhG_M_5, ↓dhG_M_6, ↓dhG_M_7, ↓dhG_M_8, ↓dhg_M_9, ↓dhq_M_9, ↓dhG_M_10, ↓dhG_M_11, ↓dhG_M_12, ↓dhg_M_13, ↓dhq_M_13, ↓dhG_M_14, ↓dhg_M_15, ↓dhq_M_15, ↓dhG_M_16, ↓dhg_M_17, ↓dhq_M_17, ↓dhg_M_18, ↓dhq_M_18, ↓dhG_M_19, ↓dhG_M_20, ↓dhG_M_21, ↓dhG_M_22, ↓dhG_M_23, ↓dhG_M_24, ↓dhg_M_25, ↓dhq_M_25, ↓dhG_M_26, ↓dhG_M_27, ↓dhG_M_28, ↓dhg_M_29, ↓dhq_M_29, ↓dhG_M_30, ↓dhG_M_31, ↓dhg_M_32, ↓dhq_M_32, ↓dhg_M_33, ↓dhq_M_33, ↓dhg_M_34, ↓dhq_M_34, ↓dhg_M_35, ↓dhq_M_35, ↓dhG_M_36, ↓dhG_M_37, ↓dhg_M_38, ↓dhq_M_38, ↓dhg_M_39, ↓dhq_M_39, ↓dhG_M_40, ↓dhG_M_41, ↓dhG_M_42, ↓dhG_M_43, ↓dhg_M_44, ↓dhq_M_44, Option.bind_some, ↓nm_eq, ↓sm_inl, ↓sm_inr, ↓dzo_0, ↓dzo_1, ↓drg_ok, ↓if_pos, ↓if_neg, if_pos, if_neg, if_true, if_false, Int.toNat_natCast, rg_ok, ↓bnd (goes_2 1)]
      · have hc := h.clv
        have hr := h.rlv
        have hv := (hc.1 p hp8).1
        have hup : ∀ (f : Nat → Int) (v : Int) (I : Nat → Nat → Int) (a : Nat), (∀ y, y < 8 → I a y = f y) → ∀ y, y < 8 → gx_u I a p v a y = zup f p v y := fun f v I a hf y hy => by
          by_cases cy : y = p
          · rw [cy, gu_same, zup_eq]
          · rw [gu_at_ne cy, zup_ne cy]; exact hf y hy
        have e61 : J 61 p = lv p := (hc.2 p hp8).1
        have hL : LVR (zup lv p y) (zup sd p z) := fun q hq => by
          by_cases cq : q = p
          · rw [cq, zup_eq, zup_eq]; omega
          · rw [zup_ne cq, zup_ne cq]; exact hc.1 q hq
        have e171 : gx_u (gx_u (gx_u J 61 p y) 62 p z) 161 44 0 171 p = lv p := by
          rw [gu_ne (by decide), gu_ne (by decide), gu_ne (by decide)]; exact (hr.2 p hp8).1
        refine ⟨0, u, gx_u (gx_u J 61 p y) 62 p z, gx_u L 193 0 (lv p), lv p, gx_u (gx_u (gx_u (gx_u (gx_u J 61 p y) 62 p z) 161 44 0) 171 p y) 172 p z, gx_u L 193 0 (lv p), ?_, ?_, ?_, Or.inl rfl, ⟨by omega, by omega⟩, fun _ => gu_same _ _ _ _, ps, rs, ps1, rs1, t, zup lv p y, zup sd p z, w, nw, tp, tq, ?_⟩
        · simp (disch := omega) only [f_L_level, f_X11_level, b_X11_level_16, b_X11_level_35, ↓bnd (isT8_1 hp8 _), ↓dhi_X, ↓dhG_X_0, ↓dhG_X_1, ↓dhG_X_2, ↓dhg_X_3, ↓dhq_X_3, ↓dhG_X_4, ↓dhG_X_5, ↓dhG_X_6, ↓dhg_X_7, ↓dhq_X_7, ↓dhG_X_8, ↓dhG_X_9, ↓dhG_X_10, ↓dhG_X_11, ↓dhG_X_12, ↓dhG_X_13, ↓dhG_X_14, ↓dhG_X_15, ↓dhG_X_16, ↓dha_61, ↓dhs_61, ↓dhl_61, ↓dha_62, ↓dhs_62, ↓dhl_62, ↓dha_193, ↓dhs_193, ↓dhl_193, Option.bind_some, ↓nm_eq, ↓sm_inl, ↓sm_inr, ↓dzo_0, ↓dzo_1, ↓drg_ok, ↓if_pos, ↓if_neg, if_pos, if_neg, if_true, if_false, Int.toNat_natCast, rg_ok, e61] <;> rfl
        · simp (disch := omega) only [f_X12_level, b_X12_level_23, b_X12_level_24, b_X12_level_37, b_X12_level_38, ↓bnd (isB_1 (x := (p : Int)) (m := 8) (by omega) (by omega) _), ↓dhi_M, ↓dhG_M_0, ↓dhG_M_1, ↓dhG_M_2, ↓dhG_M_3, ↓dhG_M_4, ↓dhG_M_5, ↓dhG_M_6, ↓dhG_M_7, ↓dhG_M_8, ↓dhg_M_9, ↓dhq_M_9, ↓dhG_M_10, ↓dhG_M_11, ↓dhG_M_12, ↓dhg_M_13, ↓dhq_M_13, ↓dhG_M_14, ↓dhg_M_15, ↓dhq_M_15, ↓dhG_M_16, ↓dhg_M_17, ↓dhq_M_17, ↓dhg_M_18, ↓dhq_M_18, ↓dhG_M_19, ↓dhG_M_20, ↓dhG_M_21, ↓dhG_M_22, ↓dhG_M_23, ↓dhG_M_24, ↓dhg_M_25, ↓dhq_M_25, ↓dhG_M_26, ↓dhG_M_27, ↓dhG_M_28, ↓dhg_M_29, ↓dhq_M_29, ↓dhG_M_30, ↓dhG_M_31, ↓dhg_M_32, ↓dhq_M_32, ↓dhg_M_33, ↓dhq_M_33, ↓dhg_M_34, ↓dhq_M_34, ↓dhg_M_35, ↓dhq_M_35, ↓dhG_M_36, ↓dhG_M_37, ↓dhg_M_38, ↓dhq_M_38, ↓dhg_M_39, ↓dhq_M_39, ↓dhG_M_40, ↓dhG_M_41, ↓dhG_M_42, ↓dhG_M_43, ↓dhg_M_44, ↓dhq_M_44, ↓dha_171, ↓dhs_171, ↓dhl_171, ↓dha_172, ↓dhs_172, ↓dhl_172, Option.bind_some, ↓nm_eq, ↓sm_inl, ↓sm_inr, ↓dzo_0, ↓dzo_1, ↓drg_ok, ↓if_pos, ↓if_neg, if_pos, if_neg, if_true, if_false, Int.toNat_natCast, rg_ok, ↓bnd goes_0, e171]
        · rw [gu_ne (by decide), gu_ne (by decide), gu_same]
        · obtain ⟨Jf, hJf⟩ : ∃ Jf, Jf = gx_u (gx_u (gx_u (gx_u (gx_u J 61 p y) 62 p z) 161 44 0) 171 p y) 172 p z := ⟨_, rfl⟩
          rw [← hJf]
          have fr : ∀ a, a ≠ 61 → a ≠ 62 → a ≠ 161 → a ≠ 171 → a ≠ 172 → Jf a = J a := fun a h1 h2 h3 h4 h5 => by rw [hJf, gu_ne h5, gu_ne h4, gu_ne h3, gu_ne h2, gu_ne h1]
          have fm : ∀ k, k ≠ 44 → Jf 161 k = J 161 k := fun k h1 => by rw [hJf, gu_ne (by decide), gu_ne (by decide), gu_at_ne h1, gu_ne (by decide), gu_ne (by decide)]
          refine h.upd (fun a ha => fr a (fun z => by simp [z] at ha) (fun z => by simp [z] at ha) (fun z => by simp [z] at ha) (fun z => by simp [z] at ha) (fun z => by simp [z] at ha)) (by rw [fr 0 (by decide) (by decide) (by decide) (by decide) (by decide)]) (fun k h1 h2 h3 => fm k h3) (fun a ha => gu_ne ha) (h.2.1.2.2.2.2.1.fr (fr 1 (by decide) (by decide) (by decide) (by decide) (by decide)) (fr 2 (by decide) (by decide) (by decide) (by decide) (by decide))) ⟨hL, fun q hq => ⟨?_, ?_⟩⟩ ?_ ?_ ?_ ⟨hL, fun q hq => ⟨?_, ?_⟩⟩ ?_ h.sw
          · rw [hJf, gu_ne (by decide), gu_ne (by decide), gu_ne (by decide), gu_ne (by decide)]; exact hup lv y J 61 (fun y hy => (hc.2 y hy).1) q hq
          · rw [hJf, gu_ne (by decide), gu_ne (by decide), gu_ne (by decide)]; exact hup sd z (gx_u J 61 p y) 62 (fun y hy => by rw [gu_ne (by decide)]; exact (hc.2 y hy).2) q hq
          · have := h.cse; unfold CSE at *; rw [fr 63 (by decide) (by decide) (by decide) (by decide) (by decide)]; exact this
          · rw [fr 0 (by decide) (by decide) (by decide) (by decide) (by decide)]; exact h.2.1.2.2.2.2.2.2.2.1
          · have := h.2.2.1.2.2.2.2.2.1; unfold RT at *; rw [fr 173 (by decide) (by decide) (by decide) (by decide) (by decide), fm 13 (by decide)]; exact this
          · rw [hJf, gu_ne (by decide)]; exact hup lv y _ 171 (fun y hy => by rw [gu_ne (by decide), gu_ne (by decide), gu_ne (by decide)]; exact (hr.2 y hy).1) q hq
          · rw [hJf]; exact hup sd z _ 172 (fun y hy => by rw [gu_ne (by decide), gu_ne (by decide), gu_ne (by decide), gu_ne (by decide)]; exact (hr.2 y hy).2) q hq
          · have := h.wse; unfold WSE at *; rw [fr 175 (by decide) (by decide) (by decide) (by decide) (by decide), fm 17 (by decide)]; exact this
