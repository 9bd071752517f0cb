/-! ===== calls: a letter is typed, a level is set ===== -/
theorem isT11 {x : Int} (hx : gi_ok x) (h : gi_H) : f_X11_isTerminalLetter x h = some (if 97 ≤ x ∧ x ≤ 104 then 1 else 0) := by
  obtain ⟨h1, h2⟩ := hx
  by_cases c : x < 97
  · rw [if_neg (by omega)]; simp (disch := omega) only [f_X11_isTerminalLetter, b_X11_isTerminalLetter_16, Option.bind_some, ↓nm_eq, ↓sm_inl, ↓sm_inr, ↓dzo_0, ↓dzo_1, ↓drg_ok, ↓if_pos, ↓if_neg, if_pos, if_neg, if_true, if_false, Int.toNat_natCast, rg_ok]
  · by_cases c2 : 104 < x
    · rw [if_neg (by omega)]; simp (disch := omega) only [f_X11_isTerminalLetter, b_X11_isTerminalLetter_16, Option.bind_some, ↓nm_eq, ↓sm_inl, ↓sm_inr, ↓dzo_0, ↓dzo_1, ↓drg_ok, ↓if_pos, ↓if_neg, if_pos, if_neg, if_true, if_false, Int.toNat_natCast, rg_ok]
    · rw [if_pos (by omega)]; simp (disch := omega) only [f_X11_isTerminalLetter, b_X11_isTerminalLetter_16, Option.bind_some, ↓nm_eq, ↓sm_inl, ↓sm_inr, ↓dzo_0, ↓dzo_1, ↓drg_ok, ↓if_pos, ↓if_neg, if_pos, if_neg, if_true, if_false, Int.toNat_natCast, rg_ok]
theorem isN11 {x : Int} (hx : gi_ok x) (h : gi_H) : f_X11_isNonterminalLetter x h = some (if 65 ≤ x ∧ x ≤ 72 then 1 else 0) := by
  obtain ⟨h1, h2⟩ := hx
  by_cases c : x < 65
  · rw [if_neg (by omega)]; simp (disch := omega) only [f_X11_isNonterminalLetter, b_X11_isNonterminalLetter_16, Option.bind_some, ↓nm_eq, ↓sm_inl, ↓sm_inr, ↓dzo_0, ↓dzo_1, ↓drg_ok, ↓if_pos, ↓if_neg, if_pos, if_neg, if_true, if_false, Int.toNat_natCast, rg_ok]
  · by_cases c2 : 72 < x
    · rw [if_neg (by omega)]; simp (disch := omega) only [f_X11_isNonterminalLetter, b_X11_isNonterminalLetter_16, Option.bind_some, ↓nm_eq, ↓sm_inl, ↓sm_inr, ↓dzo_0, ↓dzo_1, ↓drg_ok, ↓if_pos, ↓if_neg, if_pos, if_neg, if_true, if_false, Int.toNat_natCast, rg_ok]
    · rw [if_pos (by omega)]; simp (disch := omega) only [f_X11_isNonterminalLetter, b_X11_isNonterminalLetter_16, Option.bind_some, ↓nm_eq, ↓sm_inl, ↓sm_inr, ↓dzo_0, ↓dzo_1, ↓drg_ok, ↓if_pos, ↓if_neg, if_pos, if_neg, if_true, if_false, Int.toNat_natCast, rg_ok]
theorem isR11 {x : Int} (hx : gi_ok x) (h : gi_H) : f_X11_isRepeat x h = some (if x = 63 ∨ x = 42 ∨ x = 43 then 1 else 0) := by
  obtain ⟨h1, h2⟩ := hx
  by_cases c : x = 63
  · rw [if_pos (by omega)]; simp (disch := omega) only [f_X11_isRepeat, b_X11_isRepeat_18, Option.bind_some, ↓nm_eq, ↓sm_inl, ↓sm_inr, ↓dzo_0, ↓dzo_1, ↓drg_ok, ↓if_pos, ↓if_neg, if_pos, if_neg, if_true, if_false, Int.toNat_natCast, rg_ok]
  · by_cases c2 : x = 42
    · rw [if_pos (by omega)]; simp (disch := omega) only [f_X11_isRepeat, b_X11_isRepeat_18, Option.bind_some, ↓nm_eq, ↓sm_inl, ↓sm_inr, ↓dzo_0, ↓dzo_1, ↓drg_ok, ↓if_pos, ↓if_neg, if_pos, if_neg, if_true, if_false, Int.toNat_natCast, rg_ok]
    · by_cases c3 : x = 43
      · rw [if_pos (by omega)]; simp (disch := omega) only [f_X11_isRepeat, b_X11_isRepeat_18, Option.bind_some, ↓nm_eq, ↓sm_inl, ↓sm_inr, ↓dzo_0, ↓dzo_1, ↓drg_ok, ↓if_pos, ↓if_neg, if_pos, if_neg, if_true, if_false, Int.toNat_natCast, rg_ok]
      · rw [if_neg (by omega)]; simp (disch := omega) only [f_X11_isRepeat, b_X11_isRepeat_18, Option.bind_some, ↓nm_eq, ↓sm_inl, ↓sm_inr, ↓dzo_0, ↓dzo_1, ↓drg_ok, ↓if_pos, ↓if_neg, if_pos, if_neg, if_true, if_false, Int.toNat_natCast, rg_ok]
theorem tl_app {t : List Int} {x : Int} : (∀ j, j < t.length → tl (t ++ [x]) j = tl t j) ∧ tl (t ++ [x]) t.length = x := ⟨fun _ hj => gD_l hj, gD_m⟩
theorem isT8_1 {y : Nat} (hy : y < 8) (h : gi_H) : f_X11_isTerminal (y : Int) h = some 1 := X11_isT1 y hy h
theorem isT8_0 {x : Int} (h : x < 0 ∨ 8 ≤ x) (hx : gi_ok x) (hh : gi_H) : f_X11_isTerminal x hh = some 0 := by
  obtain ⟨h1, h2⟩ := hx
  by_cases c : x < 0
  · simp (disch := omega) only [f_X11_isTerminal, b_X11_isTerminal_14, Option.bind_some, ↓nm_eq, ↓sm_inl, ↓sm_inr, ↓dzo_0, ↓dzo_1, ↓drg_ok, ↓if_pos, ↓if_neg, if_pos, if_neg, if_true, if_false, Int.toNat_natCast, rg_ok]
  · simp (disch := omega) only [f_X11_isTerminal, b_X11_isTerminal_14, Option.bind_some, ↓nm_eq, ↓sm_inl, ↓sm_inr, ↓dzo_0, ↓dzo_1, ↓drg_ok, ↓if_pos, ↓if_neg, if_pos, if_neg, if_true, if_false, Int.toNat_natCast, rg_ok]
