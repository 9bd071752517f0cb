/-! ===== the law, as a function, answers 1 on every script ===== -/
theorem law_pure (L : Nat) (xs : Nat → Int) (hL : L ≤ 2048) (hx : ∀ j, gi_ok (xs j)) : ∃ (n : Nat) (h1 : gi_H), f_L_law n L xs (0, fun _ => (0, 0), fun _ _ => 0, fun _ _ => 0, fun _ _ => none) = some (1, h1) := sorry
