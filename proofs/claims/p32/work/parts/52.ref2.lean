/-! ===== the reference: findsMore ===== -/
theorem gu_id (I : Nat → Nat → Int) (a k : Nat) : gx_u I a k (I a k) = I := by
  funext b j
  by_cases h : b = a
  · subst h
    rw [gu_at]
    split
    · next e => rw [e]
    · rfl
  · rw [gu_ne h]
