/-! ===== calls: reading rules, text, levels ===== -/
theorem TL.nil {J : Nat → Nat → Int} {x : Nat} (h : J x 1 = 0) : TL x J [] := ⟨h, fun j hj => absurd hj (by simp), by simp, fun j hj => absurd hj (by simp)⟩
