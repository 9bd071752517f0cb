/-! ===== calls: the start and the grammar that is used ===== -/
theorem CG.top {v : Nat} {J : Nat → Nat → Int} {ps : List (Nat × List Nat)} {rs : List (Nat × List Int)} (h : CG v J ps rs) {x : Int} (hx : 0 ≤ x ∧ x ≤ 7) : CG v (gx_u J v 7 x) ps rs := by
  obtain ⟨⟨⟨w1, w2, w3, w4, w5, w6⟩, h2, h3⟩, h4, h5⟩ := h
  have en : ∀ a, a ≠ v → gx_u J v 7 x a = J a := fun a ha => gu_ne ha
  have ek : ∀ k, k ≠ 7 → gx_u J v 7 x v k = J v k := fun k hk => gu_at_ne hk
  refine ⟨⟨⟨?_, ?_, ?_, ?_, ?_, ?_⟩, ?_, ?_⟩, ?_, fun i hi => ⟨?_, ?_⟩⟩
  · rw [ek 3 (by decide)]; exact w1
  · rw [ek 6 (by decide)]; exact w2
  · rw [gu_same]; exact hx
  · rw [en (v + 3) (by omega)]; exact w4
  · rw [en (v + 1) (by omega)]; exact w5
  · rw [en (v + 2) (by omega)]; exact w6
  · rw [ek 3 (by decide)]; exact h2
  · rw [en (v + 1) (by omega), en (v + 3) (by omega), en (v + 2) (by omega)]; exact h3
  · rw [ek 6 (by decide)]; exact h4
  · rw [en (v + 5) (by omega)]; exact (h5 i hi).1
  · exact (h5 i hi).2.fr (en _ (by omega)) (en _ (by omega))
theorem fgt_k {J : Nat → Nat → Int} {a k : Nat} (h : ¬ (a = 64 ∧ k = 1)) (h2 : ¬ (a = 73 ∧ k = 2)) (h3 : ¬ (a = 79 ∧ k = 2)) : fgt J a k = J a k := by
  have one : ∀ (I : Nat → Nat → Int) (b j : Nat) (x : Int), ¬ (a = b ∧ k = j) → gx_u I b j x a k = I a k := fun I b j x hb => by
    by_cases c : a = b
    · rw [c]; exact gu_at_ne (fun z => hb ⟨c, z⟩)
    · rw [gu_ne c]
  unfold fgt
  rw [one _ _ _ _ h3, one _ _ _ _ h2, one _ _ _ _ h]
theorem fgt_a {J : Nat → Nat → Int} {a : Nat} (h : a ≠ 64 ∧ a ≠ 73 ∧ a ≠ 79) : fgt J a = J a := by
  unfold fgt
  rw [gu_ne h.2.2, gu_ne h.2.1, gu_ne h.1]
