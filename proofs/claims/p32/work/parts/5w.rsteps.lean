/-! ===== the reference: steps, states found ===== -/
theorem fo_sur {g : GT} (hg : GR g) {x : Nat} (h : x < frm g (Gn g) + 2) : ∃ p k, vI g p k ∧ fo g p + k = x := by
  have key : ∀ q, q ≤ Gn g → x < frm g q → ∃ p k, p < q ∧ k ≤ Gl g p ∧ frm g p + k = x := by
    intro q
    induction q with
    | zero => intro _ hx; exact absurd hx (by show ¬ x < 0; omega)
    | succ q ih =>
      intro hq hx
      by_cases c : x < frm g q
      · obtain ⟨p, k, a, b, c⟩ := ih (by omega) c
        exact ⟨p, k, by omega, b, c⟩
      · have hx' : x < frm g q + (Gl g q + 1) := hx
        exact ⟨q, x - frm g q, by omega, by omega, by omega⟩
  by_cases c : x < frm g (Gn g)
  · obtain ⟨p, k, a, b, e⟩ := key (Gn g) (Nat.le_refl _) c
    have hne : p ≠ 24 := by have := hg.1; omega
    refine ⟨p, k, ⟨Or.inl a, by rw [gX_l hne]; exact b⟩, ?_⟩
    unfold fo; rw [if_neg hne]; exact e
  · refine ⟨24, x - frm g (Gn g), ⟨Or.inr rfl, by rw [gX_l24]; omega⟩, ?_⟩
    unfold fo; rw [if_pos rfl]; omega
