/-! ===== the reference's grammar as it stands in a heap; leadsAll; finds ===== -/
/-- Warshall's relations -/
def WR (R : Nat → Nat → Prop) : Nat → Nat → Nat → Prop
  | 0, a, b => R a b
  | k + 1, a, b => WR R k a b ∨ (WR R k a k ∧ WR R k k b)
theorem WR_tr {R : Nat → Nat → Prop} : ∀ k a j b, j < k → WR R k a j → WR R k j b → WR R k a b
  | 0, _, _, _, h, _, _ => absurd h (by omega)
  | k + 1, a, j, b, h, h1, h2 => by
    by_cases e : j = k
    · subst e
      right
      refine ⟨?_, ?_⟩
      · rcases h1 with h1 | h1
        · exact h1
        · exact h1.1
      · rcases h2 with h2 | h2
        · exact h2
        · exact h2.2
    · have hj : j < k := by omega
      rcases h1 with h1 | h1
      · rcases h2 with h2 | h2
        · exact Or.inl (WR_tr k a j b hj h1 h2)
        · exact Or.inr ⟨WR_tr k a j k hj h1 h2.1, h2.2⟩
      · rcases h2 with h2 | h2
        · exact Or.inr ⟨h1.1, WR_tr k k j b hj h1.2 h2⟩
        · exact Or.inr ⟨h1.1, h2.2⟩
theorem WR_sub {R : Nat → Nat → Prop} : ∀ k a b, R a b → WR R k a b
  | 0, _, _, h => h
  | k + 1, a, b, h => Or.inl (WR_sub k a b h)
