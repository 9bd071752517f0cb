/-! ===== the reference: readings ===== -/
noncomputable def rS (g : GT) (w : Nat → Nat) (v : CV) (a x y : Nat) : Nat → Nat
  | 0 => 0
  | p + 1 => rS g w v a x y p + (if Go g p = a then gD (opC g w) g v p (Gl g p) x y else 0)
theorem rS_s {g : GT} {w : Nat → Nat} {v : CV} {a x y p : Nat} : rS g w v a x y (p + 1) = rS g w v a x y p + (if Go g p = a then gD (opC g w) g v p (Gl g p) x y else 0) := rfl
theorem rS_F {g : GT} {w : Nat → Nat} {v : CV} {a x y : Nat} : ∀ N, m100 (rS g w v a x y N) = gF (opC g w) g v a x y N
  | 0 => rfl
  | N + 1 => by
    rw [rS_s, gF_s, ← rS_F N]
    split
    · show _ = m100 (m100 (rS g w v a x y N) + gD (opC g w) g v N (Gl g N) x y)
      rw [Nat.add_comm (m100 _), m100_add, Nat.add_comm]
    · rw [Nat.add_zero]
theorem rS_le {g : GT} {w : Nat → Nat} {v : CV} {a x y : Nat} : ∀ N, rS g w v a x y N ≤ 100 * N
  | 0 => Nat.le_refl _
  | N + 1 => by
    have ih := rS_le (g := g) (w := w) (v := v) (a := a) (x := x) (y := y) N
    have h1 : gD (opC g w) g v N (Gl g N) x y ≤ 100 := by rw [gD_cD]; exact m100_le _
    rw [rS_s]
    split <;> omega
section RCN
variable {u : Nat} {n : Nat} {nw : Nat} {L : Nat → Nat → Int} {g : GT} {w : Nat → Nat}
theorem fb_next {W X x y : Nat} (h : fb nw W (X + 1) x y) : (x = X ∧ y = X + W) ∨ (¬ (x = X ∧ y = X + W) ∧ fb nw W X x y) := by
  obtain ⟨a1, a2, a3⟩ := h
  by_cases e : x = X ∧ y = X + W
  · exact Or.inl e
  · exact Or.inr ⟨e, a1, a2, by omega⟩
end RCN
