/-! ===== the reference: closures, numbers ===== -/
section RN
variable {u : Nat} {n : Nat} {L : Nat → Nat → Int} {g : GT} {N : Nat → Prop} {F : Nat → Nat → Prop}
def CS (g : GT) (N : Nat → Prop) (F : Nat → Nat → Prop) (A o : Nat) (K : AS) (J0 J : Nat → Nat → Int) : Prop := Fr [A] J0 J ∧ (∀ x, x < o ∨ o + 146 ≤ x → J A x = J0 A x) ∧ CI g N F A (ar g o) K J
end RN
