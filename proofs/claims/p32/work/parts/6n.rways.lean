/-! ===== the reference counts ways ===== -/
theorem m100_add (a b : Nat) : m100 (a + m100 b) = m100 (a + b) := by
  unfold m100
  repeat' split
  all_goals omega
section RWV
variable {u : Nat} {n : Nat} {nw : Nat} {L : Nat → Nat → Int} {g : GT} {w : Nat → Nat}
theorem wB_V {v : CV} (hv : ∀ a x y, v a x y ≤ 100) {s x y : Nat} (_ : s < 8 ∨ (16 ≤ s ∧ s < 32)) (_ : x ≤ y) (_ : y ≤ 12) : gsv (opC g w) v s x y ≤ 100 := by
  unfold gsv
  split
  · show (if y = x + 1 ∧ w x = s then 1 else 0) ≤ 100; split <;> omega
  · exact hv _ _ _
theorem wB_F {f : Nat → Nat} : ∀ c, gfo (opC g w) f c ≤ 100
  | 0 => Nat.zero_le _
  | c + 1 => m100_le _
theorem wB_D (_ : GR g) {v : CV} (_ : ∀ a x y, v a x y ≤ 100) {p x : Nat} : ∀ (k y : Nat), k ≤ Gl g p → x ≤ y → y ≤ 12 → gD (opC g w) g v p k x y ≤ 100
  | 0, y, _, _, _ => by
    show (if x = y then 1 else 0) ≤ 100; split <;> omega
  | k + 1, y, _, _, _ => wB_F _
end RWV
