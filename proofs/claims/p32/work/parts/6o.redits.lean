/-! ===== the reference finds the fewest edits ===== -/
def opQ (_ : GT) (w : Nat → Nat) : OP := (100, fun x y => if x = y then 0 else 100, eTm w, fun a b => a + b, fun a b => mn a b, fun _ s => s)
section RWE
variable {u : Nat} {n : Nat} {nw : Nat} {L : Nat → Nat → Int} {g : GT} {w : Nat → Nat}
theorem eB_V {v : CV} (hv : ∀ a x y, v a x y ≤ 100) {s x y : Nat} (_ : s < 8 ∨ (16 ≤ s ∧ s < 32)) (h1 : x ≤ y) (h2 : y ≤ 12) : gsv (opQ g w) v s x y ≤ 100 := by
  unfold gsv
  split
  · show eTm w s x y ≤ 100; have := eTm_le (w := w) (s := s) h1 h2; omega
  · exact hv _ _ _
theorem eB_F {f : Nat → Nat} : ∀ c, gfo (opQ g w) f c ≤ 100
  | 0 => Nat.le_refl _
  | c + 1 => Nat.le_trans (mn_le _ _).1 (eB_F c)
theorem eB_D (_ : GR g) {v : CV} (_ : ∀ a x y, v a x y ≤ 100) {p x : Nat} : ∀ (k y : Nat), k ≤ Gl g p → x ≤ y → y ≤ 12 → gD (opQ g w) g v p k x y ≤ 100
  | 0, y, _, _, _ => by
    show (if x = y then 0 else 100) ≤ 100; split <;> omega
  | k + 1, y, _, _, _ => eB_F _
end RWE
