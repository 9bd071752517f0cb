/-! ===== the reference: a table of states runs ===== -/
theorem ws_cast2 (m x : Nat) : ((m + 1 : Nat) : Int) * (x : Int) = (((m + 1) * x : Nat) : Int) := (Int.natCast_mul _ _).symm
theorem zce_m {g : GT} {kd t y : Nat} {lv sd : Nat → Int} (hg : GR g) : zce g kd lv sd t y % 10000 - 1 = zcd (zat g kd lv sd t y) ∧ 0 ≤ zce g kd lv sd t y ∧ zce g kd lv sd t y ≤ 30000 := by
  have h1 := zcd_rg (zat_rg (g := g) (kd := kd) (t := t) (y := y) (lv := lv) (sd := sd) hg)
  unfold zce
  split
  · omega
  · split <;> omega
theorem zcd_q {q : Nat} (h : q < 24) : zcd (q : Int) = (q : Int) := by unfold zcd; rw [if_neg (by omega), if_neg (by omega)]
