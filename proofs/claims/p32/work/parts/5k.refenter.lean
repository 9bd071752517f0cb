/-! ===== the reference: a rule read, entered ===== -/
theorem tn0 : Int.toNat 0 = 0 := rfl
