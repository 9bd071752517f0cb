/-! ===== the reference: the predictive table's run ===== -/
def ec (e : Bool × Nat) : Int := if e.1 = true then (e.2 : Int) else -((e.2 : Int) + 1)
