/-! ===== the reference's automata ===== -/
def mS (b : Bool) : Nat := if b then 29 else 32
def mF (b : Bool) : Nat := if b then 34 else 35
