/-! ===== the reference: states; the class: table ===== -/
section ST2
variable {u : Nat} {n : Nat} {L : Nat → Nat → Int} {g : GT}
def kb (kd : Nat) : Bool := if kd = 3 then false else true
end ST2
