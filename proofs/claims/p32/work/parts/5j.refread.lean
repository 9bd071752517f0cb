/-! ===== the reference reads a rule ===== -/
def sw (x : Int) : Int := if x = -1 then -2 else if x = -2 then -1 else x
theorem sw_s {x : Int} (h : sgd x) : sw x = x := by unfold sw; unfold sgd at h; repeat' split
                                                    all_goals omega
theorem ch_1 {r : Nat → Int} {a : Nat} : ch r a (a + 1) = [(r a).toNat] := by rw [ch_s (Nat.le_refl _), ch_0]; rfl
theorem ch_2 {r : Nat → Int} {a : Nat} : ch r a (a + 2) = [(r a).toNat, (r (a + 1)).toNat] := by rw [ch_s (by omega), ch_1]; rfl
theorem ch_3 {r : Nat → Int} {a : Nat} : ch r a (a + 3) = [(r a).toNat, (r (a + 1)).toNat, (r (a + 2)).toNat] := by rw [ch_s (by omega), ch_2]; rfl
