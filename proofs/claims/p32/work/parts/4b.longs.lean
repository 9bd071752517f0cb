/-! ===== texts in longs, three bits a letter ===== -/
theorem gL_nat (x : Nat) : (gL (x : Int)).toBitVec = BitVec.ofNat 64 x := by
  show BitVec.ofInt 64 (x : Int) = BitVec.ofNat 64 x
  apply BitVec.eq_of_toNat_eq
  rw [BitVec.toNat_ofInt, BitVec.toNat_ofNat]
  omega
theorem gL_toN {b : BitVec 64} {x : Nat} (h : b.toNat = x) (hx : x < 9223372036854775808) {y : Int64} (hy : y.toBitVec = b) : y.toInt = (x : Int) := by
  show y.toBitVec.toInt = (x : Int)
  rw [hy, BitVec.toInt_eq_toNat_of_lt (by rw [h]; omega), h]
theorem sh_fin : ∀ l : Fin 21, ((((gI (3 * (l.val : Int))).toInt64 &&& 63).toBitVec.smod 64)) = BitVec.ofNat 64 (3 * l.val) := by decide +kernel
theorem p23 (l : Nat) : 2 ^ (3 * l) = 8 ^ l := by rw [Nat.pow_mul]
theorem shlL_nat {x l : Nat} (hl : l ≤ 20) (h : x * 8 ^ l < 9223372036854775808) : gi_shlL (x : Int) (3 * (l : Int)) = ((x * 8 ^ l : Nat) : Int) := by
  have hx : x < 9223372036854775808 := Nat.lt_of_le_of_lt (Nat.le_mul_of_pos_right x (Nat.pow_pos (by decide))) h
  refine gL_toN (b := (BitVec.ofNat 64 x) <<< (BitVec.ofNat 64 (3 * l))) ?_ h ?_
  · rw [BitVec.shiftLeft_eq', BitVec.toNat_shiftLeft, BitVec.toNat_ofNat, BitVec.toNat_ofNat, Nat.mod_eq_of_lt (a := x) (by omega), Nat.mod_eq_of_lt (a := 3 * l) (by omega), Nat.shiftLeft_eq, p23, Nat.mod_eq_of_lt (by omega)]
  · rw [Int64.toBitVec_shiftLeft, gL_nat, sh_fin ⟨l, by omega⟩]
theorem orL_nat {x y : Nat} (hx : x < 9223372036854775808) (hy : y < 9223372036854775808) : gi_orL (x : Int) (y : Int) = ((x ||| y : Nat) : Int) := by
  have h : x ||| y < 2 ^ 63 := Nat.or_lt_two_pow (by omega) (by omega)
  refine gL_toN (b := (BitVec.ofNat 64 x) ||| (BitVec.ofNat 64 y)) ?_ (by omega) ?_
  · rw [BitVec.toNat_or, BitVec.toNat_ofNat, BitVec.toNat_ofNat, Nat.mod_eq_of_lt (by omega), Nat.mod_eq_of_lt (by omega)]
  · rw [Int64.toBitVec_or, gL_nat, gL_nat]
/-- a text behind a text -/
theorem shl_or {x y l : Nat} (hl : l ≤ 20) (hy : y < 8 ^ l) (h : x * 8 ^ l + y < 9223372036854775808) : gi_orL (gi_shlL (x : Int) (3 * (l : Int))) (y : Int) = ((x * 8 ^ l + y : Nat) : Int) := by
  rw [shlL_nat hl (by omega), orL_nat (by omega) (by omega)]
  congr 1
  have e := Nat.shiftLeft_add_eq_or_of_lt (i := 3 * l) (b := y) (by rw [p23]; exact hy) x
  rw [Nat.shiftLeft_eq, p23] at e
  exact e.symm
theorem shrL_nat {x k : Nat} (hk : k ≤ 20) (h : x < 9223372036854775808) : gi_shrL (x : Int) (3 * (k : Int)) = ((x / 8 ^ k : Nat) : Int) := by
  have h2 : x / 8 ^ k < 9223372036854775808 := Nat.lt_of_le_of_lt (Nat.div_le_self _ _) h
  refine gL_toN (b := (BitVec.ofNat 64 x).sshiftRight (3 * k)) ?_ h2 ?_
  · have hm : (BitVec.ofNat 64 x).msb = false := by
      rw [BitVec.msb_eq_false_iff_two_mul_lt, BitVec.toNat_ofNat, Nat.mod_eq_of_lt (by omega)]; omega
    rw [BitVec.sshiftRight_eq_of_msb_false hm, BitVec.toNat_ushiftRight, BitVec.toNat_ofNat, Nat.mod_eq_of_lt (by omega), Nat.shiftRight_eq_div_pow, p23]
  · rw [Int64.toBitVec_shiftRight, gL_nat, sh_fin ⟨k, by omega⟩, BitVec.sshiftRight_eq', BitVec.toNat_ofNat, Nat.mod_eq_of_lt (by omega)]
theorem andL7 {x : Nat} (h : x < 9223372036854775808) : gi_andL (x : Int) 7 = ((x % 8 : Nat) : Int) := by
  refine gL_toN (b := (BitVec.ofNat 64 x) &&& (BitVec.ofNat 64 7)) ?_ (by omega) ?_
  · rw [BitVec.toNat_and, BitVec.toNat_ofNat, BitVec.toNat_ofNat, Nat.mod_eq_of_lt (by omega), Nat.mod_eq_of_lt (a := 7) (by decide), show (7 : Nat) = 2 ^ 3 - 1 by decide, Nat.and_two_pow_sub_one_eq_mod]
  · rw [Int64.toBitVec_and, gL_nat]; rfl
theorem and7 (x : Nat) : gi_and (x : Int) 7 = ((x % 8 : Nat) : Int) := by
  show ((gI (x : Int) &&& gI 7).toBitVec).toInt = _
  have e1 : (gI (x : Int) &&& gI 7).toBitVec = (BitVec.ofNat 32 x) &&& (BitVec.ofNat 32 7) := by
    rw [Int32.toBitVec_and]
    congr 1
  have e2 : ((BitVec.ofNat 32 x) &&& (BitVec.ofNat 32 7)).toNat = x % 8 := by
    rw [BitVec.toNat_and, BitVec.toNat_ofNat, BitVec.toNat_ofNat, Nat.mod_eq_of_lt (a := 7) (by decide), show (7 : Nat) = 2 ^ 3 - 1 by decide, Nat.and_two_pow_sub_one_eq_mod]
    omega
  rw [e1, BitVec.toInt_eq_toNat_of_lt (by rw [e2]; omega), e2]
theorem cmp_lt {x y : Int} : gi_cmp x y < 0 ↔ x < y := by
  unfold gi_cmp; repeat' split
  all_goals omega
theorem cmp_eq {x y : Int} : gi_cmp x y = 0 ↔ x = y := by
  unfold gi_cmp; repeat' split
  all_goals omega
theorem cmp_rg (x y : Int) : -2147483648 ≤ gi_cmp x y ∧ gi_cmp x y ≤ 2147483647 := by
  unfold gi_cmp; repeat' split
  all_goals omega
