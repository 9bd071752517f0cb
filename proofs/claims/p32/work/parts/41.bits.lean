/-! ===== numbers as sets of bits ===== -/
def bt (x : Int) (i : Nat) : Bool := (gI x).toBitVec.getLsbD i
theorem bt_out {x : Int} {i : Nat} (h : 32 ≤ i) : bt x i = false := BitVec.getLsbD_of_ge _ _ h
theorem bt_or (x y : Int) (i : Nat) : bt (gi_or x y) i = (bt x i || bt y i) := by
  simp only [bt, gi_or, gI_of, Int32.toBitVec_or, BitVec.getLsbD_or]
theorem bt_and (x y : Int) (i : Nat) : bt (gi_and x y) i = (bt x i && bt y i) := by
  simp only [bt, gi_and, gI_of, Int32.toBitVec_and, BitVec.getLsbD_and]
theorem bt_shl1_fin : ∀ k : Fin 32, ∀ i : Fin 32, bt (gi_shl 1 (k.val : Int)) i.val = decide (i.val = k.val) := by decide +kernel
theorem bt_shl1 {k : Nat} (hk : k < 32) (i : Nat) : bt (gi_shl 1 (k : Int)) i = decide (i = k) := by
  by_cases hi : i < 32
  · exact bt_shl1_fin ⟨k, hk⟩ ⟨i, hi⟩
  · rw [bt_out (by omega)]; symm; rw [decide_eq_false_iff_not]; omega
theorem bt_sh_fin : ∀ k : Fin 32, (gI (k.val : Int) &&& 31).toBitVec.smod 32 = BitVec.ofNat 32 k.val := by decide +kernel
theorem bt_shr0 {x : Int} {k : Nat} (hk : k < 32) : bt (gi_shr x (k : Int)) 0 = bt x k := by
  simp only [bt, gi_shr, gI_of, Int32.toBitVec_shiftRight]
  rw [bt_sh_fin ⟨k, hk⟩, BitVec.sshiftRight_eq', BitVec.getLsbD_sshiftRight]
  simp only [BitVec.toNat_ofNat]
  rw [Nat.mod_eq_of_lt (by omega)]
  simp [hk]
theorem bt_ok_or (x y : Int) : -2147483648 ≤ gi_or x y ∧ gi_or x y ≤ 2147483647 := ⟨Int32.minValue_le_toInt _, Int32.toInt_le _⟩
theorem bt_ok_and (x y : Int) : -2147483648 ≤ gi_and x y ∧ gi_and x y ≤ 2147483647 := ⟨Int32.minValue_le_toInt _, Int32.toInt_le _⟩
theorem bt_ok_shl (x y : Int) : -2147483648 ≤ gi_shl x y ∧ gi_shl x y ≤ 2147483647 := ⟨Int32.minValue_le_toInt _, Int32.toInt_le _⟩
theorem bt_ok_shr (x y : Int) : -2147483648 ≤ gi_shr x y ∧ gi_shr x y ≤ 2147483647 := ⟨Int32.minValue_le_toInt _, Int32.toInt_le _⟩
theorem bt_ext {x y : Int} (hx : gi_ok x) (hy : gi_ok y) (h : ∀ i, i < 32 → bt x i = bt y i) : x = y := by
  have e : gI x = gI y := Int32.toBitVec.inj (BitVec.eq_of_getLsbD_eq (fun i hi => h i hi))
  rw [← gI_toInt hx, e, gI_toInt hy]
theorem bt_zero (i : Nat) : bt 0 i = false := by
  by_cases hi : i < 32
  · exact (by decide +kernel : ∀ i : Fin 32, bt 0 i.val = false) ⟨i, hi⟩
  · exact bt_out (by omega)
theorem bt_one (i : Nat) : bt 1 i = decide (i = 0) := by
  by_cases hi : i < 32
  · exact (by decide +kernel : ∀ i : Fin 32, bt 1 i.val = decide (i.val = 0)) ⟨i, hi⟩
  · rw [bt_out (by omega)]; symm; rw [decide_eq_false_iff_not]; omega
theorem bt_512 (i : Nat) : bt 512 i = decide (i = 9) := by
  by_cases hi : i < 32
  · exact (by decide +kernel : ∀ i : Fin 32, bt 512 i.val = decide (i.val = 9)) ⟨i, hi⟩
  · rw [bt_out (by omega)]; symm; rw [decide_eq_false_iff_not]; omega
theorem bt_256 (i : Nat) : bt 256 i = decide (i = 8) := by
  by_cases hi : i < 32
  · exact (by decide +kernel : ∀ i : Fin 32, bt 256 i.val = decide (i.val = 8)) ⟨i, hi⟩
  · rw [bt_out (by omega)]; symm; rw [decide_eq_false_iff_not]; omega
theorem bt_768 (i : Nat) : bt 768 i = (decide (i = 8) || decide (i = 9)) := by
  by_cases hi : i < 32
  · exact (by decide +kernel : ∀ i : Fin 32, bt 768 i.val = (decide (i.val = 8) || decide (i.val = 9))) ⟨i, hi⟩
  · rw [bt_out (by omega)]; symm; simp; omega
theorem bt_255 (i : Nat) : bt 255 i = decide (i < 8) := by
  by_cases hi : i < 32
  · exact (by decide +kernel : ∀ i : Fin 32, bt 255 i.val = decide (i.val < 8)) ⟨i, hi⟩
  · rw [bt_out (by omega)]; symm; rw [decide_eq_false_iff_not]; omega
theorem bt_511 (i : Nat) : bt 511 i = decide (i < 9) := by
  by_cases hi : i < 32
  · exact (by decide +kernel : ∀ i : Fin 32, bt 511 i.val = decide (i.val < 9)) ⟨i, hi⟩
  · rw [bt_out (by omega)]; symm; rw [decide_eq_false_iff_not]; omega
theorem bt_1023 (i : Nat) : bt 1023 i = decide (i < 10) := by
  by_cases hi : i < 32
  · exact (by decide +kernel : ∀ i : Fin 32, bt 1023 i.val = decide (i.val < 10)) ⟨i, hi⟩
  · rw [bt_out (by omega)]; symm; rw [decide_eq_false_iff_not]; omega
/-- 'has' of a set -/
theorem bt_has {x : Int} {k : Nat} (hk : k < 32) : gi_and (gi_shr x (k : Int)) 1 = if bt x k = true then 1 else 0 := by
  apply bt_ext (bt_ok_and _ _) (by split <;> decide)
  intro i _
  rw [bt_and, bt_one]
  by_cases h0 : i = 0
  · subst h0
    rw [bt_shr0 hk]
    cases bt x k <;> simp [bt_one, bt_zero]
  · rw [show decide (i = 0) = false from decide_eq_false h0, Bool.and_false]
    cases bt x k
    · rw [if_neg (by decide), bt_zero]
    · rw [if_pos rfl, bt_one, decide_eq_false h0]
theorem bt_or_left {x y : Int} (hx : gi_ok x) : gi_or x y = x ↔ ∀ i, i < 32 → bt y i = true → bt x i = true := by
  constructor
  · intro h i _ hy
    rw [← h, bt_or, hy, Bool.or_true]
  · intro h
    apply bt_ext (bt_ok_or _ _) hx
    intro i hi
    rw [bt_or]
    cases hb : bt y i
    · rw [Bool.or_false]
    · rw [h i hi hb, Bool.or_true]
theorem bt_eq0 {x : Int} (hx : gi_ok x) : x = 0 ↔ ∀ i, i < 32 → bt x i = false := by
  constructor
  · intro h i _; rw [h, bt_zero]
  · intro h; exact bt_ext hx (by decide) (fun i hi => by rw [h i hi, bt_zero])
theorem bt_and512 {x : Int} : gi_and x 512 = 0 ↔ bt x 9 = false := by
  rw [bt_eq0 (bt_ok_and _ _)]
  constructor
  · intro h
    have := h 9 (by decide)
    rw [bt_and, bt_512] at this
    simpa using this
  · intro h i _
    rw [bt_and, bt_512]
    by_cases h9 : i = 9
    · subst h9; rw [h]; rfl
    · rw [decide_eq_false h9, Bool.and_false]
