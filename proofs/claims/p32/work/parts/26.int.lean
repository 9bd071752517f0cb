/-! ===== the abstract heap with whole numbers; partial operations; rules of gx_Z over them ===== -/
abbrev gi_H : Type := Nat × (Nat → Nat × Nat) × (Nat → Nat → Int) × (Nat → Nat → Int) × (Nat → Nat → Option Nat)
def gi_sz (h : gi_H) : Nat := h.1
def gi_S (h : gi_H) : Nat → Nat × Nat := h.2.1
def gi_I (h : gi_H) : Nat → Nat → Int := h.2.2.1
def gi_L (h : gi_H) : Nat → Nat → Int := h.2.2.2.1
def gi_R (h : gi_H) : Nat → Nat → Option Nat := h.2.2.2.2
def gI (x : Int) : Int32 := Int32.ofInt x
def gL (x : Int) : Int64 := Int64.ofInt x
def gi_cv (h : gi_H) : gx_H := (h.1, h.2.1, fun a k => gI (h.2.2.1 a k), fun a k => gL (h.2.2.2.1 a k), h.2.2.2.2)
def gi_wI (h : gi_H) (a k : Nat) (x : Int) : gi_H := (h.1, h.2.1, gx_u h.2.2.1 a k x, h.2.2.2.1, h.2.2.2.2)
def gi_wL (h : gi_H) (a k : Nat) (x : Int) : gi_H := (h.1, h.2.1, h.2.2.1, gx_u h.2.2.2.1 a k x, h.2.2.2.2)
def gi_wR (h : gi_H) (a k : Nat) (x : Option Nat) : gi_H := (h.1, h.2.1, h.2.2.1, h.2.2.2.1, gx_u h.2.2.2.2 a k x)
def gi_nw (h : gi_H) (sh : Nat × Nat) : gi_H := (h.1 + 1, (fun i => if i = h.1 then sh else h.2.1 i), (fun i => if i = h.1 then fun _ => 0 else h.2.2.1 i), (fun i => if i = h.1 then fun _ => 0 else h.2.2.2.1 i), (fun i => if i = h.1 then fun _ => none else h.2.2.2.2 i))
theorem gi_pair {α β : Type} {a c : α} {b d : β} (h1 : a = c) (h2 : b = d) : (a, b) = (c, d) := by rw [h1, h2]
theorem gi_u_map {α β : Type} (g : α → β) (f : Nat → Nat → α) (a k : Nat) (v : α) : (fun i j => g (gx_u f a k v i j)) = gx_u (fun i j => g (f i j)) a k (g v) := by
  funext i j
  simp only [gx_u]
  split <;> (try split) <;> rfl
theorem gi_cv_wI (h : gi_H) (a k : Nat) (x : Int) : gi_cv (gi_wI h a k x) = gx_wI (gi_cv h) a k (gI x) := gi_pair rfl (gi_pair rfl (gi_pair (gi_u_map gI _ a k x) rfl))
theorem gi_cv_wL (h : gi_H) (a k : Nat) (x : Int) : gi_cv (gi_wL h a k x) = gx_wL (gi_cv h) a k (gL x) := gi_pair rfl (gi_pair rfl (gi_pair rfl (gi_pair (gi_u_map gL _ a k x) rfl)))
theorem gi_cv_wR (h : gi_H) (a k : Nat) (x : Option Nat) : gi_cv (gi_wR h a k x) = gx_wR (gi_cv h) a k x := rfl
theorem gi_cv_nw (h : gi_H) (sh : Nat × Nat) : gi_cv (gi_nw h sh) = gx_nw (gi_cv h) sh := by
  refine gi_pair rfl (gi_pair rfl (gi_pair ?_ (gi_pair ?_ rfl)))
  · funext i j
    show gI ((if i = h.1 then fun _ => 0 else h.2.2.1 i) j) = (if i = h.1 then fun _ => 0 else fun k => gI (h.2.2.1 i k)) j
    split <;> rfl
  · funext i j
    show gL ((if i = h.1 then fun _ => 0 else h.2.2.2.1 i) j) = (if i = h.1 then fun _ => 0 else fun k => gL (h.2.2.2.1 i k)) j
    split <;> rfl
abbrev gi_ok (x : Int) : Prop := -2147483648 ≤ x ∧ x ≤ 2147483647
abbrev gi_okL (x : Int) : Prop := -9223372036854775808 ≤ x ∧ x ≤ 9223372036854775807
theorem gI_toInt {x : Int} (h : gi_ok x) : (gI x).toInt = x := Int32.toInt_ofInt_of_le (by omega) (by omega)
theorem gL_toInt {x : Int} (h : gi_okL x) : (gL x).toInt = x := Int64.toInt_ofInt_of_le (by omega) (by omega)
theorem gI_of (x : Int32) : gI x.toInt = x := Int32.ofInt_toInt x
theorem gL_of (x : Int64) : gL x.toInt = x := Int64.ofInt_toInt x
theorem gI_add (x y : Int) : gI x + gI y = gI (x + y) := (Int32.ofInt_add x y).symm
theorem gI_sub (x y : Int) : gI x - gI y = gI (x - y) := (Int32.ofInt_sub x y).symm
theorem gI_mul (x y : Int) : gI x * gI y = gI (x * y) := (Int32.ofInt_mul x y).symm
theorem gI_neg (x : Int) : - gI x = gI (-x) := (Int32.ofInt_neg x).symm
theorem gL_add (x y : Int) : gL x + gL y = gL (x + y) := (Int64.ofInt_add x y).symm
theorem gL_mul (x y : Int) : gL x * gL y = gL (x * y) := (Int64.ofInt_mul x y).symm
theorem gI_lt {x y : Int} (hx : gi_ok x) (hy : gi_ok y) : gI x < gI y ↔ x < y := by rw [Int32.lt_iff_toInt_lt, gI_toInt hx, gI_toInt hy]
theorem gI_le {x y : Int} (hx : gi_ok x) (hy : gi_ok y) : gI x ≤ gI y ↔ x ≤ y := by rw [Int32.le_iff_toInt_le, gI_toInt hx, gI_toInt hy]
theorem gI_eq {x y : Int} (hx : gi_ok x) (hy : gi_ok y) : gI x = gI y ↔ x = y := by rw [← Int32.toInt_inj, gI_toInt hx, gI_toInt hy]
theorem gI_0 : gI 0 = 0 := by decide +kernel
theorem gI_tn {x : Int} (h0 : 0 ≤ x) (h : x ≤ 2147483647) : (gI x).toNatClampNeg = x.toNat := by
  show (gI x).toInt.toNat = x.toNat
  rw [gI_toInt ⟨by omega, h⟩]
def gi_and (x y : Int) : Int := (gI x &&& gI y).toInt
def gi_or (x y : Int) : Int := (gI x ||| gI y).toInt
def gi_shl (x y : Int) : Int := (gI x <<< (gI y &&& 31)).toInt
def gi_shr (x y : Int) : Int := (gI x >>> (gI y &&& 31)).toInt
def gi_andL (x y : Int) : Int := (gL x &&& gL y).toInt
def gi_orL (x y : Int) : Int := (gL x ||| gL y).toInt
def gi_shlL (x y : Int) : Int := (gL x <<< ((gI y).toInt64 &&& 63)).toInt
def gi_shrL (x y : Int) : Int := (gL x >>> ((gI y).toInt64 &&& 63)).toInt
def gi_cmp (x y : Int) : Int := if y < x then 1 else if x = y then 0 else -1
def gi_rg (x : Int) : Option Unit := if -2147483648 ≤ x ∧ x ≤ 2147483647 then some () else none
def gi_rgL (x : Int) : Option Unit := if -9223372036854775808 ≤ x ∧ x ≤ 9223372036854775807 then some () else none
def gi_dg (x y : Int) : Option Unit := if 0 ≤ x ∧ x ≤ 2147483647 ∧ 0 < y ∧ y ≤ 2147483647 then some () else none
def gi_zo (x : Int) : Option Unit := if x = 0 ∨ x = 1 then some () else none
def gi_is (h : gi_H) (b ci : Nat) : Option Unit := if b < gi_sz h ∧ gi_S h b = (0, ci) then some () else none
def gi_mk (h : gi_H) : Option Unit := if gi_sz h < 100000 then some () else none
def gi_gI (h : gi_H) (b ci k : Nat) : Option Int := if b < gi_sz h ∧ gi_S h b = (0, ci) then some (gi_I h b k) else none
def gi_gR (h : gi_H) (b ci k : Nat) : Option Nat := if b < gi_sz h ∧ gi_S h b = (0, ci) then gi_R h b k else none
def gi_pI (h : gi_H) (b ci k : Nat) (x : Int) : Option gi_H := if b < gi_sz h ∧ gi_S h b = (0, ci) then some (gi_wI h b k x) else none
def gi_pZ (h : gi_H) (b ci k : Nat) (x : Int) : Option gi_H := if (b < gi_sz h ∧ gi_S h b = (0, ci)) ∧ (x = 0 ∨ x = 1) then some (gi_wI h b k x) else none
def gi_pR (h : gi_H) (b ci k t : Nat) : Option gi_H := if b < gi_sz h ∧ gi_S h b = (0, ci) then some (gi_wR h b k (some t)) else none
def gi_aI (h : gi_H) (kd a : Nat) (i : Int) : Option Int := if a < gi_sz h ∧ (gi_S h a).1 = kd ∧ 0 ≤ i ∧ i < ((gi_S h a).2 : Nat) ∧ i ≤ 2147483647 then some (gi_I h a i.toNat) else none
def gi_aL (h : gi_H) (a : Nat) (i : Int) : Option Int := if a < gi_sz h ∧ (gi_S h a).1 = 2 ∧ 0 ≤ i ∧ i < ((gi_S h a).2 : Nat) ∧ i ≤ 2147483647 then some (gi_L h a i.toNat) else none
def gi_aR (h : gi_H) (a : Nat) (i : Int) : Option (Option Nat) := if a < gi_sz h ∧ (gi_S h a).1 = 5 ∧ 0 ≤ i ∧ i < ((gi_S h a).2 : Nat) ∧ i ≤ 2147483647 then some (gi_R h a i.toNat) else none
def gi_s1 (h : gi_H) (a : Nat) (i x : Int) : Option gi_H := if a < gi_sz h ∧ (gi_S h a).1 = 1 ∧ 0 ≤ i ∧ i < ((gi_S h a).2 : Nat) ∧ i ≤ 2147483647 then some (gi_wI h a i.toNat x) else none
def gi_s2 (h : gi_H) (a : Nat) (i x : Int) : Option gi_H := if a < gi_sz h ∧ (gi_S h a).1 = 2 ∧ 0 ≤ i ∧ i < ((gi_S h a).2 : Nat) ∧ i ≤ 2147483647 then some (gi_wL h a i.toNat x) else none
def gi_s3 (h : gi_H) (a : Nat) (i x : Int) : Option gi_H := if (a < gi_sz h ∧ (gi_S h a).1 = 3 ∧ 0 ≤ i ∧ i < ((gi_S h a).2 : Nat) ∧ i ≤ 2147483647) ∧ 0 ≤ x ∧ x ≤ 65535 then some (gi_wI h a i.toNat x) else none
def gi_s4 (h : gi_H) (a : Nat) (i x : Int) : Option gi_H := if (a < gi_sz h ∧ (gi_S h a).1 = 4 ∧ 0 ≤ i ∧ i < ((gi_S h a).2 : Nat) ∧ i ≤ 2147483647) ∧ (x = 0 ∨ x = 1) then some (gi_wI h a i.toNat x) else none
def gi_s5 (h : gi_H) (a : Nat) (i : Int) (t : Nat) : Option gi_H := if (a < gi_sz h ∧ (gi_S h a).1 = 5 ∧ 0 ≤ i ∧ i < ((gi_S h a).2 : Nat) ∧ i ≤ 2147483647) ∧ t < gi_sz h ∧ gi_S h t = (0, 7) then some (gi_wR h a i.toNat (some t)) else none
def gi_ln (h : gi_H) (a : Nat) : Option Int := if a < gi_sz h ∧ 1 ≤ (gi_S h a).1 ∧ (gi_S h a).1 ≤ 5 then some ((gi_S h a).2 : Nat) else none
theorem gi_rgS {x : Int} {u : Unit} (e : gi_rg x = some u) : gi_ok x := (gx_if1 e).1
theorem gi_rgLS {x : Int} {u : Unit} (e : gi_rgL x = some u) : gi_okL x := (gx_if1 e).1
theorem gi_isS {h : gi_H} {b ci : Nat} {u : Unit} (e : gi_is h b ci = some u) : b < gx_sz (gi_cv h) ∧ gx_S (gi_cv h) b = (0, ci) := (gx_if1 e).1
theorem gi_zoS {x : Int} {u : Unit} (e : gi_zo x = some u) : gI x = 0 ∨ gI x = 1 := by
  rcases (gx_if1 e).1 with rfl | rfl
  · exact Or.inl (by decide +kernel)
  · exact Or.inr (by decide +kernel)
theorem gi_mkS {h : gi_H} {u : Unit} (e : gi_mk h = some u) : gx_sz (gi_cv h) < 100000 := (gx_if1 e).1
theorem gi_in {i : Int} {n : Nat} (h0 : 0 ≤ i) (h1 : i < (n : Nat)) (h2 : i ≤ 2147483647) : ¬ (gI i < 0 ∨ n ≤ (gI i).toNatClampNeg) := by
  rw [gI_tn h0 h2]
  rintro (z | z)
  · rw [show (0 : Int32) = gI 0 from gI_0.symm, gI_lt ⟨by omega, h2⟩ (by decide)] at z; omega
  · omega
theorem gi_tdiv {x y : Int} (hx : 0 ≤ x) (hx1 : x ≤ 2147483647) (hy : 0 < y) (hy1 : y ≤ 2147483647) : gI x / gI y = gI (x / y) := by
  rw [← Int.tdiv_eq_ediv_of_nonneg hx]
  exact (Int32.ofInt_tdiv (by show (-2147483648 : Int) ≤ x; omega) (by show x ≤ (2147483647 : Int); omega) (by show (-2147483648 : Int) ≤ y; omega) (by show y ≤ (2147483647 : Int); omega)).symm
section INT
variable {M : gx_M} {al af : Bool} {kc ks pc : Nat} {ls : List (Nat × Value)} {st : List Value} {h : gi_H} {o : gx_O} {h1 : gx_H}
theorem gy_iconst {n : Int}  (hd : decode (gx_b M) pc = .ok (.iconst n, 1)) (k : gx_Z M al af kc ks (pc + 1) ls (.int (gI n) :: st) (gi_cv h) o h1) : gx_Z M al af kc ks pc ls st (gi_cv h) o h1 := gx_iconst hd rfl k
theorem gy_bipush {n : Int}  (hd : decode (gx_b M) pc = .ok (.bipush n, 2)) (hv : (Int8.ofInt n).toInt32 = gI n) (k : gx_Z M al af kc ks (pc + 2) ls (.int (gI n) :: st) (gi_cv h) o h1) : gx_Z M al af kc ks pc ls st (gi_cv h) o h1 := gx_bipush hd hv k
theorem gy_sipush {n : Int}  (hd : decode (gx_b M) pc = .ok (.sipush n, 3)) (hv : (Int16.ofInt n).toInt32 = gI n) (k : gx_Z M al af kc ks (pc + 3) ls (.int (gI n) :: st) (gi_cv h) o h1) : gx_Z M al af kc ks pc ls st (gi_cv h) o h1 := gx_sipush hd hv k
theorem gy_lconst {n : Fin 2} {v : Int}  (hd : decode (gx_b M) pc = .ok (.lconst n, 1)) (hv : Int64.ofNat (n : Nat) = gL v) (k : gx_Z M al af kc ks (pc + 1) ls (.long (gL v) :: st) (gi_cv h) o h1) : gx_Z M al af kc ks pc ls st (gi_cv h) o h1 := gx_lconst hd hv k
theorem gy_ldc {i : Nat} {v : Int32} {n : Int}  (hd : decode (gx_b M) pc = .ok (.ldc i, 2)) (hw : Cond.constant (gx_y M).cls i v ∈ gx_tb) (hv : gI n = v) (k : gx_Z M al af kc ks (pc + 2) ls (.int (gI n) :: st) (gi_cv h) o h1) : gx_Z M al af kc ks pc ls st (gi_cv h) o h1 := gx_ldc hd hw (by rw [← hv]; exact k)
theorem gy_ldcw {i : Nat} {v : Int32} {n : Int}  (hd : decode (gx_b M) pc = .ok (.ldc_w i, 3)) (hw : Cond.constant (gx_y M).cls i v ∈ gx_tb) (hv : gI n = v) (k : gx_Z M al af kc ks (pc + 3) ls (.int (gI n) :: st) (gi_cv h) o h1) : gx_Z M al af kc ks pc ls st (gi_cv h) o h1 := gx_ldcw hd hw (by rw [← hv]; exact k)
theorem gy_ldc2 {i : Nat} {v : Int64} {n : Int}  (hd : decode (gx_b M) pc = .ok (.ldc2_w i, 3)) (hw : Cond.constantLong (gx_y M).cls i v ∈ gx_tb) (hv : gL n = v) (k : gx_Z M al af kc ks (pc + 3) ls (.long (gL n) :: st) (gi_cv h) o h1) : gx_Z M al af kc ks pc ls st (gi_cv h) o h1 := gx_ldc2 hd hw (by rw [← hv]; exact k)
theorem gy_iadd {x y : Int}  (hd : decode (gx_b M) pc = .ok (.iadd, 1)) (k : gx_Z M al af kc ks (pc + 1) ls (.int (gI (x + y)) :: st) (gi_cv h) o h1) : gx_Z M al af kc ks pc ls (.int (gI y) :: .int (gI x) :: st) (gi_cv h) o h1 := gx_iadd hd (by rw [gI_add x y]; exact k)
theorem gy_isub {x y : Int}  (hd : decode (gx_b M) pc = .ok (.isub, 1)) (k : gx_Z M al af kc ks (pc + 1) ls (.int (gI (x - y)) :: st) (gi_cv h) o h1) : gx_Z M al af kc ks pc ls (.int (gI y) :: .int (gI x) :: st) (gi_cv h) o h1 := gx_isub hd (by rw [gI_sub x y]; exact k)
theorem gy_imul {x y : Int}  (hd : decode (gx_b M) pc = .ok (.imul, 1)) (k : gx_Z M al af kc ks (pc + 1) ls (.int (gI (x * y)) :: st) (gi_cv h) o h1) : gx_Z M al af kc ks pc ls (.int (gI y) :: .int (gI x) :: st) (gi_cv h) o h1 := gx_imul hd (by rw [gI_mul x y]; exact k)
theorem gy_ineg {x : Int}  (hd : decode (gx_b M) pc = .ok (.ineg, 1)) (k : gx_Z M al af kc ks (pc + 1) ls (.int (gI (-x)) :: st) (gi_cv h) o h1) : gx_Z M al af kc ks pc ls (.int (gI x) :: st) (gi_cv h) o h1 := gx_ineg hd (by rw [gI_neg]; exact k)
theorem gy_iand {x y : Int}  (hd : decode (gx_b M) pc = .ok (.iand, 1)) (k : gx_Z M al af kc ks (pc + 1) ls (.int (gI (gi_and x y)) :: st) (gi_cv h) o h1) : gx_Z M al af kc ks pc ls (.int (gI y) :: .int (gI x) :: st) (gi_cv h) o h1 := gx_iand hd (by rw [gi_and, gI_of] at k; exact k)
theorem gy_ior {x y : Int}  (hd : decode (gx_b M) pc = .ok (.ior, 1)) (k : gx_Z M al af kc ks (pc + 1) ls (.int (gI (gi_or x y)) :: st) (gi_cv h) o h1) : gx_Z M al af kc ks pc ls (.int (gI y) :: .int (gI x) :: st) (gi_cv h) o h1 := gx_ior hd (by rw [gi_or, gI_of] at k; exact k)
theorem gy_ishl {x y : Int}  (hd : decode (gx_b M) pc = .ok (.ishl, 1)) (k : gx_Z M al af kc ks (pc + 1) ls (.int (gI (gi_shl x y)) :: st) (gi_cv h) o h1) : gx_Z M al af kc ks pc ls (.int (gI y) :: .int (gI x) :: st) (gi_cv h) o h1 := gx_ishl hd (by rw [gi_shl, gI_of] at k; exact k)
theorem gy_ishr {x y : Int}  (hd : decode (gx_b M) pc = .ok (.ishr, 1)) (k : gx_Z M al af kc ks (pc + 1) ls (.int (gI (gi_shr x y)) :: st) (gi_cv h) o h1) : gx_Z M al af kc ks pc ls (.int (gI y) :: .int (gI x) :: st) (gi_cv h) o h1 := gx_ishr hd (by rw [gi_shr, gI_of] at k; exact k)
theorem gy_ladd {x y : Int}  (hd : decode (gx_b M) pc = .ok (.ladd, 1)) (k : gx_Z M al af kc ks (pc + 1) ls (.long (gL (x + y)) :: st) (gi_cv h) o h1) : gx_Z M al af kc ks pc ls (.long (gL y) :: .long (gL x) :: st) (gi_cv h) o h1 := gx_ladd hd (by rw [gL_add x y]; exact k)
theorem gy_lmul {x y : Int}  (hd : decode (gx_b M) pc = .ok (.lmul, 1)) (k : gx_Z M al af kc ks (pc + 1) ls (.long (gL (x * y)) :: st) (gi_cv h) o h1) : gx_Z M al af kc ks pc ls (.long (gL y) :: .long (gL x) :: st) (gi_cv h) o h1 := gx_lmul hd (by rw [gL_mul x y]; exact k)
theorem gy_land {x y : Int}  (hd : decode (gx_b M) pc = .ok (.land, 1)) (k : gx_Z M al af kc ks (pc + 1) ls (.long (gL (gi_andL x y)) :: st) (gi_cv h) o h1) : gx_Z M al af kc ks pc ls (.long (gL y) :: .long (gL x) :: st) (gi_cv h) o h1 := gx_land hd (by rw [gi_andL, gL_of] at k; exact k)
theorem gy_lor {x y : Int}  (hd : decode (gx_b M) pc = .ok (.lor, 1)) (k : gx_Z M al af kc ks (pc + 1) ls (.long (gL (gi_orL x y)) :: st) (gi_cv h) o h1) : gx_Z M al af kc ks pc ls (.long (gL y) :: .long (gL x) :: st) (gi_cv h) o h1 := gx_lor hd (by rw [gi_orL, gL_of] at k; exact k)
theorem gy_lshl {x y : Int}  (hd : decode (gx_b M) pc = .ok (.lshl, 1)) (k : gx_Z M al af kc ks (pc + 1) ls (.long (gL (gi_shlL x y)) :: st) (gi_cv h) o h1) : gx_Z M al af kc ks pc ls (.int (gI y) :: .long (gL x) :: st) (gi_cv h) o h1 := gx_lshl hd (by rw [gi_shlL, gL_of] at k; exact k)
theorem gy_lshr {x y : Int}  (hd : decode (gx_b M) pc = .ok (.lshr, 1)) (k : gx_Z M al af kc ks (pc + 1) ls (.long (gL (gi_shrL x y)) :: st) (gi_cv h) o h1) : gx_Z M al af kc ks pc ls (.int (gI y) :: .long (gL x) :: st) (gi_cv h) o h1 := gx_lshr hd (by rw [gi_shrL, gL_of] at k; exact k)
theorem gy_idiv {x y : Int} {u : Unit}  (e : gi_dg x y = some u) (hd : decode (gx_b M) pc = .ok (.idiv, 1)) (k : gx_Z M al af kc ks (pc + 1) ls (.int (gI (x / y)) :: st) (gi_cv h) o h1) : gx_Z M al af kc ks pc ls (.int (gI y) :: .int (gI x) :: st) (gi_cv h) o h1 := by
  obtain ⟨⟨a1, a2, a3, a4⟩, -⟩ := gx_if1 e
  refine gx_idiv hd (fun q => ?_) (by rw [gi_tdiv a1 a2 a3 a4]; exact k)
  rw [show (0 : Int32) = gI 0 from gI_0.symm, gI_eq ⟨by omega, a4⟩ (by decide)] at q; omega
theorem gy_irem {x y : Int} {u : Unit}  (e : gi_dg x y = some u) (hd : decode (gx_b M) pc = .ok (.irem, 1)) (k : gx_Z M al af kc ks (pc + 1) ls (.int (gI (x % y)) :: st) (gi_cv h) o h1) : gx_Z M al af kc ks pc ls (.int (gI y) :: .int (gI x) :: st) (gi_cv h) o h1 := by
  obtain ⟨⟨a1, a2, a3, a4⟩, -⟩ := gx_if1 e
  refine gx_irem hd (fun q => ?_) (by rw [gi_tdiv a1 a2 a3 a4, gI_mul, gI_sub, show x - x / y * y = x % y by rw [Int.emod_def, Int.mul_comm]]; exact k)
  rw [show (0 : Int32) = gI 0 from gI_0.symm, gI_eq ⟨by omega, a4⟩ (by decide)] at q; omega
theorem gy_i2l {x : Int}  (r : gi_ok x) (hd : decode (gx_b M) pc = .ok (.i2l, 1)) (k : gx_Z M al af kc ks (pc + 1) ls (.long (gL x) :: st) (gi_cv h) o h1) : gx_Z M al af kc ks pc ls (.int (gI x) :: st) (gi_cv h) o h1 := gx_i2l hd (by rw [show (gI x).toInt64 = gL x from Int32.toInt64_ofInt (by show (-2147483648 : Int) ≤ x; exact r.1) (by show x ≤ (2147483647 : Int); exact r.2)]; exact k)
theorem gy_l2i {x : Int}  (hd : decode (gx_b M) pc = .ok (.l2i, 1)) (k : gx_Z M al af kc ks (pc + 1) ls (.int (gI x) :: st) (gi_cv h) o h1) : gx_Z M al af kc ks pc ls (.long (gL x) :: st) (gi_cv h) o h1 := gx_l2i hd (by rw [show (gL x).toInt32 = gI x from Int64.toInt32_ofInt]; exact k)
theorem gi_i2c (x : Int) : ((gI x).toUInt32 % 65536).toInt32 = gI (x % 65536) := by
  apply Int32.toBitVec.inj
  apply BitVec.eq_of_toNat_eq
  simp only [gI, UInt32.toBitVec_toInt32, UInt32.toBitVec_mod, Int32.toBitVec_toUInt32, Int32.toBitVec_ofInt, BitVec.toNat_umod, BitVec.toNat_ofInt]
  show (x % 4294967296).toNat % 65536 = ((x % 65536) % 4294967296).toNat
  omega
theorem gy_i2c {x : Int}  (hd : decode (gx_b M) pc = .ok (.i2c, 1)) (k : gx_Z M al af kc ks (pc + 1) ls (.int (gI (x % 65536)) :: st) (gi_cv h) o h1) : gx_Z M al af kc ks pc ls (.int (gI x) :: st) (gi_cv h) o h1 := gx_i2c hd (by rw [gi_i2c]; exact k)
theorem gi_lcmp {x y : Int} (hx : gi_okL x) (hy : gi_okL y) : lg_cmp (gL x) (gL y) = gI (gi_cmp x y) := by
  unfold lg_cmp gi_cmp
  simp only [gt_iff_lt, Int64.lt_iff_toInt_lt, ← Int64.toInt_inj, gL_toInt hx, gL_toInt hy]
  split
  · decide +kernel
  · split <;> decide +kernel
theorem gy_lcmp {x y : Int}  (hx : gi_okL x) (hy : gi_okL y) (hd : decode (gx_b M) pc = .ok (.lcmp, 1)) (k : gx_Z M al af kc ks (pc + 1) ls (.int (gI (gi_cmp x y)) :: st) (gi_cv h) o h1) : gx_Z M al af kc ks pc ls (.long (gL y) :: .long (gL x) :: st) (gi_cv h) o h1 := gx_lcmp hd (by rw [gi_lcmp hx hy]; exact k)
theorem gy_iinc {ls2 : List (Nat × Value)} {i : Nat} {n : Int} {x v : Int} (hd : decode (gx_b M) pc = .ok (.iinc i n, 3)) (k0 : Nat) (hk : ls[k0]? = some (i, .int (gI x))) (hv : x + n = v) (hn : i < gx_n M) (h2 : gx_st ls i (.int (gI v)) = ls2) (k : gx_Z M al af kc ks (pc + 3) ls2 st (gi_cv h) o h1) : gx_Z M al af kc ks pc ls st (gi_cv h) o h1 := gx_iinc (v := gI v) hd k0 hk (by rw [← hv]; exact gI_add x n) hn h2 k
theorem gy_if_eq {x : Int} {off : Int} {tgt : Nat} (hx : gi_ok x) (hd : decode (gx_b M) pc = .ok (.ifCond .eq off, 3)) (ht : (pc : Int) + off = (tgt : Int)) (kt : x = 0 → gx_Z M al af kc ks tgt ls st (gi_cv h) o h1) (kf : ¬ x = 0 → gx_Z M al af kc ks (pc + 3) ls st (gi_cv h) o h1) : gx_Z M al af kc ks pc ls (.int (gI x) :: st) (gi_cv h) o h1 := gx_if_eq hd ht (fun q => kt ((gI_eq hx (show gi_ok 0 by decide)).mp (by rw [gI_0]; exact q))) (fun q => kf (fun z => q (by have := (gI_eq hx (show gi_ok 0 by decide)).mpr z; rw [gI_0] at this; exact this)))
theorem gy_icmp_eq {x y : Int} {off : Int} {tgt : Nat} (hx : gi_ok x) (hy : gi_ok y) (hd : decode (gx_b M) pc = .ok (.if_icmp .eq off, 3)) (ht : (pc : Int) + off = (tgt : Int)) (kt : x = y → gx_Z M al af kc ks tgt ls st (gi_cv h) o h1) (kf : ¬ x = y → gx_Z M al af kc ks (pc + 3) ls st (gi_cv h) o h1) : gx_Z M al af kc ks pc ls (.int (gI y) :: .int (gI x) :: st) (gi_cv h) o h1 := gx_icmp_eq hd ht (fun q => kt ((gI_eq hx hy).mp q)) (fun q => kf (fun z => q ((gI_eq hx hy).mpr z)))
theorem gy_if_ne {x : Int} {off : Int} {tgt : Nat} (hx : gi_ok x) (hd : decode (gx_b M) pc = .ok (.ifCond .ne off, 3)) (ht : (pc : Int) + off = (tgt : Int)) (kt : ¬ x = 0 → gx_Z M al af kc ks tgt ls st (gi_cv h) o h1) (kf : x = 0 → gx_Z M al af kc ks (pc + 3) ls st (gi_cv h) o h1) : gx_Z M al af kc ks pc ls (.int (gI x) :: st) (gi_cv h) o h1 := gx_if_ne hd ht (fun q => kt (fun z => q (by have := (gI_eq hx (show gi_ok 0 by decide)).mpr z; rw [gI_0] at this; exact this))) (fun q => kf ((gI_eq hx (show gi_ok 0 by decide)).mp (by rw [gI_0]; exact q)))
theorem gy_icmp_ne {x y : Int} {off : Int} {tgt : Nat} (hx : gi_ok x) (hy : gi_ok y) (hd : decode (gx_b M) pc = .ok (.if_icmp .ne off, 3)) (ht : (pc : Int) + off = (tgt : Int)) (kt : ¬ x = y → gx_Z M al af kc ks tgt ls st (gi_cv h) o h1) (kf : x = y → gx_Z M al af kc ks (pc + 3) ls st (gi_cv h) o h1) : gx_Z M al af kc ks pc ls (.int (gI y) :: .int (gI x) :: st) (gi_cv h) o h1 := gx_icmp_ne hd ht (fun q => kt (fun z => q ((gI_eq hx hy).mpr z))) (fun q => kf ((gI_eq hx hy).mp q))
theorem gy_if_lt {x : Int} {off : Int} {tgt : Nat} (hx : gi_ok x) (hd : decode (gx_b M) pc = .ok (.ifCond .lt off, 3)) (ht : (pc : Int) + off = (tgt : Int)) (kt : x < 0 → gx_Z M al af kc ks tgt ls st (gi_cv h) o h1) (kf : ¬ x < 0 → gx_Z M al af kc ks (pc + 3) ls st (gi_cv h) o h1) : gx_Z M al af kc ks pc ls (.int (gI x) :: st) (gi_cv h) o h1 := gx_if_lt hd ht (fun q => kt ((gI_lt hx (show gi_ok 0 by decide)).mp (by rw [gI_0]; exact q))) (fun q => kf (fun z => q (by have := (gI_lt hx (show gi_ok 0 by decide)).mpr z; rw [gI_0] at this; exact this)))
theorem gy_icmp_lt {x y : Int} {off : Int} {tgt : Nat} (hx : gi_ok x) (hy : gi_ok y) (hd : decode (gx_b M) pc = .ok (.if_icmp .lt off, 3)) (ht : (pc : Int) + off = (tgt : Int)) (kt : x < y → gx_Z M al af kc ks tgt ls st (gi_cv h) o h1) (kf : ¬ x < y → gx_Z M al af kc ks (pc + 3) ls st (gi_cv h) o h1) : gx_Z M al af kc ks pc ls (.int (gI y) :: .int (gI x) :: st) (gi_cv h) o h1 := gx_icmp_lt hd ht (fun q => kt ((gI_lt hx hy).mp q)) (fun q => kf (fun z => q ((gI_lt hx hy).mpr z)))
theorem gy_if_ge {x : Int} {off : Int} {tgt : Nat} (hx : gi_ok x) (hd : decode (gx_b M) pc = .ok (.ifCond .ge off, 3)) (ht : (pc : Int) + off = (tgt : Int)) (kt : 0 ≤ x → gx_Z M al af kc ks tgt ls st (gi_cv h) o h1) (kf : ¬ 0 ≤ x → gx_Z M al af kc ks (pc + 3) ls st (gi_cv h) o h1) : gx_Z M al af kc ks pc ls (.int (gI x) :: st) (gi_cv h) o h1 := gx_if_ge hd ht (fun q => kt ((gI_le (show gi_ok 0 by decide) hx).mp (by rw [gI_0]; exact q))) (fun q => kf (fun z => q (by have := (gI_le (show gi_ok 0 by decide) hx).mpr z; rw [gI_0] at this; exact this)))
theorem gy_icmp_ge {x y : Int} {off : Int} {tgt : Nat} (hx : gi_ok x) (hy : gi_ok y) (hd : decode (gx_b M) pc = .ok (.if_icmp .ge off, 3)) (ht : (pc : Int) + off = (tgt : Int)) (kt : y ≤ x → gx_Z M al af kc ks tgt ls st (gi_cv h) o h1) (kf : ¬ y ≤ x → gx_Z M al af kc ks (pc + 3) ls st (gi_cv h) o h1) : gx_Z M al af kc ks pc ls (.int (gI y) :: .int (gI x) :: st) (gi_cv h) o h1 := gx_icmp_ge hd ht (fun q => kt ((gI_le hy hx).mp q)) (fun q => kf (fun z => q ((gI_le hy hx).mpr z)))
theorem gy_if_gt {x : Int} {off : Int} {tgt : Nat} (hx : gi_ok x) (hd : decode (gx_b M) pc = .ok (.ifCond .gt off, 3)) (ht : (pc : Int) + off = (tgt : Int)) (kt : 0 < x → gx_Z M al af kc ks tgt ls st (gi_cv h) o h1) (kf : ¬ 0 < x → gx_Z M al af kc ks (pc + 3) ls st (gi_cv h) o h1) : gx_Z M al af kc ks pc ls (.int (gI x) :: st) (gi_cv h) o h1 := gx_if_gt hd ht (fun q => kt ((gI_lt (show gi_ok 0 by decide) hx).mp (by rw [gI_0]; exact q))) (fun q => kf (fun z => q (by have := (gI_lt (show gi_ok 0 by decide) hx).mpr z; rw [gI_0] at this; exact this)))
theorem gy_icmp_gt {x y : Int} {off : Int} {tgt : Nat} (hx : gi_ok x) (hy : gi_ok y) (hd : decode (gx_b M) pc = .ok (.if_icmp .gt off, 3)) (ht : (pc : Int) + off = (tgt : Int)) (kt : y < x → gx_Z M al af kc ks tgt ls st (gi_cv h) o h1) (kf : ¬ y < x → gx_Z M al af kc ks (pc + 3) ls st (gi_cv h) o h1) : gx_Z M al af kc ks pc ls (.int (gI y) :: .int (gI x) :: st) (gi_cv h) o h1 := gx_icmp_gt hd ht (fun q => kt ((gI_lt hy hx).mp q)) (fun q => kf (fun z => q ((gI_lt hy hx).mpr z)))
theorem gy_if_le {x : Int} {off : Int} {tgt : Nat} (hx : gi_ok x) (hd : decode (gx_b M) pc = .ok (.ifCond .le off, 3)) (ht : (pc : Int) + off = (tgt : Int)) (kt : x ≤ 0 → gx_Z M al af kc ks tgt ls st (gi_cv h) o h1) (kf : ¬ x ≤ 0 → gx_Z M al af kc ks (pc + 3) ls st (gi_cv h) o h1) : gx_Z M al af kc ks pc ls (.int (gI x) :: st) (gi_cv h) o h1 := gx_if_le hd ht (fun q => kt ((gI_le hx (show gi_ok 0 by decide)).mp (by rw [gI_0]; exact q))) (fun q => kf (fun z => q (by have := (gI_le hx (show gi_ok 0 by decide)).mpr z; rw [gI_0] at this; exact this)))
theorem gy_icmp_le {x y : Int} {off : Int} {tgt : Nat} (hx : gi_ok x) (hy : gi_ok y) (hd : decode (gx_b M) pc = .ok (.if_icmp .le off, 3)) (ht : (pc : Int) + off = (tgt : Int)) (kt : x ≤ y → gx_Z M al af kc ks tgt ls st (gi_cv h) o h1) (kf : ¬ x ≤ y → gx_Z M al af kc ks (pc + 3) ls st (gi_cv h) o h1) : gx_Z M al af kc ks pc ls (.int (gI y) :: .int (gI x) :: st) (gi_cv h) o h1 := gx_icmp_le hd ht (fun q => kt ((gI_le hx hy).mp q)) (fun q => kf (fun z => q ((gI_le hx hy).mpr z)))
theorem gy_tableIn {dflt lo hi : Int} {offs : Array Int} {len : Nat} {x : Int} {off : Int} {tgt : Nat} (r : gi_ok x) (hd : decode (gx_b M) pc = .ok (.tableswitch dflt lo hi offs, len)) (h1' : ¬ x < lo) (h2 : ¬ hi < x) (ho : offs[(x - lo).toNat]? = some off) (ht : (pc : Int) + off = (tgt : Int)) (k : gx_Z M al af kc ks tgt ls st (gi_cv h) o h1) : gx_Z M al af kc ks pc ls (.int (gI x) :: st) (gi_cv h) o h1 := gx_tableIn hd (by rw [gI_toInt r]; exact h1') (by rw [gI_toInt r]; exact h2) (by rw [gI_toInt r]; exact ho) ht k
theorem gy_tableOut {dflt lo hi : Int} {offs : Array Int} {len : Nat} {x : Int} {tgt : Nat} (r : gi_ok x) (hd : decode (gx_b M) pc = .ok (.tableswitch dflt lo hi offs, len)) (hx : x < lo ∨ hi < x) (ht : (pc : Int) + dflt = (tgt : Int)) (k : gx_Z M al af kc ks tgt ls st (gi_cv h) o h1) : gx_Z M al af kc ks pc ls (.int (gI x) :: st) (gi_cv h) o h1 := gx_tableOut hd (by rw [gI_toInt r]; exact hx) ht k
theorem gy_fI {b ci k idx : Nat} {x : Int} (e : gi_gI h b ci k = some x) (hd : decode (gx_b M) pc = .ok (.getfield idx, 3)) (hw : gx_fl0 (gx_y M).cls idx ci k ∈ gx_tb) (hci : ci < 10) (hkN : k < (gx_c ci).2.2) (hr : gx_isR (gx_ft ci k) = false) (kk : gx_Z M al af kc ks (pc + 3) ls (.int (gI x) :: st) (gi_cv h) o h1) : gx_Z M al af kc ks pc ls (.ref b :: st) (gi_cv h) o h1 := by
  obtain ⟨a, rfl⟩ := gx_if1 e
  exact gx_getI hd hw hci hkN hr a kk
theorem gy_fR {b ci k idx t : Nat} (e : gi_gR h b ci k = some t) (hd : decode (gx_b M) pc = .ok (.getfield idx, 3)) (hw : gx_fl0 (gx_y M).cls idx ci k ∈ gx_tb) (hci : ci < 10) (hkN : k < (gx_c ci).2.2) (hr : gx_isR (gx_ft ci k) = true) (kk : gx_Z M al af kc ks (pc + 3) ls (.ref t :: st) (gi_cv h) o h1) : gx_Z M al af kc ks pc ls (.ref b :: st) (gi_cv h) o h1 := by
  obtain ⟨a, a2⟩ := gx_if2 e
  exact gx_getR hd hw hci hkN hr a a2 kk
theorem gy_qI {b ci k idx : Nat} {x : Int} {h2 : gi_H} (e : gi_pI h b ci k x = some h2) (hd : decode (gx_b M) pc = .ok (.putfield idx, 3)) (hw : gx_fl0 (gx_y M).cls idx ci k ∈ gx_tb) (hci : ci < 10) (hkN : k < (gx_c ci).2.2) (hr : gx_ft ci k = .int) (hfin : gx_fin M ci k) (kk : gx_Z M al af kc ks (pc + 3) ls st (gi_cv h2) o h1) : gx_Z M al af kc ks pc ls (.int (gI x) :: .ref b :: st) (gi_cv h) o h1 := by
  obtain ⟨a, rfl⟩ := gx_if1 e
  rw [gi_cv_wI] at kk
  exact gx_putI hd hw hci hkN (by rw [hr]; rfl) hfin (by rw [hr]; exact ⟨rfl, rfl⟩) a kk
theorem gy_qZ {b ci k idx : Nat} {x : Int} {h2 : gi_H} (e : gi_pZ h b ci k x = some h2) (hd : decode (gx_b M) pc = .ok (.putfield idx, 3)) (hw : gx_fl0 (gx_y M).cls idx ci k ∈ gx_tb) (hci : ci < 10) (hkN : k < (gx_c ci).2.2) (hr : gx_ft ci k = .boolean) (hfin : gx_fin M ci k) (kk : gx_Z M al af kc ks (pc + 3) ls st (gi_cv h2) o h1) : gx_Z M al af kc ks pc ls (.int (gI x) :: .ref b :: st) (gi_cv h) o h1 := by
  obtain ⟨⟨a, a2⟩, rfl⟩ := gx_if1 e
  rw [gi_cv_wI] at kk
  exact gx_putI hd hw hci hkN (by rw [hr]; rfl) hfin (by rw [hr]; rcases a2 with rfl | rfl <;> exact ⟨by decide +kernel, by decide +kernel⟩) a kk
theorem gy_qR {b ci k idx t : Nat} {h2 : gi_H} (e : gi_pR h b ci k t = some h2) (hd : decode (gx_b M) pc = .ok (.putfield idx, 3)) (hw : gx_fl0 (gx_y M).cls idx ci k ∈ gx_tb) (hci : ci < 10) (hkN : k < (gx_c ci).2.2) (hr : gx_isR (gx_ft ci k) = true) (hfin : gx_fin M ci k) (kk : gx_Z M al af kc ks (pc + 3) ls st (gi_cv h2) o h1) : gx_Z M al af kc ks pc ls (.ref t :: .ref b :: st) (gi_cv h) o h1 := by
  obtain ⟨a, rfl⟩ := gx_if1 e
  exact gx_putR hd hw hci hkN hr hfin a kk
theorem gy_l1 {a : Nat} {i x : Int} (e : gi_aI h 1 a i = some x) (hd : decode (gx_b M) pc = .ok (.iaload, 1)) (kk : gx_Z M al af kc ks (pc + 1) ls (.int (gI x) :: st) (gi_cv h) o h1) : gx_Z M al af kc ks pc ls (.int (gI i) :: .ref a :: st) (gi_cv h) o h1 := by
  obtain ⟨⟨a1, a2, a3, a4, a5⟩, rfl⟩ := gx_if1 e
  exact gx_ald1 hd ⟨a1, gx_pr a2⟩ (gi_in a3 a4 a5) (by rw [gI_tn a3 a5]; exact kk)
theorem gy_l3 {a : Nat} {i x : Int} (e : gi_aI h 3 a i = some x) (hd : decode (gx_b M) pc = .ok (.caload, 1)) (kk : gx_Z M al af kc ks (pc + 1) ls (.int (gI x) :: st) (gi_cv h) o h1) : gx_Z M al af kc ks pc ls (.int (gI i) :: .ref a :: st) (gi_cv h) o h1 := by
  obtain ⟨⟨a1, a2, a3, a4, a5⟩, rfl⟩ := gx_if1 e
  exact gx_ald3 hd ⟨a1, gx_pr a2⟩ (gi_in a3 a4 a5) (by rw [gI_tn a3 a5]; exact kk)
theorem gy_l4 {a : Nat} {i x : Int} (e : gi_aI h 4 a i = some x) (hd : decode (gx_b M) pc = .ok (.baload, 1)) (kk : gx_Z M al af kc ks (pc + 1) ls (.int (gI x) :: st) (gi_cv h) o h1) : gx_Z M al af kc ks pc ls (.int (gI i) :: .ref a :: st) (gi_cv h) o h1 := by
  obtain ⟨⟨a1, a2, a3, a4, a5⟩, rfl⟩ := gx_if1 e
  exact gx_ald4 hd ⟨a1, gx_pr a2⟩ (gi_in a3 a4 a5) (by rw [gI_tn a3 a5]; exact kk)
theorem gy_l2 {a : Nat} {i : Int} {x : Int} (e : gi_aL h a i = some x) (hd : decode (gx_b M) pc = .ok (.laload, 1)) (kk : gx_Z M al af kc ks (pc + 1) ls (.long (gL x) :: st) (gi_cv h) o h1) : gx_Z M al af kc ks pc ls (.int (gI i) :: .ref a :: st) (gi_cv h) o h1 := by
  obtain ⟨⟨a1, a2, a3, a4, a5⟩, rfl⟩ := gx_if1 e
  exact gx_ald2 hd ⟨a1, gx_pr a2⟩ (gi_in a3 a4 a5) (by rw [gI_tn a3 a5]; exact kk)
theorem gy_l5 {a : Nat} {i : Int} {x : Option Nat} (e : gi_aR h a i = some x) (hd : decode (gx_b M) pc = .ok (.aaload, 1)) (kk : gx_Z M al af kc ks (pc + 1) ls (va_rf x :: st) (gi_cv h) o h1) : gx_Z M al af kc ks pc ls (.int (gI i) :: .ref a :: st) (gi_cv h) o h1 := by
  obtain ⟨⟨a1, a2, a3, a4, a5⟩, rfl⟩ := gx_if1 e
  exact gx_ald5 hd ⟨a1, gx_pr a2⟩ (gi_in a3 a4 a5) (by rw [gI_tn a3 a5]; exact kk)
theorem gy_t1 {a : Nat} {i x : Int} {h2 : gi_H} (e : gi_s1 h a i x = some h2) (hd : decode (gx_b M) pc = .ok (.iastore, 1)) (kk : gx_Z M al af kc ks (pc + 1) ls st (gi_cv h2) o h1) : gx_Z M al af kc ks pc ls (.int (gI x) :: .int (gI i) :: .ref a :: st) (gi_cv h) o h1 := by
  obtain ⟨⟨a1, a2, a3, a4, a5⟩, rfl⟩ := gx_if1 e
  rw [gi_cv_wI] at kk
  exact gx_ast1 hd ⟨a1, gx_pr a2⟩ (gi_in a3 a4 a5) (by rw [gI_tn a3 a5]; exact kk)
theorem gy_t2 {a : Nat} {i x : Int} {h2 : gi_H} (e : gi_s2 h a i x = some h2) (hd : decode (gx_b M) pc = .ok (.lastore, 1)) (kk : gx_Z M al af kc ks (pc + 1) ls st (gi_cv h2) o h1) : gx_Z M al af kc ks pc ls (.long (gL x) :: .int (gI i) :: .ref a :: st) (gi_cv h) o h1 := by
  obtain ⟨⟨a1, a2, a3, a4, a5⟩, rfl⟩ := gx_if1 e
  rw [gi_cv_wL] at kk
  exact gx_ast2 hd ⟨a1, gx_pr a2⟩ (gi_in a3 a4 a5) (by rw [gI_tn a3 a5]; exact kk)
theorem gi_narC {x : Int} (h0 : 0 ≤ x) (h1 : x ≤ 65535) : vp_nar .char (gI x) = gI x := by
  show ((gI x).toUInt32 % 65536).toInt32 = gI x
  rw [gi_i2c, show x % 65536 = x by omega]
theorem gi_narZ {x : Int} (h : x = 0 ∨ x = 1) : vp_nar .boolean (gI x) = gI x := by
  rcases h with rfl | rfl <;> decide +kernel
theorem gy_t3 {a : Nat} {i x : Int} {h2 : gi_H} (e : gi_s3 h a i x = some h2) (hd : decode (gx_b M) pc = .ok (.castore, 1)) (kk : gx_Z M al af kc ks (pc + 1) ls st (gi_cv h2) o h1) : gx_Z M al af kc ks pc ls (.int (gI x) :: .int (gI i) :: .ref a :: st) (gi_cv h) o h1 := by
  obtain ⟨⟨⟨a1, a2, a3, a4, a5⟩, a6, a7⟩, rfl⟩ := gx_if1 e
  rw [gi_cv_wI] at kk
  exact gx_ast3 hd ⟨a1, gx_pr a2⟩ (gi_in a3 a4 a5) (by rw [gI_tn a3 a5, gi_narC a6 a7]; exact kk)
theorem gy_t4 {a : Nat} {i x : Int} {h2 : gi_H} (e : gi_s4 h a i x = some h2) (hd : decode (gx_b M) pc = .ok (.bastore, 1)) (kk : gx_Z M al af kc ks (pc + 1) ls st (gi_cv h2) o h1) : gx_Z M al af kc ks pc ls (.int (gI x) :: .int (gI i) :: .ref a :: st) (gi_cv h) o h1 := by
  obtain ⟨⟨⟨a1, a2, a3, a4, a5⟩, a6⟩, rfl⟩ := gx_if1 e
  rw [gi_cv_wI] at kk
  exact gx_ast4 hd ⟨a1, gx_pr a2⟩ (gi_in a3 a4 a5) (by rw [gI_tn a3 a5, gi_narZ a6]; exact kk)
theorem gy_t5 {a t : Nat} {i : Int} {h2 : gi_H} (e : gi_s5 h a i t = some h2) (hd : decode (gx_b M) pc = .ok (.aastore, 1)) (kk : gx_Z M al af kc ks (pc + 1) ls st (gi_cv h2) o h1) : gx_Z M al af kc ks pc ls (.ref t :: .int (gI i) :: .ref a :: st) (gi_cv h) o h1 := by
  obtain ⟨⟨⟨a1, a2, a3, a4, a5⟩, a6⟩, rfl⟩ := gx_if1 e
  exact gx_ast5 hd ⟨a1, gx_pr a2⟩ (gi_in a3 a4 a5) a6 (by rw [gI_tn a3 a5]; exact kk)
theorem gy_al0 {a : Nat} {x : Int} (e : gi_ln h a = some x) (hd : decode (gx_b M) pc = .ok (.arraylength, 1)) (kk : gx_Z M al af kc ks (pc + 1) ls (.int (gI x) :: st) (gi_cv h) o h1) : gx_Z M al af kc ks pc ls (.ref a :: st) (gi_cv h) o h1 := by
  obtain ⟨⟨a1, a2⟩, rfl⟩ := gx_if1 e
  refine gx_alen hd a2 ⟨a1, rfl⟩ ?_
  have e2 : nI (h.2.1 a).2 = gI ((gi_S h a).2 : Nat) := Int32.ofInt_eq_ofNat.symm
  rw [e2]
  exact kk
theorem gy_new {ci idx : Nat} {h2 : gi_H} {u : Unit} (e : gi_mk h = some u) (hq : gi_nw h (0, ci) = h2) (hd : decode (gx_b M) pc = .ok (.new idx, 3)) (hci : ci < 10) (hwl : Cond.classLink (gx_y M).cls idx (gx_c ci).1 ∈ gx_tb) (hwi : Cond.instantiable (gx_c ci).1 (gx_c ci).2.2 ∈ gx_tb) (hwn : Cond.initialized (gx_c ci).1 ∈ gx_tb) (hal : al = true) {kc2 ks2 : Nat} (hk : kc + 1 = kc2 ∧ ks + (gx_c ci).2.2 = ks2) (hcs : kc2 ≤ (gx_rm M).cells ∧ ks2 ≤ (gx_rm M).slots) (kk : gx_Z M al af kc2 ks2 (pc + 3) ls (.ref (gi_sz h) :: st) (gi_cv h2) o h1) : gx_Z M al af kc ks pc ls st (gi_cv h) o h1 := by
  obtain ⟨rfl, rfl⟩ := hk
  rw [← hq, gi_cv_nw] at kk
  exact gx_new hd hci hwl hwi hwn hal (gi_mkS e) hcs kk
theorem gy_newa1 {n : Int} {N : Nat} {h2 : gi_H} {u : Unit} (e : gi_mk h = some u) (hq : gi_nw h (1, N) = h2) (hd : decode (gx_b M) pc = .ok (.newarray .int, 2)) (hw : Cond.arrayClass .int ∈ gx_tb) (hn : ¬ gI n < 0) (hN : (gI n).toNatClampNeg = N) (hby : N * componentBytes .int ≤ 536870912) (hal : al = true) {kc2 ks2 : Nat} (hk : kc + 1 = kc2 ∧ ks + N = ks2) (hcs : kc2 ≤ (gx_rm M).cells ∧ ks2 ≤ (gx_rm M).slots) (kk : gx_Z M al af kc2 ks2 (pc + 2) ls (.ref (gi_sz h) :: st) (gi_cv h2) o h1) : gx_Z M al af kc ks pc ls (.int (gI n) :: st) (gi_cv h) o h1 := by
  obtain ⟨rfl, rfl⟩ := hk
  rw [← hq, gi_cv_nw] at kk
  exact gx_newa1 hd hw hn hN hby hal (gi_mkS e) hcs kk
theorem gy_newa2 {n : Int} {N : Nat} {h2 : gi_H} {u : Unit} (e : gi_mk h = some u) (hq : gi_nw h (2, N) = h2) (hd : decode (gx_b M) pc = .ok (.newarray .long, 2)) (hw : Cond.arrayClass .long ∈ gx_tb) (hn : ¬ gI n < 0) (hN : (gI n).toNatClampNeg = N) (hby : N * componentBytes .long ≤ 536870912) (hal : al = true) {kc2 ks2 : Nat} (hk : kc + 1 = kc2 ∧ ks + N = ks2) (hcs : kc2 ≤ (gx_rm M).cells ∧ ks2 ≤ (gx_rm M).slots) (kk : gx_Z M al af kc2 ks2 (pc + 2) ls (.ref (gi_sz h) :: st) (gi_cv h2) o h1) : gx_Z M al af kc ks pc ls (.int (gI n) :: st) (gi_cv h) o h1 := by
  obtain ⟨rfl, rfl⟩ := hk
  rw [← hq, gi_cv_nw] at kk
  exact gx_newa2 hd hw hn hN hby hal (gi_mkS e) hcs kk
theorem gy_newa3 {n : Int} {N : Nat} {h2 : gi_H} {u : Unit} (e : gi_mk h = some u) (hq : gi_nw h (3, N) = h2) (hd : decode (gx_b M) pc = .ok (.newarray .char, 2)) (hw : Cond.arrayClass .char ∈ gx_tb) (hn : ¬ gI n < 0) (hN : (gI n).toNatClampNeg = N) (hby : N * componentBytes .char ≤ 536870912) (hal : al = true) {kc2 ks2 : Nat} (hk : kc + 1 = kc2 ∧ ks + N = ks2) (hcs : kc2 ≤ (gx_rm M).cells ∧ ks2 ≤ (gx_rm M).slots) (kk : gx_Z M al af kc2 ks2 (pc + 2) ls (.ref (gi_sz h) :: st) (gi_cv h2) o h1) : gx_Z M al af kc ks pc ls (.int (gI n) :: st) (gi_cv h) o h1 := by
  obtain ⟨rfl, rfl⟩ := hk
  rw [← hq, gi_cv_nw] at kk
  exact gx_newa3 hd hw hn hN hby hal (gi_mkS e) hcs kk
theorem gy_newa4 {n : Int} {N : Nat} {h2 : gi_H} {u : Unit} (e : gi_mk h = some u) (hq : gi_nw h (4, N) = h2) (hd : decode (gx_b M) pc = .ok (.newarray .boolean, 2)) (hw : Cond.arrayClass .boolean ∈ gx_tb) (hn : ¬ gI n < 0) (hN : (gI n).toNatClampNeg = N) (hby : N * componentBytes .boolean ≤ 536870912) (hal : al = true) {kc2 ks2 : Nat} (hk : kc + 1 = kc2 ∧ ks + N = ks2) (hcs : kc2 ≤ (gx_rm M).cells ∧ ks2 ≤ (gx_rm M).slots) (kk : gx_Z M al af kc2 ks2 (pc + 2) ls (.ref (gi_sz h) :: st) (gi_cv h2) o h1) : gx_Z M al af kc ks pc ls (.int (gI n) :: st) (gi_cv h) o h1 := by
  obtain ⟨rfl, rfl⟩ := hk
  rw [← hq, gi_cv_nw] at kk
  exact gx_newa4 hd hw hn hN hby hal (gi_mkS e) hcs kk
theorem gy_newa5 {n : Int} {N idx : Nat} {h2 : gi_H} {u : Unit} (e : gi_mk h = some u) (hq : gi_nw h (5, N) = h2) (hd : decode (gx_b M) pc = .ok (.anewarray idx, 3)) (hw : Cond.classLink (gx_y M).cls idx RX8 ∈ gx_tb) (hn : ¬ gI n < 0) (hN : (gI n).toNatClampNeg = N) (hby : N * 4 ≤ 536870912) (hal : al = true) {kc2 ks2 : Nat} (hk : kc + 1 = kc2 ∧ ks + N = ks2) (hcs : kc2 ≤ (gx_rm M).cells ∧ ks2 ≤ (gx_rm M).slots) (kk : gx_Z M al af kc2 ks2 (pc + 3) ls (.ref (gi_sz h) :: st) (gi_cv h2) o h1) : gx_Z M al af kc ks pc ls (.int (gI n) :: st) (gi_cv h) o h1 := by
  obtain ⟨rfl, rfl⟩ := hk
  rw [← hq, gi_cv_nw] at kk
  exact gx_newa5 hd hw hn hN hby hal (gi_mkS e) hcs kk
end INT
/-! ===== what follows a call: a value, none, or a throw ===== -/
section AFT
variable {M N : gx_M} {al af : Bool} {kc ks kc2 ks2 pc : Nat} {ls : List (Nat × Value)} {st : List Value} {h' : gx_H} {o : gx_O} {h1 : gx_H}
theorem gy_k0 (hk : kc + (gx_rm N).cells = kc2 ∧ ks + (gx_rm N).slots = ks2) (k : gx_Z M al af kc2 ks2 (pc + 3) ls st h' o h1) : ∀ v, (.inl none : gx_O) = .inl v → gx_Z M al af (kc + (gx_rm N).cells) (ks + (gx_rm N).slots) (pc + 3) ls (v.toList ++ st) h' o h1 := fun v hv => by
  cases hv; rw [hk.1, hk.2]; exact k
theorem gy_k1 {x : Value} (hk : kc + (gx_rm N).cells = kc2 ∧ ks + (gx_rm N).slots = ks2) (k : gx_Z M al af kc2 ks2 (pc + 3) ls (x :: st) h' o h1) : ∀ v, (.inl (some x) : gx_O) = .inl v → gx_Z M al af (kc + (gx_rm N).cells) (ks + (gx_rm N).slots) (pc + 3) ls (v.toList ++ st) h' o h1 := fun v hv => by
  cases hv; rw [hk.1, hk.2]; exact k
theorem gy_kn {v : Option Value} : ∀ E, (.inl v : gx_O) = .inr E → gx_ZX M al af (kc + (gx_rm N).cells) (ks + (gx_rm N).slots) pc ls st E h' o h1 := fun E hE => by cases hE
theorem gy_kE {E0 : String} (hk : kc + (gx_rm N).cells = kc2 ∧ ks + (gx_rm N).slots = ks2) (k : gx_ZX M al af kc2 ks2 pc ls st E0 h' o h1) : ∀ E, (.inr E0 : gx_O) = .inr E → gx_ZX M al af (kc + (gx_rm N).cells) (ks + (gx_rm N).slots) pc ls st E h' o h1 := fun E hE => by
  cases hE; rw [hk.1, hk.2]; exact k
theorem gy_kN {E0 : String} : ∀ v, (.inr E0 : gx_O) = .inl v → gx_Z M al af (kc + (gx_rm N).cells) (ks + (gx_rm N).slots) (pc + 3) ls (v.toList ++ st) h' o h1 := fun v hv => by cases hv
/-- outcomes of methods that may throw -/
def gx_oI (r : Int ⊕ String) : gx_O := match r with | .inl x => .inl (some (.int (gI x))) | .inr E => .inr E
def gx_oJ (r : Int ⊕ String) : gx_O := match r with | .inl x => .inl (some (.long (gL x))) | .inr E => .inr E
def gx_oN (r : Nat ⊕ String) : gx_O := match r with | .inl x => .inl (some (.ref x)) | .inr E => .inr E
def gx_oV (r : Unit ⊕ String) : gx_O := match r with | .inl _ => .inl none | .inr E => .inr E
/-- goes on with what was returned, or with what was thrown -/
def gx_sm {α β : Type} (r : α ⊕ String) (f : α → Option β) (g : String → Option β) : Option β := match r with | .inl x => f x | .inr E => g E
theorem gx_smE {α β : Type} {r : α ⊕ String} {f : α → Option β} {g : String → Option β} {b : β} {P : Prop} (e : gx_sm r f g = some b) (kf : ∀ x, r = .inl x → f x = some b → P) (kg : ∀ E, r = .inr E → g E = some b → P) : P := by
  cases r with
  | inl x => exact kf x rfl e
  | inr E => exact kg E rfl e
end AFT
/-! ===== the law: its script, calls of its own methods that catch ===== -/
section LAW
variable {M : gx_M} {al af : Bool} {kc ks pc : Nat} {ls : List (Nat × Value)} {st : List Value} {h : gx_H} {o : gx_O} {h1 : gx_H}
def gi_sx (L : Nat) (xs : Nat → Int) (i : Int) : Option Int := if 0 ≤ i ∧ i < (L : Nat) ∧ i ≤ 2147483647 then some (xs i.toNat) else none
def gi_scr (L : Nat) (xs : Nat → Int) : Option (Nat × (Nat → Int32)) := some (L, fun j => gI (xs j))
theorem gy_notA {M : gx_M} {adr : Nat → Nat} {s : State} {sz0 : Nat} (hS : gx_Sc M adr s) {q : Nat × (Nat → Int32)} (hq : gx_sc M = some q) : ¬ gx_A adr (gx_s0 M sz0) s.heap.size (adr 100000) := by
  have e0 : gx_s0 M sz0 ≤ 100000 := by
    unfold gx_s0
    rw [hq]
    show (if gx_lw M = true then 0 else if sz0 ≤ 100000 then sz0 else 0) ≤ 100000
    split
    · omega
    · split <;> omega
  rintro (⟨i, hi, z⟩ | z)
  · exact (hS q hq).2.2 i (by omega) z.symm
  · have := (hS q hq).2.1; omega
theorem gy_slen {L : Nat} {xs : Nat → Int} (hs : gx_sc M = gi_scr L xs) (hd : decode (gx_b M) pc = .ok (.arraylength, 1)) (kk : gx_Z M al af kc ks (pc + 1) ls (.int (gI (L : Nat)) :: st) h o h1) : gx_Z M al af kc ks pc ls (.ref 100000 :: st) h o h1 := by
  intro p l e s m args below meth c H locs la D adr K sz0 C hl hR
  have hS := C.2.2.2.2.2.2.2.1.2
  have hX := hS _ hs
  refine va_slen C.1 C.2.1 hX.1 hX.2.1 (gy_notA hS hs) hR.2.2.2.1 hd ?_
  have k2 := kk p l e s m args below meth c H locs la D adr K sz0 C hl hR
  rw [List.map_cons, show gx_cv adr (.int (gI (L : Nat))) = .int (Int32.ofNat L) by show Value.int (Int32.ofInt (L : Nat)) = _; rw [Int32.ofInt_eq_ofNat]] at k2
  exact k2
theorem gy_sld {L : Nat} {xs : Nat → Int} {i x : Int} (hs : gx_sc M = gi_scr L xs) (e : gi_sx L xs i = some x) (hd : decode (gx_b M) pc = .ok (.iaload, 1)) (kk : gx_Z M al af kc ks (pc + 1) ls (.int (gI x) :: st) h o h1) : gx_Z M al af kc ks pc ls (.int (gI i) :: .ref 100000 :: st) h o h1 := by
  intro p l e9 s m args below meth c H locs la D adr K sz0 C hl hR
  have hS := C.2.2.2.2.2.2.2.1.2
  have hX := hS _ hs
  obtain ⟨⟨a1, a2, a3⟩, rfl⟩ := gx_if1 e
  refine va_sld C.1 C.2.1 hX.1 hX.2.1 (gy_notA hS hs) hR.2.2.2.1 (gi_in a1 a2 a3) hd ?_
  have k2 := kk p l e9 s m args below meth c H locs la D adr K sz0 C hl hR
  rw [gI_tn a1 a3]
  exact k2
/-- a static callee that catches, and doesn't throw -/
def gx_ciW (M N : gx_M) (n : Nat) : Prop := gx_hh N ≠ [] ∧ gx_cw N ∈ gx_tb ∧ Cond.initialized (gx_y N).cls ∈ gx_tb ∧ ((gx_y N).cls ≠ "java/lang/invoke/MethodHandle" ∧ (gx_y N).cls ≠ "java/lang/invoke/VarHandle" ∧ (parseMethodDescriptor (gx_y N).desc).map (fun d => d.parameters.length) = some n) ∧ ((gx_rm N).frames + 1 ≤ (gx_rm M).frames ∧ 8 + (gx_n N + 11) + (gx_rm N).locals ≤ (gx_rm M).locals)
theorem gx_callSW {N : gx_M} {h' : gx_H} {v0 : Option Value} {As : List Value} {idx n : Nat} (hd : decode (gx_b M) pc = .ok (.invokestatic idx, 3)) (hcw : gx_Cw N al As h (.inl v0) h') (hn : As.length = n) (hi : gx_ciW M N n) (hw1 : Cond.methodLink (gx_y M).cls idx (gx_y N) ∈ gx_tb) (hw2 : Cond.static (gx_y N) ∈ gx_tb) (hcs : kc + (gx_rm N).cells ≤ (gx_rm M).cells ∧ ks + (gx_rm N).slots ≤ (gx_rm M).slots) (hst : (st.map fun v => v.category).sum ≤ 8) (kr : ∀ v, (.inl v0 : gx_O) = .inl v → gx_Z M al af (kc + (gx_rm N).cells) (ks + (gx_rm N).slots) (pc + 3) ls (v.toList ++ st) h' o h1) : gx_Z M al af kc ks pc ls (As.reverse ++ st) h o h1 := by
  intro p l e s m args below meth c H locs la D adr K sz0 C hl hR
  obtain ⟨hh, hcN, hiN, hdN, hrN⟩ := hi
  have wd : ∀ w, w ∈ gx_tb → w.before args s = true := fun w hw => C.2.2.2.2.1 w (List.mem_cons_of_mem _ hw)
  have hbl : FrameBlind (va_Pc (As.map (gx_cv adr)) (fun U => U.heap.size = H.size ∧ gx_Pr D adr K al h U)) := gx_blind
  have hpre := gx_pre hR As
  refine gx_aft kr gy_kn C hl hR (a := (As.map (gx_cv adr)).toArray) ?_
  have hst2 : 2 * (F0 m pc la ((As.reverse ++ st).map (gx_cv adr))).monitorRoom + ((st.map (gx_cv adr)).map fun v => v.category).sum ≤ 8 := by rw [gx_cats]; show 2 * 0 + _ ≤ 8; omega
  have hstk : (As.reverse ++ st).map (gx_cv adr) = (As.map (gx_cv adr)).reverse ++ st.map (gx_cv adr) := by simp [List.map_append, List.map_reverse, gx_cv]
  have hM : Met l (gx_y N) (gx_cw N :: gx_tb) (gx_rm N) (va_Pc (As.map (gx_cv adr)) (fun U => U.heap.size = H.size ∧ gx_Pr D adr K al h U)) (gx_Qc D adr K al (gx_sz h) (.inl v0) h') (gx_rm N).cells (gx_rm N).slots (gx_A adr (gx_sz h) H.size) :=
    MetFree.mono (hcw l D adr K H.size C.2.2.2.2.2.2.2.2.2) (fun _ _ q => q) (fun _ _ _ _ _ q => q) (fun a st oc t _ q => by
      rcases q with q | ⟨q, -, E, ce, L, hX, -⟩
      · exact q
      · cases hX.1)
  exact fun T hT X => Or.inl (vx_runSW (As := As.map (gx_cv adr)) (rest := st.map (gx_cv adr)) (g := F0 m pc la ((As.reverse ++ st).map (gx_cv adr))) (hh := gx_hh N) ⟨C.1, C.2.1, C.2.2.1, C.2.2.2.1, C.2.2.2.2.1⟩ hM (vx_cwSW (ws := gx_cw N :: gx_tb) (ws' := gx_tb) (bytes := gx_b N) (maxL := gx_n N) (ret := gx_r N) (hh := gx_hh N) n C.2.2.2.2.1 (goodIn_app (gx_goodIn (List.forall_mem_cons.mpr ⟨hw1, List.forall_mem_cons.mpr ⟨hw2, List.forall_mem_cons.mpr ⟨hiN, fun _ h => absurd h List.not_mem_nil⟩⟩⟩)) (gx_gd hcN)) (by rw [gx_cw, if_neg hh]) rfl rfl hdN hrN) ⟨hbl, hpre⟩ rfl (by rw [List.length_map]; exact hn) hl.1 hstk hst2 hd hcs T hT X)
theorem gx_blindS {D : va_G} {adr : Nat → Nat} {K : Nat → ClassId} {al : Bool} {h : gx_H} {as : List Value} {n : Nat} {N : gx_M} : FrameBlind (va_Pc as (fun U => (U.heap.size = n ∧ gx_Pr D adr K al h U) ∧ gx_Sc N adr U)) := by
  intro a U g mk q
  obtain ⟨q0, ⟨q1, qP, qK, qD, qT, qX, qY, qV⟩, qS⟩ := q
  exact ⟨q0, ⟨q1, qP, va_K.moved (u := U) (U := U.calling g mk a) (Vm.Alike.refl U.vm) qK, qD, qT, vx_Zq.moved (u := U) (U := U.calling g mk a) (Vm.Alike.refl U.vm) qX, vx_Zq.moved (u := U) (U := U.calling g mk a) (Vm.Alike.refl U.vm) qY, gx_V.warm (s := U) (U := U.calling g mk a) (State.WarmedH.refl U) qV⟩, fun r hr => ⟨va_X.moved (u := U) (U := U.calling g mk a) (Vm.Alike.refl U.vm) (qS r hr).1, (qS r hr).2.1, (qS r hr).2.2⟩⟩
/-- a static callee that is given the script -/
theorem gx_callSS {N : gx_M} {h' : gx_H} {ov : gx_O} {As : List Value} {idx n : Nat} {q : Nat × (Nat → Int32)} (hsM : gx_sc M = some q) (hsN : gx_sc N = some q) (hsz : gx_sz h ≤ 100000) (hd : decode (gx_b M) pc = .ok (.invokestatic idx, 3)) (hcw0 : gx_CwS N al As h ov h') (hn : As.length = n) (hi : gx_ci M N n) (hw1 : Cond.methodLink (gx_y M).cls idx (gx_y N) ∈ gx_tb) (hw2 : Cond.static (gx_y N) ∈ gx_tb) (hcs : kc + (gx_rm N).cells ≤ (gx_rm M).cells ∧ ks + (gx_rm N).slots ≤ (gx_rm M).slots) (hst : (st.map fun v => v.category).sum ≤ 8) (kr : ∀ v, ov = .inl v → gx_Z M al af (kc + (gx_rm N).cells) (ks + (gx_rm N).slots) (pc + 3) ls (v.toList ++ st) h' o h1) (kx : ∀ E, ov = .inr E → gx_ZX M al af (kc + (gx_rm N).cells) (ks + (gx_rm N).slots) pc ls st E h' o h1) : gx_Z M al af kc ks pc ls (As.reverse ++ st) h o h1 := by
  intro p l e s m args below meth c H locs la D adr K sz0 C hl hR
  have hcw := hcw0 hsz
  obtain ⟨hh, hcN, hiN, hdN, hrN⟩ := hi
  have wd : ∀ w, w ∈ gx_tb → w.before args s = true := fun w hw => C.2.2.2.2.1 w (List.mem_cons_of_mem _ hw)
  have hbl : FrameBlind (va_Pc (As.map (gx_cv adr)) (fun U => (U.heap.size = H.size ∧ gx_Pr D adr K al h U) ∧ gx_Sc N adr U)) := gx_blindS
  have hS := C.2.2.2.2.2.2.2.1.2
  have hnA := gy_notA (sz0 := sz0) hS hsM
  have hpre : ∀ U : State, U.heap = H → s.WarmedH U.vm → va_Pc (As.map (gx_cv adr)) (fun U => (U.heap.size = H.size ∧ gx_Pr D adr K al h U) ∧ gx_Sc N adr U) (As.map (gx_cv adr)).toArray U := by
    intro U hU hW
    obtain ⟨e1, e2⟩ := gx_pre hR As U hU hW
    refine ⟨e1, e2, fun r hr => ?_⟩
    rw [hsN] at hr
    cases hr
    obtain ⟨x1, x2, x3⟩ := hS q hsM
    refine ⟨?_, ?_, x3⟩
    · rw [hU]
      exact va_X.moved hW.alike (x1.kept (hR.2.2.2.1.2.1 _ x2 hnA))
    · rw [hU]
      exact Nat.lt_of_lt_of_le x2 hR.2.2.2.1.1
  refine gx_aft kr kx C hl hR (a := (As.map (gx_cv adr)).toArray) ?_
  have hst2 : 2 * (F0 m pc la ((As.reverse ++ st).map (gx_cv adr))).monitorRoom + ((st.map (gx_cv adr)).map fun v => v.category).sum ≤ 8 := by rw [gx_cats]; show 2 * 0 + _ ≤ 8; omega
  have hstk : (As.reverse ++ st).map (gx_cv adr) = (As.map (gx_cv adr)).reverse ++ st.map (gx_cv adr) := by simp [List.map_append, List.map_reverse, gx_cv]
  exact vx_runS (As := As.map (gx_cv adr)) (rest := st.map (gx_cv adr)) (g := F0 m pc la ((As.reverse ++ st).map (gx_cv adr))) ⟨C.1, C.2.1, C.2.2.1, C.2.2.2.1, C.2.2.2.2.1⟩ (hcw l D adr K H.size C.2.2.2.2.2.2.2.2.2) (va_cwS (ws := gx_cw N :: gx_tb) (ws' := gx_tb) (bytes := gx_b N) (ret := gx_r N) n C.2.2.2.2.1 (goodIn_app (gx_goodIn (List.forall_mem_cons.mpr ⟨hw1, List.forall_mem_cons.mpr ⟨hw2, List.forall_mem_cons.mpr ⟨hiN, fun _ h => absurd h List.not_mem_nil⟩⟩⟩)) (gx_gd hcN)) (gx_cwe hh) rfl rfl hdN hrN) ⟨hbl, hpre⟩ rfl (by rw [List.length_map]; exact hn) hl.1 hstk hst2 hd hcs
end LAW
