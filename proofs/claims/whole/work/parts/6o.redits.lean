/-! ===== the reference finds the fewest edits ===== -/
def opQ (_ : GT) (w : Nat → Nat) : OP := (100, fun x y => if x = y then 0 else 100, eTm w, fun a b => a + b, fun a b => mn a b, fun _ s => s)
section RWE
variable {u : Nat} {n : Nat} {nw : Nat} {L : Nat → Nat → Int} {g : GT} {w : Nat → Nat}
theorem eB_V {v : CV} (hv : ∀ a x y, v a x y ≤ 100) {s x y : Nat} (_ : s < 8 ∨ (16 ≤ s ∧ s < 32)) (h1 : x ≤ y) (h2 : y ≤ 12) : gsv (opQ g w) v s x y ≤ 100 := by
  unfold gsv
  split
  · show eTm w s x y ≤ 100; have := eTm_le (w := w) (s := s) h1 h2; omega
  · exact hv _ _ _
theorem eB_F {f : Nat → Nat} : ∀ c, gfo (opQ g w) f c ≤ 100
  | 0 => Nat.le_refl _
  | c + 1 => Nat.le_trans (mn_le _ _).1 (eB_F c)
theorem eB_D (_ : GR g) {v : CV} (_ : ∀ a x y, v a x y ≤ 100) {p x : Nat} : ∀ (k y : Nat), k ≤ Gl g p → x ≤ y → y ≤ 12 → gD (opQ g w) g v p k x y ≤ 100
  | 0, y, _, _, _ => by
    show (if x = y then 0 else 100) ≤ 100; split <;> omega
  | k + 1, y, _, _, _ => eB_F _
theorem X12_edits (hn : 1000000000000000000000000000000 ≤ n) {J : Nat → Nat → Int} (hs : WSE w nw J) (hsw : SW w nw) {v : CV} {s x y : Nat} (hsr : s < 8 ∨ (16 ≤ s ∧ s < 32)) (hxy : x ≤ y) (hy : y ≤ nw) (hW : ∀ a, a < 16 → J 190 (169 * a + 13 * x + y) = (v a x y : Int)) :
    f_X12_edits n 161 (s : Int) (x : Int) (y : Int) (hp u J L) = some (gsv (opQ g w) v s x y : Int) := by
  have h12 := hsw.1
  unfold gsv
  by_cases c : s < 16
  · rw [if_pos c]
    have e : oT (opQ g w) s x y = if x = y then 1 else if htm w s x (y - x) = true then y - x - 1 else y - x := rfl
    rw [e]
    have key : zLP (y - x) (fun f i (_ : Unit) => l_X12_edits_27 n f 161 (s : Int) (x : Int) (y : Int) (b01 (htm w s x i)) ((x + i : Nat) : Int) (hp u J L)) (fun _ _ => True) (fun res => res = some ((if x = y then 1 else if htm w s x (y - x) = true then y - x - 1 else y - x : Nat) : Int)) := by
      refine zlp ?_ ?_
      · rintro f i _ hi -
        right
        refine ⟨(), ?_, trivial⟩
        have ew : J 175 (x + i) = (w (x + i) : Int) := hs.2 _ (by omega)
        have h9 := hsw.le (x + i)
        have ek : ((x + i : Nat) : Int) + 1 = ((x + (i + 1) : Nat) : Int) := by omega
        have hh : htm w s x (i + 1) = (htm w s x i || decide (w (x + i) = s)) := rfl
        cases c1 : htm w s x i with
        | true =>
          have h2 : htm w s x (i + 1) = true := by rw [hh, c1]; rfl
          rw [h2, b01_t]
          simp (disch := omega) only [l_X12_edits_27, b_X12_edits_27, b_X12_edits_49, b_X12_edits_54, ↓dhi_M, ↓dhG_M_0, ↓dhG_M_1, ↓dhG_M_2, ↓dhG_M_3, ↓dhG_M_4, ↓dhG_M_5, ↓dhG_M_6, ↓dhG_M_7, ↓dhG_M_8, ↓dhg_M_9, ↓dhq_M_9, ↓dhG_M_10, ↓dhG_M_11, ↓dhG_M_12, ↓dhg_M_13, ↓dhq_M_13, ↓dhG_M_14, ↓dhg_M_15, ↓dhq_M_15, ↓dhG_M_16, ↓dhg_M_17, ↓dhq_M_17, ↓dhg_M_18, ↓dhq_M_18, ↓dhG_M_19, ↓dhG_M_20, ↓dhG_M_21, ↓dhG_M_22, ↓dhG_M_23, ↓dhG_M_24, ↓dhg_M_25, ↓dhq_M_25, ↓dhG_M_26, ↓dhG_M_27, ↓dhG_M_28, ↓dhg_M_29, ↓dhq_M_29, ↓dhG_M_30, ↓dhG_M_31, ↓dhg_M_32, ↓dhq_M_32, ↓dhg_M_33, ↓dhq_M_33, ↓dhg_M_34, ↓dhq_M_34, ↓dhg_M_35, ↓dhq_M_35, ↓dhG_M_36, ↓dhG_M_37, ↓dhg_M_38, ↓dhq_M_38, ↓dhg_M_39, ↓dhq_M_39, ↓dhG_M_40, ↓dhG_M_41, ↓dhG_M_42, ↓dhG_M_43, ↓dhg_M_44, ↓dhq_M_44, ↓dha_175, ↓dhs_175, ↓dhl_175, Option.bind_some, ↓nm_eq, ↓sm_inl, ↓sm_inr, ↓dzo_0, ↓dzo_1, ↓drg_ok, ↓if_pos, ↓if_neg, if_pos, if_neg, if_true, if_false, Int.toNat_natCast, rg_ok, ek]
        | false =>
          by_cases c2 : w (x + i) = s
          · have h2 : htm w s x (i + 1) = true := by rw [hh, c1, decide_eq_true c2]; rfl
            rw [h2, b01_t, b01_f]
            simp (disch := omega) only [l_X12_edits_27, b_X12_edits_27, b_X12_edits_49, b_X12_edits_54, ↓dhi_M, ↓dhG_M_0, ↓dhG_M_1, ↓dhG_M_2, ↓dhG_M_3, ↓dhG_M_4, ↓dhG_M_5, ↓dhG_M_6, ↓dhG_M_7, ↓dhG_M_8, ↓dhg_M_9, ↓dhq_M_9, ↓dhG_M_10, ↓dhG_M_11, ↓dhG_M_12, ↓dhg_M_13, ↓dhq_M_13, ↓dhG_M_14, ↓dhg_M_15, ↓dhq_M_15, ↓dhG_M_16, ↓dhg_M_17, ↓dhq_M_17, ↓dhg_M_18, ↓dhq_M_18, ↓dhG_M_19, ↓dhG_M_20, ↓dhG_M_21, ↓dhG_M_22, ↓dhG_M_23, ↓dhG_M_24, ↓dhg_M_25, ↓dhq_M_25, ↓dhG_M_26, ↓dhG_M_27, ↓dhG_M_28, ↓dhg_M_29, ↓dhq_M_29, ↓dhG_M_30, ↓dhG_M_31, ↓dhg_M_32, ↓dhq_M_32, ↓dhg_M_33, ↓dhq_M_33, ↓dhg_M_34, ↓dhq_M_34, ↓dhg_M_35, ↓dhq_M_35, ↓dhG_M_36, ↓dhG_M_37, ↓dhg_M_38, ↓dhq_M_38, ↓dhg_M_39, ↓dhq_M_39, ↓dhG_M_40, ↓dhG_M_41, ↓dhG_M_42, ↓dhG_M_43, ↓dhg_M_44, ↓dhq_M_44, ↓dha_175, ↓dhs_175, ↓dhl_175, Option.bind_some, ↓nm_eq, ↓sm_inl, ↓sm_inr, ↓dzo_0, ↓dzo_1, ↓drg_ok, ↓if_pos, ↓if_neg, if_pos, if_neg, if_true, if_false, Int.toNat_natCast, rg_ok, Int.toNat_natCast, ew, ek]
          · have h2 : htm w s x (i + 1) = false := by rw [hh, c1, decide_eq_false c2]; rfl
            rw [h2, b01_f]
            simp (disch := omega) only [l_X12_edits_27, b_X12_edits_27, b_X12_edits_49, b_X12_edits_54, ↓dhi_M, ↓dhG_M_0, ↓dhG_M_1, ↓dhG_M_2, ↓dhG_M_3, ↓dhG_M_4, ↓dhG_M_5, ↓dhG_M_6, ↓dhG_M_7, ↓dhG_M_8, ↓dhg_M_9, ↓dhq_M_9, ↓dhG_M_10, ↓dhG_M_11, ↓dhG_M_12, ↓dhg_M_13, ↓dhq_M_13, ↓dhG_M_14, ↓dhg_M_15, ↓dhq_M_15, ↓dhG_M_16, ↓dhg_M_17, ↓dhq_M_17, ↓dhg_M_18, ↓dhq_M_18, ↓dhG_M_19, ↓dhG_M_20, ↓dhG_M_21, ↓dhG_M_22, ↓dhG_M_23, ↓dhG_M_24, ↓dhg_M_25, ↓dhq_M_25, ↓dhG_M_26, ↓dhG_M_27, ↓dhG_M_28, ↓dhg_M_29, ↓dhq_M_29, ↓dhG_M_30, ↓dhG_M_31, ↓dhg_M_32, ↓dhq_M_32, ↓dhg_M_33, ↓dhq_M_33, ↓dhg_M_34, ↓dhq_M_34, ↓dhg_M_35, ↓dhq_M_35, ↓dhG_M_36, ↓dhG_M_37, ↓dhg_M_38, ↓dhq_M_38, ↓dhg_M_39, ↓dhq_M_39, ↓dhG_M_40, ↓dhG_M_41, ↓dhG_M_42, ↓dhG_M_43, ↓dhg_M_44, ↓dhq_M_44, ↓dha_175, ↓dhs_175, ↓dhl_175, Option.bind_some, ↓nm_eq, ↓sm_inl, ↓sm_inr, ↓dzo_0, ↓dzo_1, ↓drg_ok, ↓if_pos, ↓if_neg, if_pos, if_neg, if_true, if_false, Int.toNat_natCast, rg_ok, Int.toNat_natCast, ew, ek]
      · rintro f _ -
        have ey : x + (y - x) = y := by omega
        rw [ey]
        by_cases c0 : x = y
        · rw [if_pos c0]
          simp (disch := omega) only [l_X12_edits_27, b_X12_edits_27, b_X12_edits_62, ↓dhi_M, ↓dhG_M_0, ↓dhG_M_1, ↓dhG_M_2, ↓dhG_M_3, ↓dhG_M_4, ↓dhG_M_5, ↓dhG_M_6, ↓dhG_M_7, ↓dhG_M_8, ↓dhg_M_9, ↓dhq_M_9, ↓dhG_M_10, ↓dhG_M_11, ↓dhG_M_12, ↓dhg_M_13, ↓dhq_M_13, ↓dhG_M_14, ↓dhg_M_15, ↓dhq_M_15, ↓dhG_M_16, ↓dhg_M_17, ↓dhq_M_17, ↓dhg_M_18, ↓dhq_M_18, ↓dhG_M_19, ↓dhG_M_20, ↓dhG_M_21, ↓dhG_M_22, ↓dhG_M_23, ↓dhG_M_24, ↓dhg_M_25, ↓dhq_M_25, ↓dhG_M_26, ↓dhG_M_27, ↓dhG_M_28, ↓dhg_M_29, ↓dhq_M_29, ↓dhG_M_30, ↓dhG_M_31, ↓dhg_M_32, ↓dhq_M_32, ↓dhg_M_33, ↓dhq_M_33, ↓dhg_M_34, ↓dhq_M_34, ↓dhg_M_35, ↓dhq_M_35, ↓dhG_M_36, ↓dhG_M_37, ↓dhg_M_38, ↓dhq_M_38, ↓dhg_M_39, ↓dhq_M_39, ↓dhG_M_40, ↓dhG_M_41, ↓dhG_M_42, ↓dhG_M_43, ↓dhg_M_44, ↓dhq_M_44, Option.bind_some, ↓nm_eq, ↓sm_inl, ↓sm_inr, ↓dzo_0, ↓dzo_1, ↓drg_ok, ↓if_pos, ↓if_neg, if_pos, if_neg, if_true, if_false, Int.toNat_natCast, rg_ok] <;> rfl
        · rw [if_neg c0]
          cases c1 : htm w s x (y - x) with
          | true =>
            have e2 : (y : Int) - (x : Int) - 1 = ((y - x - 1 : Nat) : Int) := by omega
            rw [if_pos rfl, b01_t]
            simp (disch := omega) only [l_X12_edits_27, b_X12_edits_27, b_X12_edits_62, b_X12_edits_84, ↓dhi_M, ↓dhG_M_0, ↓dhG_M_1, ↓dhG_M_2, ↓dhG_M_3, ↓dhG_M_4, ↓dhG_M_5, ↓dhG_M_6, ↓dhG_M_7, ↓dhG_M_8, ↓dhg_M_9, ↓dhq_M_9, ↓dhG_M_10, ↓dhG_M_11, ↓dhG_M_12, ↓dhg_M_13, ↓dhq_M_13, ↓dhG_M_14, ↓dhg_M_15, ↓dhq_M_15, ↓dhG_M_16, ↓dhg_M_17, ↓dhq_M_17, ↓dhg_M_18, ↓dhq_M_18, ↓dhG_M_19, ↓dhG_M_20, ↓dhG_M_21, ↓dhG_M_22, ↓dhG_M_23, ↓dhG_M_24, ↓dhg_M_25, ↓dhq_M_25, ↓dhG_M_26, ↓dhG_M_27, ↓dhG_M_28, ↓dhg_M_29, ↓dhq_M_29, ↓dhG_M_30, ↓dhG_M_31, ↓dhg_M_32, ↓dhq_M_32, ↓dhg_M_33, ↓dhq_M_33, ↓dhg_M_34, ↓dhq_M_34, ↓dhg_M_35, ↓dhq_M_35, ↓dhG_M_36, ↓dhG_M_37, ↓dhg_M_38, ↓dhq_M_38, ↓dhg_M_39, ↓dhq_M_39, ↓dhG_M_40, ↓dhG_M_41, ↓dhG_M_42, ↓dhG_M_43, ↓dhg_M_44, ↓dhq_M_44, Option.bind_some, ↓nm_eq, ↓sm_inl, ↓sm_inr, ↓dzo_0, ↓dzo_1, ↓drg_ok, ↓if_pos, ↓if_neg, if_pos, if_neg, if_true, if_false, Int.toNat_natCast, rg_ok, e2]
          | false =>
            have e2 : (y : Int) - (x : Int) - 0 = ((y - x : Nat) : Int) := by omega
            rw [if_neg (by decide), b01_f]
            simp (disch := omega) only [l_X12_edits_27, b_X12_edits_27, b_X12_edits_62, b_X12_edits_84, ↓dhi_M, ↓dhG_M_0, ↓dhG_M_1, ↓dhG_M_2, ↓dhG_M_3, ↓dhG_M_4, ↓dhG_M_5, ↓dhG_M_6, ↓dhG_M_7, ↓dhG_M_8, ↓dhg_M_9, ↓dhq_M_9, ↓dhG_M_10, ↓dhG_M_11, ↓dhG_M_12, ↓dhg_M_13, ↓dhq_M_13, ↓dhG_M_14, ↓dhg_M_15, ↓dhq_M_15, ↓dhG_M_16, ↓dhg_M_17, ↓dhq_M_17, ↓dhg_M_18, ↓dhq_M_18, ↓dhG_M_19, ↓dhG_M_20, ↓dhG_M_21, ↓dhG_M_22, ↓dhG_M_23, ↓dhG_M_24, ↓dhg_M_25, ↓dhq_M_25, ↓dhG_M_26, ↓dhG_M_27, ↓dhG_M_28, ↓dhg_M_29, ↓dhq_M_29, ↓dhG_M_30, ↓dhG_M_31, ↓dhg_M_32, ↓dhq_M_32, ↓dhg_M_33, ↓dhq_M_33, ↓dhg_M_34, ↓dhq_M_34, ↓dhg_M_35, ↓dhq_M_35, ↓dhG_M_36, ↓dhG_M_37, ↓dhg_M_38, ↓dhq_M_38, ↓dhg_M_39, ↓dhq_M_39, ↓dhG_M_40, ↓dhG_M_41, ↓dhG_M_42, ↓dhG_M_43, ↓dhg_M_44, ↓dhq_M_44, Option.bind_some, ↓nm_eq, ↓sm_inl, ↓sm_inr, ↓dzo_0, ↓dzo_1, ↓drg_ok, ↓if_pos, ↓if_neg, if_pos, if_neg, if_true, if_false, Int.toNat_natCast, rg_ok, e2]
    have k0 := key (y - x) n 0 () (by omega) (by omega) trivial
    have k1 : l_X12_edits_27 n n 161 (s : Int) (x : Int) (y : Int) 0 (x : Int) (hp u J L) = _ := k0
    rw [← k1]
    simp (disch := omega) only [f_X12_edits, ↓dhi_M, ↓dhG_M_0, ↓dhG_M_1, ↓dhG_M_2, ↓dhG_M_3, ↓dhG_M_4, ↓dhG_M_5, ↓dhG_M_6, ↓dhG_M_7, ↓dhG_M_8, ↓dhg_M_9, ↓dhq_M_9, ↓dhG_M_10, ↓dhG_M_11, ↓dhG_M_12, ↓dhg_M_13, ↓dhq_M_13, ↓dhG_M_14, ↓dhg_M_15, ↓dhq_M_15, ↓dhG_M_16, ↓dhg_M_17, ↓dhq_M_17, ↓dhg_M_18, ↓dhq_M_18, ↓dhG_M_19, ↓dhG_M_20, ↓dhG_M_21, ↓dhG_M_22, ↓dhG_M_23, ↓dhG_M_24, ↓dhg_M_25, ↓dhq_M_25, ↓dhG_M_26, ↓dhG_M_27, ↓dhG_M_28, ↓dhg_M_29, ↓dhq_M_29, ↓dhG_M_30, ↓dhG_M_31, ↓dhg_M_32, ↓dhq_M_32, ↓dhg_M_33, ↓dhq_M_33, ↓dhg_M_34, ↓dhq_M_34, ↓dhg_M_35, ↓dhq_M_35, ↓dhG_M_36, ↓dhG_M_37, ↓dhg_M_38, ↓dhq_M_38, ↓dhg_M_39, ↓dhq_M_39, ↓dhG_M_40, ↓dhG_M_41, ↓dhG_M_42, ↓dhG_M_43, ↓dhg_M_44, ↓dhq_M_44, Option.bind_some, ↓nm_eq, ↓sm_inl, ↓sm_inr, ↓dzo_0, ↓dzo_1, ↓drg_ok, ↓if_pos, ↓if_neg, if_pos, if_neg, if_true, if_false, Int.toNat_natCast, rg_ok]
  · rw [if_neg c]
    have e16 : (s : Int) - 16 = ((s - 16 : Nat) : Int) := by omega
    have ei : (169 * ((s - 16 : Nat) : Int) + 13 * (x : Int) + (y : Int)).toNat = 169 * (s - 16) + 13 * x + y := by omega
    have ew := hW (s - 16) (by omega)
    simp (disch := omega) only [f_X12_edits, f_X12_at, ↓dhi_M, ↓dhG_M_0, ↓dhG_M_1, ↓dhG_M_2, ↓dhG_M_3, ↓dhG_M_4, ↓dhG_M_5, ↓dhG_M_6, ↓dhG_M_7, ↓dhG_M_8, ↓dhg_M_9, ↓dhq_M_9, ↓dhG_M_10, ↓dhG_M_11, ↓dhG_M_12, ↓dhg_M_13, ↓dhq_M_13, ↓dhG_M_14, ↓dhg_M_15, ↓dhq_M_15, ↓dhG_M_16, ↓dhg_M_17, ↓dhq_M_17, ↓dhg_M_18, ↓dhq_M_18, ↓dhG_M_19, ↓dhG_M_20, ↓dhG_M_21, ↓dhG_M_22, ↓dhG_M_23, ↓dhG_M_24, ↓dhg_M_25, ↓dhq_M_25, ↓dhG_M_26, ↓dhG_M_27, ↓dhG_M_28, ↓dhg_M_29, ↓dhq_M_29, ↓dhG_M_30, ↓dhG_M_31, ↓dhg_M_32, ↓dhq_M_32, ↓dhg_M_33, ↓dhq_M_33, ↓dhg_M_34, ↓dhq_M_34, ↓dhg_M_35, ↓dhq_M_35, ↓dhG_M_36, ↓dhG_M_37, ↓dhg_M_38, ↓dhq_M_38, ↓dhg_M_39, ↓dhq_M_39, ↓dhG_M_40, ↓dhG_M_41, ↓dhG_M_42, ↓dhG_M_43, ↓dhg_M_44, ↓dhq_M_44, ↓dha_190, ↓dhs_190, ↓dhl_190, Option.bind_some, ↓nm_eq, ↓sm_inl, ↓sm_inr, ↓dzo_0, ↓dzo_1, ↓drg_ok, ↓if_pos, ↓if_neg, if_pos, if_neg, if_true, if_false, Int.toNat_natCast, rg_ok, e16, ei, ew]
end RWE
section RD5
variable {u : Nat} {n : Nat} {nw : Nat} {L : Nat → Nat → Int} {g : GT} {w : Nat → Nat}
/-- the rows of the line, one symbol more -/
theorem X12_editsOf_mid (hn : 1000000000000000000000000000000 ≤ n) {J0 : Nat → Nat → Int} (hE : RE g J0) (hs : WSE w nw J0) (hsw : SW w nw) {v : CV} (hv : ∀ a x y, v a x y ≤ 100) {p x y k : Nat} (hk : k < Gl g p) (hxy : x ≤ y) (hy : y ≤ nw)
    (hW : ∀ a, a < 16 → ∀ m m', x ≤ m → m ≤ m' → m' ≤ y → J0 190 (169 * a + 13 * m + m') = (v a m m' : Int)) (hl : ∀ m, x ≤ m → m ≤ y → J0 191 m = (gD (opQ g w) g v p k x m : Int)) (r49 : Nat → Int → Int → Int → Int → gi_H → Option (Int × gi_H)) :
    ∃ J, l_X12_editsOf_71 n r49 n 161 (p : Int) (x : Int) (y : Int) (k : Int) (Gs g p k : Int) (x : Int) (hp u J0 L) = r49 161 (p : Int) (x : Int) (y : Int) ((k + 1 : Nat) : Int) (hp u J L) ∧ Fr [191, 192] J0 J ∧ ∀ m, x ≤ m → m ≤ y → J 191 m = (gD (opQ g w) g v p (k + 1) x m : Int) := by
  have hg := hE.gr
  have h12 := hsw.1
  have hsr := hg.2.2.2.2.2 p k hk
  have h5 := hg.2.2.2.1 p
  have inn : ∀ (r71 : Nat → Int → Int → Int → Int → Int → Int → gi_H → Option (Int × gi_H)) (J1 : Nat → Nat → Int) (j : Nat), x + j ≤ y → Fr [192] J0 J1 → J1 192 (x + j) = (oN (opQ g w) : Int) → zLP (j + 1) (fun f i (J : Nat → Nat → Int) => l_X12_editsOf_89 n r49 r71 f 161 (p : Int) (x : Int) (y : Int) (k : Int) (Gs g p k : Int) ((x + j : Nat) : Int) ((x + i : Nat) : Int) (hp u J L))
      (fun i J => Fr [192] J0 J ∧ (∀ m, m ≠ x + j → J 192 m = J1 192 m) ∧ J 192 (x + j) = (gfo (opQ g w) (fun i => oO (opQ g w) (gD (opQ g w) g v p k x (x + i)) (gsv (opQ g w) v (Gs g p k) (x + i) (x + j))) i : Int))
      (fun res => ∃ J, res = b_X12_editsOf_153 n r49 r71 161 (p : Int) (x : Int) (y : Int) (k : Int) (Gs g p k : Int) ((x + j : Nat) : Int) (hp u J L) ∧ Fr [192] J0 J ∧ (∀ m, m ≠ x + j → J 192 m = J1 192 m) ∧ J 192 (x + j) = (gD (opQ g w) g v p (k + 1) x (x + j) : Int)) := by
    intro r71 J1 j hj f1 h0
    refine zlp ?_ ?_
    · rintro f i J hi ⟨g1, g2, g3⟩
      right
      have e1 : J 191 (x + i) = (gD (opQ g w) g v p k x (x + i) : Int) := by rw [g1 191 (by decide)]; exact hl _ (by omega) (by omega)
      have hEJ : RE g J := hE.fr g1 (by rw [g1 161 (by decide)]) (by decide)
      have hsJ : WSE w nw J := ⟨by rw [g1 161 (by decide)]; exact hs.1, fun i hi => by rw [g1 175 (by decide)]; exact hs.2 i hi⟩
      have ews := X12_edits (u := u) (L := L) hn hsJ hsw (g := g) (v := v) (s := Gs g p k) (x := x + i) (y := x + j) hsr (by omega) (by omega) (fun a ha => by rw [g1 190 (by decide)]; exact hW a ha _ _ (by omega) (by omega) (by omega))
      have b1 := eB_D hg hv (w := w) (p := p) (x := x) k (x + i) (by omega) (by omega) (by omega)
      have b2 := eB_V hv (g := g) (w := w) (s := Gs g p k) (x := x + i) (y := x + j) hsr (by omega) (by omega)
      have b3 := eB_F (g := g) (w := w) (f := fun i => oO (opQ g w) (gD (opQ g w) g v p k x (x + i)) (gsv (opQ g w) v (Gs g p k) (x + i) (x + j))) i
      have ek : ((x + i : Nat) : Int) + 1 = ((x + (i + 1) : Nat) : Int) := by omega
      refine ⟨gx_u J 192 (x + j) (gfo (opQ g w) (fun i => oO (opQ g w) (gD (opQ g w) g v p k x (x + i)) (gsv (opQ g w) v (Gs g p k) (x + i) (x + j))) (i + 1) : Int), ?_, g1.wr (by simp), fun m hm => by rw [gu_at_ne hm]; exact g2 m hm, gu_at_eq rfl⟩
      rw [gfo_s]
      try dsimp only
      generalize gD (opQ g w) g v p k x (x + i) = d1 at *
      generalize gsv (opQ g w) v (Gs g p k) (x + i) (x + j) = d2 at *
      generalize gfo (opQ g w) (fun i => oO (opQ g w) (gD (opQ g w) g v p k x (x + i)) (gsv (opQ g w) v (Gs g p k) (x + i) (x + j))) i = d3 at *
      have es : (d1 : Int) + (d2 : Int) = ((d1 + d2 : Nat) : Int) := rfl
      have eE : oE (opQ g w) d3 (oO (opQ g w) d1 d2) = mn d3 (d1 + d2) := rfl
      rw [eE]
      by_cases c : d1 + d2 < d3
      · have eM : mn d3 (d1 + d2) = d1 + d2 := if_pos c
        rw [eM]
        simp (disch := omega) only [l_X12_editsOf_89, b_X12_editsOf_89, b_X12_editsOf_146, ↓dhi_M, ↓dhG_M_0, ↓dhG_M_1, ↓dhG_M_2, ↓dhG_M_3, ↓dhG_M_4, ↓dhG_M_5, ↓dhG_M_6, ↓dhG_M_7, ↓dhG_M_8, ↓dhg_M_9, ↓dhq_M_9, ↓dhG_M_10, ↓dhG_M_11, ↓dhG_M_12, ↓dhg_M_13, ↓dhq_M_13, ↓dhG_M_14, ↓dhg_M_15, ↓dhq_M_15, ↓dhG_M_16, ↓dhg_M_17, ↓dhq_M_17, ↓dhg_M_18, ↓dhq_M_18, ↓dhG_M_19, ↓dhG_M_20, ↓dhG_M_21, ↓dhG_M_22, ↓dhG_M_23, ↓dhG_M_24, ↓dhg_M_25, ↓dhq_M_25, ↓dhG_M_26, ↓dhG_M_27, ↓dhG_M_28, ↓dhg_M_29, ↓dhq_M_29, ↓dhG_M_30, ↓dhG_M_31, ↓dhg_M_32, ↓dhq_M_32, ↓dhg_M_33, ↓dhq_M_33, ↓dhg_M_34, ↓dhq_M_34, ↓dhg_M_35, ↓dhq_M_35, ↓dhG_M_36, ↓dhG_M_37, ↓dhg_M_38, ↓dhq_M_38, ↓dhg_M_39, ↓dhq_M_39, ↓dhG_M_40, ↓dhG_M_41, ↓dhG_M_42, ↓dhG_M_43, ↓dhg_M_44, ↓dhq_M_44, ↓dha_191, ↓dhs_191, ↓dhl_191, ↓dha_192, ↓dhs_192, ↓dhl_192, Option.bind_some, ↓nm_eq, ↓sm_inl, ↓sm_inr, ↓dzo_0, ↓dzo_1, ↓drg_ok, ↓if_pos, ↓if_neg, if_pos, if_neg, if_true, if_false, Int.toNat_natCast, rg_ok, Int.toNat_natCast, g3, e1, ↓bnd ews, es, ek]
      · have eM : mn d3 (d1 + d2) = d3 := if_neg c
        rw [eM]
        simp (disch := omega) only [l_X12_editsOf_89, b_X12_editsOf_89, b_X12_editsOf_146, ↓dhi_M, ↓dhG_M_0, ↓dhG_M_1, ↓dhG_M_2, ↓dhG_M_3, ↓dhG_M_4, ↓dhG_M_5, ↓dhG_M_6, ↓dhG_M_7, ↓dhG_M_8, ↓dhg_M_9, ↓dhq_M_9, ↓dhG_M_10, ↓dhG_M_11, ↓dhG_M_12, ↓dhg_M_13, ↓dhq_M_13, ↓dhG_M_14, ↓dhg_M_15, ↓dhq_M_15, ↓dhG_M_16, ↓dhg_M_17, ↓dhq_M_17, ↓dhg_M_18, ↓dhq_M_18, ↓dhG_M_19, ↓dhG_M_20, ↓dhG_M_21, ↓dhG_M_22, ↓dhG_M_23, ↓dhG_M_24, ↓dhg_M_25, ↓dhq_M_25, ↓dhG_M_26, ↓dhG_M_27, ↓dhG_M_28, ↓dhg_M_29, ↓dhq_M_29, ↓dhG_M_30, ↓dhG_M_31, ↓dhg_M_32, ↓dhq_M_32, ↓dhg_M_33, ↓dhq_M_33, ↓dhg_M_34, ↓dhq_M_34, ↓dhg_M_35, ↓dhq_M_35, ↓dhG_M_36, ↓dhG_M_37, ↓dhg_M_38, ↓dhq_M_38, ↓dhg_M_39, ↓dhq_M_39, ↓dhG_M_40, ↓dhG_M_41, ↓dhG_M_42, ↓dhG_M_43, ↓dhg_M_44, ↓dhq_M_44, ↓dha_191, ↓dhs_191, ↓dhl_191, ↓dha_192, ↓dhs_192, ↓dhl_192, Option.bind_some, ↓nm_eq, ↓sm_inl, ↓sm_inr, ↓dzo_0, ↓dzo_1, ↓drg_ok, ↓if_pos, ↓if_neg, if_pos, if_neg, if_true, if_false, Int.toNat_natCast, rg_ok, Int.toNat_natCast, g3, e1, ↓bnd ews, es, ek]
    · rintro f J ⟨g1, g2, g3⟩
      refine ⟨J, ?_, g1, g2, ?_⟩
      · simp (disch := omega) only [l_X12_editsOf_89, b_X12_editsOf_89, Option.bind_some, ↓nm_eq, ↓sm_inl, ↓sm_inr, ↓dzo_0, ↓dzo_1, ↓drg_ok, ↓if_pos, ↓if_neg, if_pos, if_neg, if_true, if_false, Int.toNat_natCast, rg_ok]
      · rw [g3, gD_s, show x + j + 1 - x = j + 1 by omega]
  have mid : zLP (y + 1 - x) (fun f j (J : Nat → Nat → Int) => l_X12_editsOf_71 n r49 f 161 (p : Int) (x : Int) (y : Int) (k : Int) (Gs g p k : Int) ((x + j : Nat) : Int) (hp u J L))
      (fun j J => Fr [192] J0 J ∧ ∀ j', j' < j → J 192 (x + j') = (gD (opQ g w) g v p (k + 1) x (x + j') : Int))
      (fun res => ∃ J, res = b_X12_editsOf_159 n r49 161 (p : Int) (x : Int) (y : Int) (k : Int) (hp u J L) ∧ Fr [192] J0 J ∧ ∀ m, x ≤ m → m ≤ y → J 192 m = (gD (opQ g w) g v p (k + 1) x m : Int)) := by
    refine zlp ?_ ?_
    · rintro f j J hj ⟨f1, f2⟩
      right
      have ek : ((x + j : Nat) : Int) + 1 = ((x + (j + 1) : Nat) : Int) := by omega
      obtain ⟨J2, e2, g1, g2, g3⟩ := inn (l_X12_editsOf_71 n r49 f) (gx_u J 192 (x + j) (oN (opQ g w) : Int)) j (by omega) (f1.wr (by simp)) (gu_at_eq rfl) (j + 1) n 0 (gx_u J 192 (x + j) (oN (opQ g w) : Int)) (by omega) (by omega) ⟨f1.wr (by simp), fun _ _ => rfl, gu_at_eq rfl⟩
      refine ⟨J2, ?_, g1, fun j' hj' => ?_⟩
      · have e2' : l_X12_editsOf_89 n r49 (l_X12_editsOf_71 n r49 f) n 161 (p : Int) (x : Int) (y : Int) (k : Int) (Gs g p k : Int) ((x + j : Nat) : Int) (x : Int) (hp u (gx_u J 192 (x + j) (oN (opQ g w) : Int)) L) = b_X12_editsOf_153 n r49 (l_X12_editsOf_71 n r49 f) 161 (p : Int) (x : Int) (y : Int) (k : Int) (Gs g p k : Int) ((x + j : Nat) : Int) (hp u J2 L) := e2
        have e153 : b_X12_editsOf_153 n r49 (l_X12_editsOf_71 n r49 f) 161 (p : Int) (x : Int) (y : Int) (k : Int) (Gs g p k : Int) ((x + j : Nat) : Int) (hp u J2 L) = l_X12_editsOf_71 n r49 f 161 (p : Int) (x : Int) (y : Int) (k : Int) (Gs g p k : Int) ((x + (j + 1) : Nat) : Int) (hp u J2 L) := by
          simp (disch := omega) only [b_X12_editsOf_153, Option.bind_some, ↓nm_eq, ↓sm_inl, ↓sm_inr, ↓dzo_0, ↓dzo_1, ↓drg_ok, ↓if_pos, ↓if_neg, if_pos, if_neg, if_true, if_false, Int.toNat_natCast, rg_ok, ek]
        rw [← e153, ← e2']
        have eoN : (oN (opQ g w) : Int) = 100 := rfl
        rw [eoN]
        simp (disch := omega) only [l_X12_editsOf_71, b_X12_editsOf_71, ↓dhi_M, ↓dhG_M_0, ↓dhG_M_1, ↓dhG_M_2, ↓dhG_M_3, ↓dhG_M_4, ↓dhG_M_5, ↓dhG_M_6, ↓dhG_M_7, ↓dhG_M_8, ↓dhg_M_9, ↓dhq_M_9, ↓dhG_M_10, ↓dhG_M_11, ↓dhG_M_12, ↓dhg_M_13, ↓dhq_M_13, ↓dhG_M_14, ↓dhg_M_15, ↓dhq_M_15, ↓dhG_M_16, ↓dhg_M_17, ↓dhq_M_17, ↓dhg_M_18, ↓dhq_M_18, ↓dhG_M_19, ↓dhG_M_20, ↓dhG_M_21, ↓dhG_M_22, ↓dhG_M_23, ↓dhG_M_24, ↓dhg_M_25, ↓dhq_M_25, ↓dhG_M_26, ↓dhG_M_27, ↓dhG_M_28, ↓dhg_M_29, ↓dhq_M_29, ↓dhG_M_30, ↓dhG_M_31, ↓dhg_M_32, ↓dhq_M_32, ↓dhg_M_33, ↓dhq_M_33, ↓dhg_M_34, ↓dhq_M_34, ↓dhg_M_35, ↓dhq_M_35, ↓dhG_M_36, ↓dhG_M_37, ↓dhg_M_38, ↓dhq_M_38, ↓dhg_M_39, ↓dhq_M_39, ↓dhG_M_40, ↓dhG_M_41, ↓dhG_M_42, ↓dhG_M_43, ↓dhg_M_44, ↓dhq_M_44, ↓dha_192, ↓dhs_192, ↓dhl_192, Option.bind_some, ↓nm_eq, ↓sm_inl, ↓sm_inr, ↓dzo_0, ↓dzo_1, ↓drg_ok, ↓if_pos, ↓if_neg, if_pos, if_neg, if_true, if_false, Int.toNat_natCast, rg_ok, Int.toNat_natCast]
      · by_cases e : j' = j
        · rw [e]; exact g3
        · rw [g2 _ (by omega), gu_at_ne (by omega)]; exact f2 j' (by omega)
    · rintro f J ⟨f1, f2⟩
      refine ⟨J, ?_, f1, fun m h1 h2 => by have := f2 (m - x) (by omega); rwa [show x + (m - x) = m by omega] at this⟩
      simp (disch := omega) only [l_X12_editsOf_71, b_X12_editsOf_71, Option.bind_some, ↓nm_eq, ↓sm_inl, ↓sm_inr, ↓dzo_0, ↓dzo_1, ↓drg_ok, ↓if_pos, ↓if_neg, if_pos, if_neg, if_true, if_false, Int.toNat_natCast, rg_ok]
  obtain ⟨J1, e1, f1, f2⟩ := mid (y + 1 - x) n 0 J0 (by omega) (by omega) ⟨Fr.rf, fun j hj => absurd hj (by omega)⟩
  have cop : zLP (y + 1 - x) (fun f j (J : Nat → Nat → Int) => l_X12_editsOf_162 n r49 f 161 (p : Int) (x : Int) (y : Int) (k : Int) ((x + j : Nat) : Int) (hp u J L))
      (fun j J => Fr [191] J1 J ∧ ∀ j', j' < j → J 191 (x + j') = (gD (opQ g w) g v p (k + 1) x (x + j') : Int))
      (fun res => ∃ J, res = r49 161 (p : Int) (x : Int) (y : Int) ((k + 1 : Nat) : Int) (hp u J L) ∧ Fr [191] J1 J ∧ ∀ m, x ≤ m → m ≤ y → J 191 m = (gD (opQ g w) g v p (k + 1) x m : Int)) := by
    refine zlp ?_ ?_
    · rintro f j J hj ⟨g1, g2⟩
      right
      have ek : ((x + j : Nat) : Int) + 1 = ((x + (j + 1) : Nat) : Int) := by omega
      have e92 : J 192 (x + j) = (gD (opQ g w) g v p (k + 1) x (x + j) : Int) := by rw [g1 192 (by decide)]; exact f2 _ (by omega) (by omega)
      refine ⟨gx_u J 191 (x + j) (gD (opQ g w) g v p (k + 1) x (x + j) : Int), ?_, g1.wr (by simp), fun j' hj' => ?_⟩
      · simp (disch := omega) only [l_X12_editsOf_162, b_X12_editsOf_162, ↓dhi_M, ↓dhG_M_0, ↓dhG_M_1, ↓dhG_M_2, ↓dhG_M_3, ↓dhG_M_4, ↓dhG_M_5, ↓dhG_M_6, ↓dhG_M_7, ↓dhG_M_8, ↓dhg_M_9, ↓dhq_M_9, ↓dhG_M_10, ↓dhG_M_11, ↓dhG_M_12, ↓dhg_M_13, ↓dhq_M_13, ↓dhG_M_14, ↓dhg_M_15, ↓dhq_M_15, ↓dhG_M_16, ↓dhg_M_17, ↓dhq_M_17, ↓dhg_M_18, ↓dhq_M_18, ↓dhG_M_19, ↓dhG_M_20, ↓dhG_M_21, ↓dhG_M_22, ↓dhG_M_23, ↓dhG_M_24, ↓dhg_M_25, ↓dhq_M_25, ↓dhG_M_26, ↓dhG_M_27, ↓dhG_M_28, ↓dhg_M_29, ↓dhq_M_29, ↓dhG_M_30, ↓dhG_M_31, ↓dhg_M_32, ↓dhq_M_32, ↓dhg_M_33, ↓dhq_M_33, ↓dhg_M_34, ↓dhq_M_34, ↓dhg_M_35, ↓dhq_M_35, ↓dhG_M_36, ↓dhG_M_37, ↓dhg_M_38, ↓dhq_M_38, ↓dhg_M_39, ↓dhq_M_39, ↓dhG_M_40, ↓dhG_M_41, ↓dhG_M_42, ↓dhG_M_43, ↓dhg_M_44, ↓dhq_M_44, ↓dha_191, ↓dhs_191, ↓dhl_191, ↓dha_192, ↓dhs_192, ↓dhl_192, Option.bind_some, ↓nm_eq, ↓sm_inl, ↓sm_inr, ↓dzo_0, ↓dzo_1, ↓drg_ok, ↓if_pos, ↓if_neg, if_pos, if_neg, if_true, if_false, Int.toNat_natCast, rg_ok, Int.toNat_natCast, e92, ek]
      · by_cases e : j' = j
        · rw [e, gu_at_eq rfl]
        · rw [gu_at_ne (by omega)]; exact g2 j' (by omega)
    · rintro f J ⟨g1, g2⟩
      have ek : (k : Int) + 1 = ((k + 1 : Nat) : Int) := rfl
      refine ⟨J, ?_, g1, fun m h1 h2 => by have := g2 (m - x) (by omega); rwa [show x + (m - x) = m by omega] at this⟩
      simp (disch := omega) only [l_X12_editsOf_162, b_X12_editsOf_162, b_X12_editsOf_188, Option.bind_some, ↓nm_eq, ↓sm_inl, ↓sm_inr, ↓dzo_0, ↓dzo_1, ↓drg_ok, ↓if_pos, ↓if_neg, if_pos, if_neg, if_true, if_false, Int.toNat_natCast, rg_ok, ek]
  obtain ⟨J2, e2, g1, g2⟩ := cop (y + 1 - x) n 0 J1 (by omega) (by omega) ⟨Fr.rf, fun j hj => absurd hj (by omega)⟩
  refine ⟨J2, ?_, (f1.up (fun a z => by simp at z; simp [z])).tr (g1.up (fun a z => by simp at z; simp [z])), g2⟩
  have e1' : l_X12_editsOf_71 n r49 n 161 (p : Int) (x : Int) (y : Int) (k : Int) (Gs g p k : Int) (x : Int) (hp u J0 L) = b_X12_editsOf_159 n r49 161 (p : Int) (x : Int) (y : Int) (k : Int) (hp u J1 L) := e1
  have e2' : l_X12_editsOf_162 n r49 n 161 (p : Int) (x : Int) (y : Int) (k : Int) (x : Int) (hp u J1 L) = r49 161 (p : Int) (x : Int) (y : Int) ((k + 1 : Nat) : Int) (hp u J2 L) := e2
  rw [e1', ← e2']
  rfl
theorem X12_editsOf_all (hn : 1000000000000000000000000000000 ≤ n) {J0 : Nat → Nat → Int} (hE : RE g J0) (hs : WSE w nw J0) (hsw : SW w nw) {v : CV} (hv : ∀ a x y, v a x y ≤ 100) {p x y : Nat} (hp1 : p < Gn g) (hxy : x ≤ y) (hy : y ≤ nw)
    (hW : ∀ a, a < 16 → ∀ m m', x ≤ m → m ≤ m' → m' ≤ y → J0 190 (169 * a + 13 * m + m') = (v a m m' : Int)) :
    ∃ J, l_X12_editsOf_15 n n 161 (p : Int) (x : Int) (y : Int) (x : Int) (hp u J0 L) = some ((gD (opQ g w) g v p (Gl g p) x y : Int), hp u J L) ∧ Fr [191, 192] J0 J := by
  have hg := hE.gr
  have h12 := hsw.1
  have h5 := hg.2.2.2.1 p
  have h24 := hg.1
  have ini : zLP (y + 1 - x) (fun f j (J : Nat → Nat → Int) => l_X12_editsOf_15 n f 161 (p : Int) (x : Int) (y : Int) ((x + j : Nat) : Int) (hp u J L))
      (fun j J => Fr [191] J0 J ∧ ∀ j', j' < j → J 191 (x + j') = (oB (opQ g w) x (x + j') : Int))
      (fun res => ∃ J, res = b_X12_editsOf_46 n 161 (p : Int) (x : Int) (y : Int) (hp u J L) ∧ Fr [191] J0 J ∧ ∀ m, x ≤ m → m ≤ y → J 191 m = (oB (opQ g w) x m : Int)) := by
    refine zlp ?_ ?_
    · rintro f j J hj ⟨g1, g2⟩
      right
      have ek : ((x + j : Nat) : Int) + 1 = ((x + (j + 1) : Nat) : Int) := by omega
      have eb : oB (opQ g w) x (x + j) = if x = x + j then 0 else 100 := rfl
      refine ⟨gx_u J 191 (x + j) (oB (opQ g w) x (x + j) : Int), ?_, g1.wr (by simp), fun j' hj' => ?_⟩
      · rw [eb]
        by_cases c : x = x + j
        · rw [if_pos c]
          simp (disch := omega) only [l_X12_editsOf_15, b_X12_editsOf_15, b_X12_editsOf_39, ↓dhi_M, ↓dhG_M_0, ↓dhG_M_1, ↓dhG_M_2, ↓dhG_M_3, ↓dhG_M_4, ↓dhG_M_5, ↓dhG_M_6, ↓dhG_M_7, ↓dhG_M_8, ↓dhg_M_9, ↓dhq_M_9, ↓dhG_M_10, ↓dhG_M_11, ↓dhG_M_12, ↓dhg_M_13, ↓dhq_M_13, ↓dhG_M_14, ↓dhg_M_15, ↓dhq_M_15, ↓dhG_M_16, ↓dhg_M_17, ↓dhq_M_17, ↓dhg_M_18, ↓dhq_M_18, ↓dhG_M_19, ↓dhG_M_20, ↓dhG_M_21, ↓dhG_M_22, ↓dhG_M_23, ↓dhG_M_24, ↓dhg_M_25, ↓dhq_M_25, ↓dhG_M_26, ↓dhG_M_27, ↓dhG_M_28, ↓dhg_M_29, ↓dhq_M_29, ↓dhG_M_30, ↓dhG_M_31, ↓dhg_M_32, ↓dhq_M_32, ↓dhg_M_33, ↓dhq_M_33, ↓dhg_M_34, ↓dhq_M_34, ↓dhg_M_35, ↓dhq_M_35, ↓dhG_M_36, ↓dhG_M_37, ↓dhg_M_38, ↓dhq_M_38, ↓dhg_M_39, ↓dhq_M_39, ↓dhG_M_40, ↓dhG_M_41, ↓dhG_M_42, ↓dhG_M_43, ↓dhg_M_44, ↓dhq_M_44, ↓dha_191, ↓dhs_191, ↓dhl_191, Option.bind_some, ↓nm_eq, ↓sm_inl, ↓sm_inr, ↓dzo_0, ↓dzo_1, ↓drg_ok, ↓if_pos, ↓if_neg, if_pos, if_neg, if_true, if_false, Int.toNat_natCast, rg_ok, Int.toNat_natCast, ek] <;> rfl
        · rw [if_neg c]
          simp (disch := omega) only [l_X12_editsOf_15, b_X12_editsOf_15, b_X12_editsOf_39, ↓dhi_M, ↓dhG_M_0, ↓dhG_M_1, ↓dhG_M_2, ↓dhG_M_3, ↓dhG_M_4, ↓dhG_M_5, ↓dhG_M_6, ↓dhG_M_7, ↓dhG_M_8, ↓dhg_M_9, ↓dhq_M_9, ↓dhG_M_10, ↓dhG_M_11, ↓dhG_M_12, ↓dhg_M_13, ↓dhq_M_13, ↓dhG_M_14, ↓dhg_M_15, ↓dhq_M_15, ↓dhG_M_16, ↓dhg_M_17, ↓dhq_M_17, ↓dhg_M_18, ↓dhq_M_18, ↓dhG_M_19, ↓dhG_M_20, ↓dhG_M_21, ↓dhG_M_22, ↓dhG_M_23, ↓dhG_M_24, ↓dhg_M_25, ↓dhq_M_25, ↓dhG_M_26, ↓dhG_M_27, ↓dhG_M_28, ↓dhg_M_29, ↓dhq_M_29, ↓dhG_M_30, ↓dhG_M_31, ↓dhg_M_32, ↓dhq_M_32, ↓dhg_M_33, ↓dhq_M_33, ↓dhg_M_34, ↓dhq_M_34, ↓dhg_M_35, ↓dhq_M_35, ↓dhG_M_36, ↓dhG_M_37, ↓dhg_M_38, ↓dhq_M_38, ↓dhg_M_39, ↓dhq_M_39, ↓dhG_M_40, ↓dhG_M_41, ↓dhG_M_42, ↓dhG_M_43, ↓dhg_M_44, ↓dhq_M_44, ↓dha_191, ↓dhs_191, ↓dhl_191, Option.bind_some, ↓nm_eq, ↓sm_inl, ↓sm_inr, ↓dzo_0, ↓dzo_1, ↓drg_ok, ↓if_pos, ↓if_neg, if_pos, if_neg, if_true, if_false, Int.toNat_natCast, rg_ok, Int.toNat_natCast, ek] <;> rfl
      · by_cases e : j' = j
        · rw [e, gu_at_eq rfl]
        · rw [gu_at_ne (by omega)]; exact g2 j' (by omega)
    · rintro f J ⟨g1, g2⟩
      refine ⟨J, ?_, g1, fun m h1 h2 => by have := g2 (m - x) (by omega); rwa [show x + (m - x) = m by omega] at this⟩
      simp (disch := omega) only [l_X12_editsOf_15, b_X12_editsOf_15, Option.bind_some, ↓nm_eq, ↓sm_inl, ↓sm_inr, ↓dzo_0, ↓dzo_1, ↓drg_ok, ↓if_pos, ↓if_neg, if_pos, if_neg, if_true, if_false, Int.toNat_natCast, rg_ok]
  obtain ⟨J1, e1, f1, f2⟩ := ini (y + 1 - x) n 0 J0 (by omega) (by omega) ⟨Fr.rf, fun j hj => absurd hj (by omega)⟩
  have out : zLP (Gl g p) (fun f k (J : Nat → Nat → Int) => l_X12_editsOf_49 n f 161 (p : Int) (x : Int) (y : Int) (k : Int) (hp u J L))
      (fun k J => Fr [191, 192] J0 J ∧ ∀ m, x ≤ m → m ≤ y → J 191 m = (gD (opQ g w) g v p k x m : Int))
      (fun res => ∃ J, res = some ((gD (opQ g w) g v p (Gl g p) x y : Int), hp u J L) ∧ Fr [191, 192] J0 J) := by
    refine zlp ?_ ?_
    · rintro f k J hk ⟨g1, g2⟩
      right
      have hEJ : RE g J := hE.fr g1 (by rw [g1 161 (by decide)]) (by decide)
      have hsJ : WSE w nw J := ⟨by rw [g1 161 (by decide)]; exact hs.1, fun i hi => by rw [g1 175 (by decide)]; exact hs.2 i hi⟩
      have esz := re_size (u := u) (L := L) hEJ hp1
      have esy := re_symbol (u := u) (L := L) hEJ hk
      obtain ⟨J2, e2, k1, k2⟩ := X12_editsOf_mid (u := u) hn hEJ hsJ hsw hv hk hxy hy (fun a ha m m' q1 q2 q3 => by rw [g1 190 (by decide)]; exact hW a ha m m' q1 q2 q3) g2 (l_X12_editsOf_49 n f)
      refine ⟨J2, ?_, g1.tr k1, k2⟩
      rw [← e2]
      simp (disch := omega) only [l_X12_editsOf_49, b_X12_editsOf_49, ↓dhi_M, ↓dhG_M_0, ↓dhG_M_1, ↓dhG_M_2, ↓dhG_M_3, ↓dhG_M_4, ↓dhG_M_5, ↓dhG_M_6, ↓dhG_M_7, ↓dhG_M_8, ↓dhg_M_9, ↓dhq_M_9, ↓dhG_M_10, ↓dhG_M_11, ↓dhG_M_12, ↓dhg_M_13, ↓dhq_M_13, ↓dhG_M_14, ↓dhg_M_15, ↓dhq_M_15, ↓dhG_M_16, ↓dhg_M_17, ↓dhq_M_17, ↓dhg_M_18, ↓dhq_M_18, ↓dhG_M_19, ↓dhG_M_20, ↓dhG_M_21, ↓dhG_M_22, ↓dhG_M_23, ↓dhG_M_24, ↓dhg_M_25, ↓dhq_M_25, ↓dhG_M_26, ↓dhG_M_27, ↓dhG_M_28, ↓dhg_M_29, ↓dhq_M_29, ↓dhG_M_30, ↓dhG_M_31, ↓dhg_M_32, ↓dhq_M_32, ↓dhg_M_33, ↓dhq_M_33, ↓dhg_M_34, ↓dhq_M_34, ↓dhg_M_35, ↓dhq_M_35, ↓dhG_M_36, ↓dhG_M_37, ↓dhg_M_38, ↓dhq_M_38, ↓dhg_M_39, ↓dhq_M_39, ↓dhG_M_40, ↓dhG_M_41, ↓dhG_M_42, ↓dhG_M_43, ↓dhg_M_44, ↓dhq_M_44, Option.bind_some, ↓nm_eq, ↓sm_inl, ↓sm_inr, ↓dzo_0, ↓dzo_1, ↓drg_ok, ↓if_pos, ↓if_neg, if_pos, if_neg, if_true, if_false, Int.toNat_natCast, rg_ok, ↓bnd esz, ↓bnd esy]
    · rintro f J ⟨g1, g2⟩
      have hEJ : RE g J := hE.fr g1 (by rw [g1 161 (by decide)]) (by decide)
      have esz := re_size (u := u) (L := L) hEJ hp1
      have e91 := g2 y hxy (Nat.le_refl _)
      refine ⟨J, ?_, g1⟩
      simp (disch := omega) only [l_X12_editsOf_49, b_X12_editsOf_49, b_X12_editsOf_194, ↓dhi_M, ↓dhG_M_0, ↓dhG_M_1, ↓dhG_M_2, ↓dhG_M_3, ↓dhG_M_4, ↓dhG_M_5, ↓dhG_M_6, ↓dhG_M_7, ↓dhG_M_8, ↓dhg_M_9, ↓dhq_M_9, ↓dhG_M_10, ↓dhG_M_11, ↓dhG_M_12, ↓dhg_M_13, ↓dhq_M_13, ↓dhG_M_14, ↓dhg_M_15, ↓dhq_M_15, ↓dhG_M_16, ↓dhg_M_17, ↓dhq_M_17, ↓dhg_M_18, ↓dhq_M_18, ↓dhG_M_19, ↓dhG_M_20, ↓dhG_M_21, ↓dhG_M_22, ↓dhG_M_23, ↓dhG_M_24, ↓dhg_M_25, ↓dhq_M_25, ↓dhG_M_26, ↓dhG_M_27, ↓dhG_M_28, ↓dhg_M_29, ↓dhq_M_29, ↓dhG_M_30, ↓dhG_M_31, ↓dhg_M_32, ↓dhq_M_32, ↓dhg_M_33, ↓dhq_M_33, ↓dhg_M_34, ↓dhq_M_34, ↓dhg_M_35, ↓dhq_M_35, ↓dhG_M_36, ↓dhG_M_37, ↓dhg_M_38, ↓dhq_M_38, ↓dhg_M_39, ↓dhq_M_39, ↓dhG_M_40, ↓dhG_M_41, ↓dhG_M_42, ↓dhG_M_43, ↓dhg_M_44, ↓dhq_M_44, ↓dha_191, ↓dhs_191, ↓dhl_191, Option.bind_some, ↓nm_eq, ↓sm_inl, ↓sm_inr, ↓dzo_0, ↓dzo_1, ↓drg_ok, ↓if_pos, ↓if_neg, if_pos, if_neg, if_true, if_false, Int.toNat_natCast, rg_ok, ↓bnd esz, Int.toNat_natCast, e91]
  obtain ⟨J2, e2, g1⟩ := out (Gl g p) n 0 J1 (by omega) (by omega) ⟨f1.up (fun a z => by simp at z; simp [z]), fun m h1 h2 => f2 m h1 h2⟩
  refine ⟨J2, ?_, g1⟩
  have e1' : l_X12_editsOf_15 n n 161 (p : Int) (x : Int) (y : Int) (x : Int) (hp u J0 L) = b_X12_editsOf_46 n 161 (p : Int) (x : Int) (y : Int) (hp u J1 L) := e1
  have e2' : l_X12_editsOf_49 n n 161 (p : Int) (x : Int) (y : Int) 0 (hp u J1 L) = some ((gD (opQ g w) g v p (Gl g p) x y : Int), hp u J2 L) := e2
  rw [e1', ← e2']
  rfl
end RD5
