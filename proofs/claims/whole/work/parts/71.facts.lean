/-! ===== calls: what is found ===== -/
def IX (u : Nat) (J L : Nat → Nat → Int) : Prop := ∃ ps rs ps1 rs1 t lv sd w nw tp tq, IV u ps rs ps1 rs1 t lv sd w nw tp tq J L
/-- a call of the class and of the reference that may throw -/
def OPK (fL fM : gi_H → Option (Int × gi_H)) : Prop := ∀ u J L, IX u J L → ∃ (k : Int) (u1 : Nat) (J1 L1 : Nat → Nat → Int) (B : Int) (J2 L2 : Nat → Nat → Int), fL (hp u J L) = some (k, hp u1 J1 L1) ∧ fM (hp u1 J1 L1) = some (B, hp u1 J2 L2) ∧ J2 161 44 = k ∧ (k = 0 ∨ k = 1 ∨ k = 2) ∧ gi_ok B ∧ (k = 0 → L2 193 0 = B) ∧ IX u1 J2 L2
theorem xI1 : (gx_IOB = gx_IOB) = True := eq_self _
theorem xI2 : (gx_IAE = gx_IAE) = True := eq_self _
theorem xI3 : (gx_ISE = gx_ISE) = True := eq_self _
theorem xI4 : (gx_ISE = gx_IAE) = False := by simp [gx_ISE, gx_IAE]
theorem xI5 : (gx_IAE = gx_IOB) = False := by simp [gx_IAE, gx_IOB]
theorem xI6 : (gx_ISE = gx_IOB) = False := by simp [gx_ISE, gx_IOB]
section CLS
variable {u : Nat} {n : Nat} {J L : Nat → Nat → Int} {g : GT}
theorem isB_1 {x m : Int} (h : 0 ≤ x ∧ x < m) (hm : m ≤ 1000) (hh : gi_H) : f_X12_isBelow x m hh = some 1 := by
  simp (disch := omega) only [f_X12_isBelow, Option.bind_some, ↓nm_eq, ↓sm_inl, ↓sm_inr, ↓dzo_0, ↓dzo_1, ↓drg_ok, ↓if_pos, ↓if_neg, if_pos, if_neg, if_true, if_false, Int.toNat_natCast, rg_ok]
theorem isB_0 {x m : Int} (h : x < 0 ∨ m ≤ x) (hx : gi_ok x) (hm : -1000 ≤ m ∧ m ≤ 1000) (hh : gi_H) : f_X12_isBelow x m hh = some 0 := by
  obtain ⟨h1, h2⟩ := hx
  by_cases c : x < 0
  · simp (disch := omega) only [f_X12_isBelow, b_X12_isBelow_13, Option.bind_some, ↓nm_eq, ↓sm_inl, ↓sm_inr, ↓dzo_0, ↓dzo_1, ↓drg_ok, ↓if_pos, ↓if_neg, if_pos, if_neg, if_true, if_false, Int.toNat_natCast, rg_ok]
  · simp (disch := omega) only [f_X12_isBelow, b_X12_isBelow_13, Option.bind_some, ↓nm_eq, ↓sm_inl, ↓sm_inr, ↓dzo_0, ↓dzo_1, ↓drg_ok, ↓if_pos, ↓if_neg, if_pos, if_neg, if_true, if_false, Int.toNat_natCast, rg_ok]
theorem goes_1 (x y : Int) : f_X12_goes 161 0 x y (hp u J L) = some (0, hp u (gx_u J 161 44 1) L) := by
  have e : gx_u J 161 44 1 161 44 = 1 := gu_same _ _ _ _
  simp (disch := omega) only [f_X12_goes, b_X12_goes_26, ↓dhi_M, ↓dhG_M_0, ↓dhG_M_1, ↓dhG_M_2, ↓dhG_M_3, ↓dhG_M_4, ↓dhG_M_5, ↓dhG_M_6, ↓dhG_M_7, ↓dhG_M_8, ↓dhg_M_9, ↓dhq_M_9, ↓dhG_M_10, ↓dhG_M_11, ↓dhG_M_12, ↓dhg_M_13, ↓dhq_M_13, ↓dhG_M_14, ↓dhg_M_15, ↓dhq_M_15, ↓dhG_M_16, ↓dhg_M_17, ↓dhq_M_17, ↓dhg_M_18, ↓dhq_M_18, ↓dhG_M_19, ↓dhG_M_20, ↓dhG_M_21, ↓dhG_M_22, ↓dhG_M_23, ↓dhG_M_24, ↓dhg_M_25, ↓dhq_M_25, ↓dhG_M_26, ↓dhG_M_27, ↓dhG_M_28, ↓dhg_M_29, ↓dhq_M_29, ↓dhG_M_30, ↓dhG_M_31, ↓dhg_M_32, ↓dhq_M_32, ↓dhg_M_33, ↓dhq_M_33, ↓dhg_M_34, ↓dhq_M_34, ↓dhg_M_35, ↓dhq_M_35, ↓dhG_M_36, ↓dhG_M_37, ↓dhg_M_38, ↓dhq_M_38, ↓dhg_M_39, ↓dhq_M_39, ↓dhG_M_40, ↓dhG_M_41, ↓dhG_M_42, ↓dhG_M_43, ↓dhg_M_44, ↓dhq_M_44, Option.bind_some, ↓nm_eq, ↓sm_inl, ↓sm_inr, ↓dzo_0, ↓dzo_1, ↓drg_ok, ↓if_pos, ↓if_neg, if_pos, if_neg, if_true, if_false, Int.toNat_natCast, rg_ok, e]
theorem goes_2 (y : Int) : f_X12_goes 161 1 0 y (hp u J L) = some (0, hp u (gx_u J 161 44 2) L) := by
  have e : gx_u J 161 44 2 161 44 = 2 := gu_same _ _ _ _
  simp (disch := omega) only [f_X12_goes, b_X12_goes_26, ↓dhi_M, ↓dhG_M_0, ↓dhG_M_1, ↓dhG_M_2, ↓dhG_M_3, ↓dhG_M_4, ↓dhG_M_5, ↓dhG_M_6, ↓dhG_M_7, ↓dhG_M_8, ↓dhg_M_9, ↓dhq_M_9, ↓dhG_M_10, ↓dhG_M_11, ↓dhG_M_12, ↓dhg_M_13, ↓dhq_M_13, ↓dhG_M_14, ↓dhg_M_15, ↓dhq_M_15, ↓dhG_M_16, ↓dhg_M_17, ↓dhq_M_17, ↓dhg_M_18, ↓dhq_M_18, ↓dhG_M_19, ↓dhG_M_20, ↓dhG_M_21, ↓dhG_M_22, ↓dhG_M_23, ↓dhG_M_24, ↓dhg_M_25, ↓dhq_M_25, ↓dhG_M_26, ↓dhG_M_27, ↓dhG_M_28, ↓dhg_M_29, ↓dhq_M_29, ↓dhG_M_30, ↓dhG_M_31, ↓dhg_M_32, ↓dhq_M_32, ↓dhg_M_33, ↓dhq_M_33, ↓dhg_M_34, ↓dhq_M_34, ↓dhg_M_35, ↓dhq_M_35, ↓dhG_M_36, ↓dhG_M_37, ↓dhg_M_38, ↓dhq_M_38, ↓dhg_M_39, ↓dhq_M_39, ↓dhG_M_40, ↓dhG_M_41, ↓dhG_M_42, ↓dhG_M_43, ↓dhg_M_44, ↓dhq_M_44, Option.bind_some, ↓nm_eq, ↓sm_inl, ↓sm_inr, ↓dzo_0, ↓dzo_1, ↓drg_ok, ↓if_pos, ↓if_neg, if_pos, if_neg, if_true, if_false, Int.toNat_natCast, rg_ok, e]
theorem goes_0 : f_X12_goes 161 1 1 1 (hp u J L) = some (1, hp u (gx_u J 161 44 0) L) := by
  have e : gx_u J 161 44 0 161 44 = 0 := gu_same _ _ _ _
  simp (disch := omega) only [f_X12_goes, b_X12_goes_26, ↓dhi_M, ↓dhG_M_0, ↓dhG_M_1, ↓dhG_M_2, ↓dhG_M_3, ↓dhG_M_4, ↓dhG_M_5, ↓dhG_M_6, ↓dhG_M_7, ↓dhG_M_8, ↓dhg_M_9, ↓dhq_M_9, ↓dhG_M_10, ↓dhG_M_11, ↓dhG_M_12, ↓dhg_M_13, ↓dhq_M_13, ↓dhG_M_14, ↓dhg_M_15, ↓dhq_M_15, ↓dhG_M_16, ↓dhg_M_17, ↓dhq_M_17, ↓dhg_M_18, ↓dhq_M_18, ↓dhG_M_19, ↓dhG_M_20, ↓dhG_M_21, ↓dhG_M_22, ↓dhG_M_23, ↓dhG_M_24, ↓dhg_M_25, ↓dhq_M_25, ↓dhG_M_26, ↓dhG_M_27, ↓dhG_M_28, ↓dhg_M_29, ↓dhq_M_29, ↓dhG_M_30, ↓dhG_M_31, ↓dhg_M_32, ↓dhq_M_32, ↓dhg_M_33, ↓dhq_M_33, ↓dhg_M_34, ↓dhq_M_34, ↓dhg_M_35, ↓dhq_M_35, ↓dhG_M_36, ↓dhG_M_37, ↓dhg_M_38, ↓dhq_M_38, ↓dhg_M_39, ↓dhq_M_39, ↓dhG_M_40, ↓dhG_M_41, ↓dhG_M_42, ↓dhG_M_43, ↓dhg_M_44, ↓dhq_M_44, Option.bind_some, ↓nm_eq, ↓sm_inl, ↓sm_inr, ↓dzo_0, ↓dzo_1, ↓drg_ok, ↓if_pos, ↓if_neg, if_pos, if_neg, if_true, if_false, Int.toNat_natCast, rg_ok, e]
theorem RQO.thr {J' L' : Nat → Nat → Int} {x : Int} (h : RQO g J L J' L') : RQO g J L (gx_u J' 161 44 x) L' := by
  obtain ⟨f, f9, fL, hr⟩ := h
  refine ⟨f.wr (by decide), fun k hk => by rw [gu_at_ne (by omega)]; exact f9 k hk, fL, ?_⟩
  refine hr.eq (hr.1.fr (l := [161]) (Fr.rf.wr (by simp)) (gu_at_ne (by decide)) (by decide)) (fun a ha => gu_ne (by simp at ha; omega)) (fun k hk => gu_at_ne (by omega)) rfl
theorem RQO.rf (h : RST g J L) : RQO g J L J L := ⟨Fr.rf, fun _ _ => rfl, fun _ _ => rfl, h⟩
theorem CST.lrn (hn : 1000000000000000000000000000000 ≤ n) (h : CST u g J L) : ∃ J1 K, f_X3_learn n 64 (hp u J L) = some (hp u J1 K) ∧ CQO u g J L J1 K ∧ cF g J1 K ∧ CTB u g 0 J1 K := by
  obtain ⟨J1, K, e, f, fk, q, c, q1, hF, hE⟩ := h.learn (u := u) hn
  exact ⟨J1, K, e, ⟨f.up (fun a z => by simp at z; simp [CLQ]; omega), fk, c⟩, hF, c, q1, hF, hE, fun z => absurd z (by decide)⟩
theorem RST.fnd (hn : 1000000000000000000000000000000 ≤ n) (h : RST g J L) : ∃ J1 K, f_X12_finds n 161 (hp u J L) = some (hp u J1 K) ∧ RQO g J L J1 K ∧ rF g J1 K ∧ RE g J1 := by
  obtain ⟨J1, K, e, f, fk, q, w, q33, hF, hE, -⟩ := h.found (u := u) hn
  refine ⟨J1, K, e, ⟨f.up (fun a z => by simp [RSL] at z; simp [RLQ]; omega), fun k hk => q k (by omega) (by omega) (by omega) (by omega) (by omega) (by omega) (by omega), fun a ha => fk a (fun z => by simp [RSL] at z; omega), w⟩, hF, hE⟩
theorem reqN_1 {a : Nat} (ha : a < 16) (h : gi_H) : f_X11_requireNonterminal (a : Int) h = some (.inl (), h) := by
  simp (disch := omega) only [f_X11_requireNonterminal, Option.bind_some, ↓nm_eq, ↓sm_inl, ↓sm_inr, ↓dzo_0, ↓dzo_1, ↓drg_ok, ↓if_pos, ↓if_neg, if_pos, if_neg, if_true, if_false, Int.toNat_natCast, rg_ok]
theorem reqN_0 {a : Int} (ha : a < 0 ∨ 16 ≤ a) (hx : gi_ok a) (h : gi_H) : f_X11_requireNonterminal a h = some (.inr gx_IOB, h) := by
  obtain ⟨h1, h2⟩ := hx
  by_cases c : a < 0
  · simp (disch := omega) only [f_X11_requireNonterminal, b_X11_requireNonterminal_10, Option.bind_some, ↓nm_eq, ↓sm_inl, ↓sm_inr, ↓dzo_0, ↓dzo_1, ↓drg_ok, ↓if_pos, ↓if_neg, if_pos, if_neg, if_true, if_false, Int.toNat_natCast, rg_ok]
  · simp (disch := omega) only [f_X11_requireNonterminal, b_X11_requireNonterminal_10, Option.bind_some, ↓nm_eq, ↓sm_inl, ↓sm_inr, ↓dzo_0, ↓dzo_1, ↓drg_ok, ↓if_pos, ↓if_neg, if_pos, if_neg, if_true, if_false, Int.toNat_natCast, rg_ok]
theorem X3_least {a : Nat} (ha : a < 16) : f_X3_least 64 (a : Int) (hp u J L) = some (J 68 (16 + a)) := by
  have e : (16 : Int) + (a : Int) = ((16 + a : Nat) : Int) := by omega
  have el := X3_leastOf (u := u) (L := L) (I := J) (16 + a) (by omega)
  simp (disch := omega) only [f_X3_least, ↓dhi_F, ↓dhG_F_0, ↓dhg_F_1, ↓dhq_F_1, ↓dhg_F_2, ↓dhq_F_2, ↓dhg_F_3, ↓dhq_F_3, ↓dhg_F_4, ↓dhq_F_4, ↓dhG_F_5, ↓dhG_F_6, ↓dhG_F_7, ↓dhG_F_8, ↓dhG_F_9, ↓dhg_F_10, ↓dhq_F_10, ↓dhG_F_11, ↓dhG_F_12, ↓dhG_F_13, Option.bind_some, ↓nm_eq, ↓sm_inl, ↓sm_inr, ↓dzo_0, ↓dzo_1, ↓drg_ok, ↓if_pos, ↓if_neg, if_pos, if_neg, if_true, if_false, Int.toNat_natCast, rg_ok, e, ↓bnd el]
theorem X3_firsts {a : Nat} (ha : a < 16) : f_X3_firsts 64 (a : Int) (hp u J L) = some (gi_and (J 65 (16 + a)) 255) := by
  have e : (16 : Int) + (a : Int) = ((16 + a : Nat) : Int) := by omega
  have el := X3_beginOf (u := u) (L := L) (I := J) (16 + a) (by omega)
  simp (disch := omega) only [f_X3_firsts, ↓dhi_F, ↓dhG_F_0, ↓dhg_F_1, ↓dhq_F_1, ↓dhg_F_2, ↓dhq_F_2, ↓dhg_F_3, ↓dhq_F_3, ↓dhg_F_4, ↓dhq_F_4, ↓dhG_F_5, ↓dhG_F_6, ↓dhG_F_7, ↓dhG_F_8, ↓dhG_F_9, ↓dhg_F_10, ↓dhq_F_10, ↓dhG_F_11, ↓dhG_F_12, ↓dhG_F_13, Option.bind_some, ↓nm_eq, ↓sm_inl, ↓sm_inr, ↓dzo_0, ↓dzo_1, ↓drg_ok, ↓if_pos, ↓if_neg, if_pos, if_neg, if_true, if_false, Int.toNat_natCast, rg_ok, e, ↓bnd el]
theorem X3_vanishes {a : Nat} (ha : a < 16) : f_X3_vanishes 64 (a : Int) (hp u J L) = some (b01 (bt (J 65 (16 + a)) 9)) := by
  have e : (16 : Int) + (a : Int) = ((16 + a : Nat) : Int) := by omega
  have el := X3_beginOf (u := u) (L := L) (I := J) (16 + a) (by omega)
  have hr := bt_ok_and (J 65 (16 + a)) 512
  have h5 := bt_and512 (x := J 65 (16 + a))
  cases c : bt (J 65 (16 + a)) 9 with
  | true =>
    have c' : gi_and (J 65 (16 + a)) 512 ≠ 0 := fun z => by rw [h5.mp z] at c; exact absurd c (by decide)
    rw [b01_t]
    simp (disch := omega) only [f_X3_vanishes, ↓dhi_F, ↓dhG_F_0, ↓dhg_F_1, ↓dhq_F_1, ↓dhg_F_2, ↓dhq_F_2, ↓dhg_F_3, ↓dhq_F_3, ↓dhg_F_4, ↓dhq_F_4, ↓dhG_F_5, ↓dhG_F_6, ↓dhG_F_7, ↓dhG_F_8, ↓dhG_F_9, ↓dhg_F_10, ↓dhq_F_10, ↓dhG_F_11, ↓dhG_F_12, ↓dhG_F_13, Option.bind_some, ↓nm_eq, ↓sm_inl, ↓sm_inr, ↓dzo_0, ↓dzo_1, ↓drg_ok, ↓if_pos, ↓if_neg, if_pos, if_neg, if_true, if_false, Int.toNat_natCast, rg_ok, e, ↓bnd el]
  | false =>
    have c' := h5.mpr c
    rw [b01_f]
    simp (disch := omega) only [f_X3_vanishes, ↓dhi_F, ↓dhG_F_0, ↓dhg_F_1, ↓dhq_F_1, ↓dhg_F_2, ↓dhq_F_2, ↓dhg_F_3, ↓dhq_F_3, ↓dhg_F_4, ↓dhq_F_4, ↓dhG_F_5, ↓dhG_F_6, ↓dhG_F_7, ↓dhG_F_8, ↓dhG_F_9, ↓dhg_F_10, ↓dhq_F_10, ↓dhG_F_11, ↓dhG_F_12, ↓dhG_F_13, Option.bind_some, ↓nm_eq, ↓sm_inl, ↓sm_inr, ↓dzo_0, ↓dzo_1, ↓drg_ok, ↓if_pos, ↓if_neg, if_pos, if_neg, if_true, if_false, Int.toNat_natCast, rg_ok, e, ↓bnd el, c']
theorem X3_begins {a : Nat} (ha : a < 16) : f_X3_beginsItself 64 (a : Int) (hp u J L) = some (b01 (bt (J 64 3) a)) := by
  have eh := X11_has (J 64 3) a (by omega) (hp u J L)
  have e : (if bt (J 64 3) a = true then (1 : Int) else 0) = b01 (bt (J 64 3) a) := rfl
  rw [e] at eh
  have hz : gi_zo (b01 (bt (J 64 3) a)) = some () := zo_ok (b01_rg _)
  simp (disch := omega) only [f_X3_beginsItself, ↓dhi_F, ↓dhG_F_0, ↓dhg_F_1, ↓dhq_F_1, ↓dhg_F_2, ↓dhq_F_2, ↓dhg_F_3, ↓dhq_F_3, ↓dhg_F_4, ↓dhq_F_4, ↓dhG_F_5, ↓dhG_F_6, ↓dhG_F_7, ↓dhG_F_8, ↓dhG_F_9, ↓dhg_F_10, ↓dhq_F_10, ↓dhG_F_11, ↓dhG_F_12, ↓dhG_F_13, Option.bind_some, ↓nm_eq, ↓sm_inl, ↓sm_inr, ↓dzo_0, ↓dzo_1, ↓drg_ok, ↓if_pos, ↓if_neg, if_pos, if_neg, if_true, if_false, Int.toNat_natCast, rg_ok, ↓bnd eh, ↓bnd hz]
theorem X3_reached {a : Nat} (ha : a < 16) : f_X3_isReached 64 (a : Int) (hp u J L) = some (b01 (bt (J 64 2) a)) := by
  have eh := X11_has (J 64 2) a (by omega) (hp u J L)
  have e : (if bt (J 64 2) a = true then (1 : Int) else 0) = b01 (bt (J 64 2) a) := rfl
  rw [e] at eh
  have hz : gi_zo (b01 (bt (J 64 2) a)) = some () := zo_ok (b01_rg _)
  simp (disch := omega) only [f_X3_isReached, ↓dhi_F, ↓dhG_F_0, ↓dhg_F_1, ↓dhq_F_1, ↓dhg_F_2, ↓dhq_F_2, ↓dhg_F_3, ↓dhq_F_3, ↓dhg_F_4, ↓dhq_F_4, ↓dhG_F_5, ↓dhG_F_6, ↓dhG_F_7, ↓dhG_F_8, ↓dhG_F_9, ↓dhg_F_10, ↓dhq_F_10, ↓dhG_F_11, ↓dhG_F_12, ↓dhG_F_13, Option.bind_some, ↓nm_eq, ↓sm_inl, ↓sm_inr, ↓dzo_0, ↓dzo_1, ↓drg_ok, ↓if_pos, ↓if_neg, if_pos, if_neg, if_true, if_false, Int.toNat_natCast, rg_ok, ↓bnd eh, ↓bnd hz]
theorem cF_len (hF : cF g J L) {a : Nat} (ha : a < 16) : J 68 (16 + a) = -1 ∨ (0 ≤ J 68 (16 + a) ∧ J 68 (16 + a) ≤ 99) := hF.2.2.2.2.2.2.2.1.1.2 a ha
theorem X3_isProductive (hF : cF g J L) {a : Nat} (ha : a < 16) : f_X3_isProductive 64 (a : Int) (hp u J L) = some (if cLe J a = 1000 then 0 else 1) := by
  have el := X3_least (u := u) (L := L) (J := J) ha
  have hl := cF_len hF ha
  have hc : cLe J a = 1000 ↔ J 68 (16 + a) = -1 := by unfold cLe; split <;> omega
  by_cases c : J 68 (16 + a) = -1
  · rw [if_pos (hc.mpr c)]
    rw [c] at el
    simp (disch := omega) only [f_X3_isProductive, ↓dhi_F, ↓dhG_F_0, ↓dhg_F_1, ↓dhq_F_1, ↓dhg_F_2, ↓dhq_F_2, ↓dhg_F_3, ↓dhq_F_3, ↓dhg_F_4, ↓dhq_F_4, ↓dhG_F_5, ↓dhG_F_6, ↓dhG_F_7, ↓dhG_F_8, ↓dhG_F_9, ↓dhg_F_10, ↓dhq_F_10, ↓dhG_F_11, ↓dhG_F_12, ↓dhG_F_13, Option.bind_some, ↓nm_eq, ↓sm_inl, ↓sm_inr, ↓dzo_0, ↓dzo_1, ↓drg_ok, ↓if_pos, ↓if_neg, if_pos, if_neg, if_true, if_false, Int.toNat_natCast, rg_ok, ↓bnd el]
  · rw [if_neg (fun z => c (hc.mp z))]
    simp (disch := omega) only [f_X3_isProductive, ↓dhi_F, ↓dhG_F_0, ↓dhg_F_1, ↓dhq_F_1, ↓dhg_F_2, ↓dhq_F_2, ↓dhg_F_3, ↓dhq_F_3, ↓dhg_F_4, ↓dhq_F_4, ↓dhG_F_5, ↓dhG_F_6, ↓dhG_F_7, ↓dhG_F_8, ↓dhG_F_9, ↓dhg_F_10, ↓dhq_F_10, ↓dhG_F_11, ↓dhG_F_12, ↓dhG_F_13, Option.bind_some, ↓nm_eq, ↓sm_inl, ↓sm_inr, ↓dzo_0, ↓dzo_1, ↓drg_ok, ↓if_pos, ↓if_neg, if_pos, if_neg, if_true, if_false, Int.toNat_natCast, rg_ok, ↓bnd el]
end CLS
/-! the same in class and reference -/
section SAM
variable {g : GT} {J K J' K' : Nat → Nat → Int}
theorem sam_f (h : cF g J K) (h' : rF g J' K') {a : Nat} (ha : a < 16) : gi_and (J 65 (16 + a)) 255 = J' 176 a := by
  obtain ⟨e1, e2, -⟩ := cF_NF h
  obtain ⟨e3, e4⟩ := zN_of h'.2.1
  have ht := h'.1.1 a ha
  refine bt_ext (bt_ok_and _ _) ht.1 (fun i hi => ?_)
  rw [bt_and, bt_255]
  have h1 : cFi J a i ↔ rFi J' a i := by rw [e2, e4]
  by_cases c : i < 8
  · rw [decide_eq_true c, Bool.and_true]
    cases b1 : bt (J 65 (16 + a)) i with
    | true => exact (h1.mp ⟨ha, c, b1⟩).2.2.symm
    | false =>
      cases b2 : bt (J' 176 a) i with
      | true => have := (h1.mpr ⟨ha, c, b2⟩).2.2; rw [b1] at this; exact absurd this (by decide)
      | false => rfl
  · rw [decide_eq_false c, Bool.and_false]
    cases b2 : bt (J' 176 a) i with
    | true => exact absurd (ht.2 i b2) c
    | false => rfl
theorem sam_b (h : cF g J K) (h' : rF g J' K') {a : Nat} (ha : a < 16) : J 66 a = J' 177 a := by
  obtain ⟨-, -, e2⟩ := cF_NF h
  have e4 := rF_B h'
  have o1 := h.2.2.2.1
  have o2 := h'.2.2.1
  refine bt_ext (o1.1 a ha) (o2.1 a ha) (fun i hi => ?_)
  have h1 : cBe J a i ↔ rBe J' a i := by rw [e2, e4]
  cases b1 : bt (J 66 a) i with
  | true => exact (h1.mp ⟨ha, o1.2 a ha i b1, b1⟩).2.2.symm
  | false =>
    cases b2 : bt (J' 177 a) i with
    | true => have := (h1.mpr ⟨ha, o2.2.1 a ha i b2, b2⟩).2.2; rw [b1] at this; exact absurd this (by decide)
    | false => rfl
theorem sam_n (h : cF g J K) (h' : rF g J' K') {a : Nat} (ha : a < 16) : bt (J 65 (16 + a)) 9 = bt (J' 161 18) a := by
  obtain ⟨e1, -, -⟩ := cF_NF h
  obtain ⟨e3, -⟩ := zN_of h'.2.1
  have h1 : cNi J a ↔ rNi J' a := by rw [e1, e3]
  cases b1 : bt (J 65 (16 + a)) 9 with
  | true => exact (h1.mp ⟨ha, b1⟩).2.symm
  | false =>
    cases b2 : bt (J' 161 18) a with
    | true => have := (h1.mpr ⟨ha, b2⟩).2; rw [b1] at this; exact absurd this (by decide)
    | false => rfl
theorem sam_l (h : cF g J K) (h' : rF g J' K') {a : Nat} (ha : a < 16) : bt (J 64 3) a = bt (J' 180 a) a := by
  obtain ⟨e1, -, -⟩ := cF_NF h
  obtain ⟨e3, -⟩ := zN_of h'.2.1
  obtain ⟨-, T, hT, hb⟩ := h.2.2.2.2.2.1
  obtain ⟨-, T', hT', hb'⟩ := h'.2.2.2.2.2.2.2
  rw [e1] at hT
  rw [e3] at hT'
  have h1 := isTC_uniq hT hT' a a
  have h2 := hb a
  have h3 := hb' a a
  cases b1 : bt (J 64 3) a with
  | true => exact (h3.mpr (h1.mp (h2.mp b1))).2.2.symm
  | false =>
    cases b2 : bt (J' 180 a) a with
    | true => have := h2.mpr (h1.mpr (h3.mp ⟨ha, ha, b2⟩)); rw [b1] at this; exact absurd this (by decide)
    | false => rfl
theorem sam_s (hg : GR g) (h : cF g J K) (h' : rF g J' K') {a : Nat} (ha : a < 16) : (cLe J a = 1000 ↔ rLn J' a = 1000) ∧ J 68 (16 + a) = (if J' 178 a ≤ 100 then (if J' 178 a ≤ 99 then J' 178 a else 99) else -1) := by
  have h1 := grD_cut hg h.2.2.2.2.2.2.2.1.2 h'.2.2.2.2.2.1 a ha
  have h2 := cF_len h ha
  have h3 := rLn_of h'.2.2.2.2.1 ha
  have h4 : cLe J a = if J 68 (16 + a) = -1 then 1000 else (J 68 (16 + a)).toNat := rfl
  refine ⟨?_, ?_⟩
  · rw [h1]
    split
    · next c => exact ⟨fun _ => c, fun _ => rfl⟩
    · next c => split <;> (constructor <;> intro z <;> omega)
  · rcases h3 with ⟨c1, c2⟩ | ⟨c1, c2⟩
    · rw [c2, if_pos rfl] at h1
      rw [if_neg (by omega)]
      split at h4 <;> omega
    · rw [if_neg (by omega)] at h1
      rw [if_pos (by omega)]
      split at h1
      · rw [if_pos (by omega)]; split at h4 <;> omega
      · rw [if_neg (by omega)]; split at h4 <;> omega
end SAM
/-! the calls -/
section QRY
variable {n : Nat} {x : Int}
/-- a question about a nonterminal that isn't one -/
theorem q_out (hn : 1000000000000000000000000000000 ≤ n) {u : Nat} {J L : Nat → Nat → Int} (hI : IX u J L) {fL fM : gi_H → Option (Int × gi_H)} (h1 : fL (hp u J L) = some (1, hp u J L)) (h2 : ∀ J1 K, f_X12_finds n 161 (hp u J L) = some (hp u J1 K) → fM (hp u J L) = some (0, hp u (gx_u J1 161 44 1) K)) :
    ∃ (k : Int) (u1 : Nat) (J1 L1 : Nat → Nat → Int) (B : Int) (J2 L2 : Nat → Nat → Int), fL (hp u J L) = some (k, hp u1 J1 L1) ∧ fM (hp u1 J1 L1) = some (B, hp u1 J2 L2) ∧ J2 161 44 = k ∧ (k = 0 ∨ k = 1 ∨ k = 2) ∧ gi_ok B ∧ (k = 0 → L2 193 0 = B) ∧ IX u1 J2 L2 := by
  obtain ⟨ps, rs, ps1, rs1, t, lv, sd, w, nw, tp, tq, h⟩ := hI
  obtain ⟨J2, K2, e2, q2, -⟩ := h.2.2.2.2.fnd (u := u) hn
  exact ⟨1, u, J, L, 0, _, K2, h1, h2 J2 K2 e2, gu_same _ _ _ _, by omega, by decide, fun z => absurd z (by decide), ps, rs, ps1, rs1, t, lv, sd, w, nw, tp, tq, h.r q2.thr⟩
/-- a question about a nonterminal that is answered -/
theorem q_in (hn : 1000000000000000000000000000000 ≤ n) {u : Nat} {J L : Nat → Nat → Int} (hI : IX u J L) {fL fM : gi_H → Option (Int × gi_H)} (hb : ∀ (g : GT) (J1 K J2 K2 : Nat → Nat → Int), GR g → cF g J1 K → f_X3_learn n 64 (hp u J L) = some (hp u J1 K) → ∃ A : Int, fL (hp u J L) = some (0, hp u J1 (gx_u K 193 0 A)) ∧ gi_ok A ∧
      ∀ J2 K2, rF g J2 K2 → RE g J2 → f_X12_finds n 161 (hp u J1 (gx_u K 193 0 A)) = some (hp u J2 K2) → fM (hp u J1 (gx_u K 193 0 A)) = some (A, hp u (gx_u J2 161 44 0) K2)) :
    ∃ (k : Int) (u1 : Nat) (J1 L1 : Nat → Nat → Int) (B : Int) (J2 L2 : Nat → Nat → Int), fL (hp u J L) = some (k, hp u1 J1 L1) ∧ fM (hp u1 J1 L1) = some (B, hp u1 J2 L2) ∧ J2 161 44 = k ∧ (k = 0 ∨ k = 1 ∨ k = 2) ∧ gi_ok B ∧ (k = 0 → L2 193 0 = B) ∧ IX u1 J2 L2 := by
  obtain ⟨ps, rs, ps1, rs1, t, lv, sd, w, nw, tp, tq, h⟩ := hI
  obtain ⟨J1, K, e1, q1, hF, -⟩ := h.2.2.2.1.lrn (u := u) hn
  obtain ⟨A, hA1, hA2, hA3⟩ := hb (gtp ps tp) J1 K J1 K h.gr hF e1
  have h1 := h.c q1 (L1 := gx_u K 193 0 A) (fun a ha => gu_ne ha)
  obtain ⟨J2, K2, e2, q2, hF2, hE2⟩ := h1.2.2.2.2.fnd (u := u) hn
  have h2 := hA3 J2 K2 hF2 hE2 e2
  refine ⟨0, u, J1, _, A, _, K2, hA1, h2, gu_same _ _ _ _, Or.inl rfl, hA2, fun _ => ?_, ps, rs, ps1, rs1, t, lv, sd, w, nw, tp, tq, h1.r q2.thr⟩
  rw [q2.2.2.1 193 (by omega), gu_same]
theorem op_first (hn : 1000000000000000000000000000000 ≤ n) (hx : gi_ok x) : OPK (fun h => f_L_first n 0 x 193 h) (fun h => f_X12_first n 161 x h) := by
  intro u J L hI
  by_cases c : x < 0 ∨ 16 ≤ x
  · refine q_out hn hI ?_ (fun J1 K e => ?_)
    · simp (disch := omega) only [f_L_first, f_X11_first, ↓bnd (reqN_0 c hx _), ↓dhi_X, ↓dhG_X_0, ↓dhG_X_1, ↓dhG_X_2, ↓dhg_X_3, ↓dhq_X_3, ↓dhG_X_4, ↓dhG_X_5, ↓dhG_X_6, ↓dhg_X_7, ↓dhq_X_7, ↓dhG_X_8, ↓dhG_X_9, ↓dhG_X_10, ↓dhG_X_11, ↓dhG_X_12, ↓dhG_X_13, ↓dhG_X_14, ↓dhG_X_15, ↓dhG_X_16, Option.bind_some, ↓nm_eq, ↓sm_inl, ↓sm_inr, ↓dzo_0, ↓dzo_1, ↓drg_ok, ↓if_pos, ↓if_neg, if_pos, if_neg, if_true, if_false, Int.toNat_natCast, rg_ok, xI1, if_true]
    · simp (disch := omega) only [f_X12_first, ↓dhi_M, ↓dhG_M_0, ↓dhG_M_1, ↓dhG_M_2, ↓dhG_M_3, ↓dhG_M_4, ↓dhG_M_5, ↓dhG_M_6, ↓dhG_M_7, ↓dhG_M_8, ↓dhg_M_9, ↓dhq_M_9, ↓dhG_M_10, ↓dhG_M_11, ↓dhG_M_12, ↓dhg_M_13, ↓dhq_M_13, ↓dhG_M_14, ↓dhg_M_15, ↓dhq_M_15, ↓dhG_M_16, ↓dhg_M_17, ↓dhq_M_17, ↓dhg_M_18, ↓dhq_M_18, ↓dhG_M_19, ↓dhG_M_20, ↓dhG_M_21, ↓dhG_M_22, ↓dhG_M_23, ↓dhG_M_24, ↓dhg_M_25, ↓dhq_M_25, ↓dhG_M_26, ↓dhG_M_27, ↓dhG_M_28, ↓dhg_M_29, ↓dhq_M_29, ↓dhG_M_30, ↓dhG_M_31, ↓dhg_M_32, ↓dhq_M_32, ↓dhg_M_33, ↓dhq_M_33, ↓dhg_M_34, ↓dhq_M_34, ↓dhg_M_35, ↓dhq_M_35, ↓dhG_M_36, ↓dhG_M_37, ↓dhg_M_38, ↓dhq_M_38, ↓dhg_M_39, ↓dhq_M_39, ↓dhG_M_40, ↓dhG_M_41, ↓dhG_M_42, ↓dhG_M_43, ↓dhg_M_44, ↓dhq_M_44, Option.bind_some, ↓nm_eq, ↓sm_inl, ↓sm_inr, ↓dzo_0, ↓dzo_1, ↓drg_ok, ↓if_pos, ↓if_neg, if_pos, if_neg, if_true, if_false, Int.toNat_natCast, rg_ok, ↓bnd e, ↓bnd (isB_0 (m := 16) c hx (by omega) _), ↓bnd (goes_1 1 1)]
  · obtain ⟨a, rfl⟩ : ∃ a : Nat, x = (a : Int) := ⟨x.toNat, by omega⟩
    have ha : a < 16 := by omega
    refine q_in hn hI (fun g J1 K _ _ hg hF e => ?_)
    have hA : gi_ok (gi_and (J1 65 (16 + a)) 255) := bt_ok_and _ _
    obtain ⟨hA1, hA2⟩ := id hA
    refine ⟨gi_and (J1 65 (16 + a)) 255, ?_, hA, fun J2 K2 hF2 hE2 e2 => ?_⟩
    · simp (disch := omega) only [f_L_first, f_X11_first, ↓bnd (reqN_1 ha _), ↓dhi_X, ↓dhG_X_0, ↓dhG_X_1, ↓dhG_X_2, ↓dhg_X_3, ↓dhq_X_3, ↓dhG_X_4, ↓dhG_X_5, ↓dhG_X_6, ↓dhg_X_7, ↓dhq_X_7, ↓dhG_X_8, ↓dhG_X_9, ↓dhG_X_10, ↓dhG_X_11, ↓dhG_X_12, ↓dhG_X_13, ↓dhG_X_14, ↓dhG_X_15, ↓dhG_X_16, ↓dhi_F, ↓dhG_F_0, ↓dhg_F_1, ↓dhq_F_1, ↓dhg_F_2, ↓dhq_F_2, ↓dhg_F_3, ↓dhq_F_3, ↓dhg_F_4, ↓dhq_F_4, ↓dhG_F_5, ↓dhG_F_6, ↓dhG_F_7, ↓dhG_F_8, ↓dhG_F_9, ↓dhg_F_10, ↓dhq_F_10, ↓dhG_F_11, ↓dhG_F_12, ↓dhG_F_13, ↓dha_193, ↓dhs_193, ↓dhl_193, Option.bind_some, ↓nm_eq, ↓sm_inl, ↓sm_inr, ↓dzo_0, ↓dzo_1, ↓drg_ok, ↓if_pos, ↓if_neg, if_pos, if_neg, if_true, if_false, Int.toNat_natCast, rg_ok, ↓bnd e, ↓bnd (X3_firsts ha)]
      rfl
    · rw [sam_f hF hF2 ha] at e2 ⊢
      have e3 : gx_u J2 161 44 0 176 a = J2 176 a := by rw [gu_ne (by decide)]
      simp (disch := omega) only [f_X12_first, ↓dhi_M, ↓dhG_M_0, ↓dhG_M_1, ↓dhG_M_2, ↓dhG_M_3, ↓dhG_M_4, ↓dhG_M_5, ↓dhG_M_6, ↓dhG_M_7, ↓dhG_M_8, ↓dhg_M_9, ↓dhq_M_9, ↓dhG_M_10, ↓dhG_M_11, ↓dhG_M_12, ↓dhg_M_13, ↓dhq_M_13, ↓dhG_M_14, ↓dhg_M_15, ↓dhq_M_15, ↓dhG_M_16, ↓dhg_M_17, ↓dhq_M_17, ↓dhg_M_18, ↓dhq_M_18, ↓dhG_M_19, ↓dhG_M_20, ↓dhG_M_21, ↓dhG_M_22, ↓dhG_M_23, ↓dhG_M_24, ↓dhg_M_25, ↓dhq_M_25, ↓dhG_M_26, ↓dhG_M_27, ↓dhG_M_28, ↓dhg_M_29, ↓dhq_M_29, ↓dhG_M_30, ↓dhG_M_31, ↓dhg_M_32, ↓dhq_M_32, ↓dhg_M_33, ↓dhq_M_33, ↓dhg_M_34, ↓dhq_M_34, ↓dhg_M_35, ↓dhq_M_35, ↓dhG_M_36, ↓dhG_M_37, ↓dhg_M_38, ↓dhq_M_38, ↓dhg_M_39, ↓dhq_M_39, ↓dhG_M_40, ↓dhG_M_41, ↓dhG_M_42, ↓dhG_M_43, ↓dhg_M_44, ↓dhq_M_44, ↓dha_176, ↓dhs_176, ↓dhl_176, Option.bind_some, ↓nm_eq, ↓sm_inl, ↓sm_inr, ↓dzo_0, ↓dzo_1, ↓drg_ok, ↓if_pos, ↓if_neg, if_pos, if_neg, if_true, if_false, Int.toNat_natCast, rg_ok, ↓bnd e2, ↓bnd (isB_1 (x := (a : Int)) (m := 16) (by omega) (by omega) _), ↓bnd goes_0, Int.toNat_natCast, e3]
theorem op_follow (hn : 1000000000000000000000000000000 ≤ n) (hx : gi_ok x) : OPK (fun h => f_L_follow n 0 x 193 h) (fun h => f_X12_follow n 161 x h) := by
  intro u J L hI
  by_cases c : x < 0 ∨ 16 ≤ x
  · refine q_out hn hI ?_ (fun J1 K e => ?_)
    · simp (disch := omega) only [f_L_follow, f_X11_follow, ↓bnd (reqN_0 c hx _), ↓dhi_X, ↓dhG_X_0, ↓dhG_X_1, ↓dhG_X_2, ↓dhg_X_3, ↓dhq_X_3, ↓dhG_X_4, ↓dhG_X_5, ↓dhG_X_6, ↓dhg_X_7, ↓dhq_X_7, ↓dhG_X_8, ↓dhG_X_9, ↓dhG_X_10, ↓dhG_X_11, ↓dhG_X_12, ↓dhG_X_13, ↓dhG_X_14, ↓dhG_X_15, ↓dhG_X_16, Option.bind_some, ↓nm_eq, ↓sm_inl, ↓sm_inr, ↓dzo_0, ↓dzo_1, ↓drg_ok, ↓if_pos, ↓if_neg, if_pos, if_neg, if_true, if_false, Int.toNat_natCast, rg_ok, xI1, if_true]
    · simp (disch := omega) only [f_X12_follow, ↓dhi_M, ↓dhG_M_0, ↓dhG_M_1, ↓dhG_M_2, ↓dhG_M_3, ↓dhG_M_4, ↓dhG_M_5, ↓dhG_M_6, ↓dhG_M_7, ↓dhG_M_8, ↓dhg_M_9, ↓dhq_M_9, ↓dhG_M_10, ↓dhG_M_11, ↓dhG_M_12, ↓dhg_M_13, ↓dhq_M_13, ↓dhG_M_14, ↓dhg_M_15, ↓dhq_M_15, ↓dhG_M_16, ↓dhg_M_17, ↓dhq_M_17, ↓dhg_M_18, ↓dhq_M_18, ↓dhG_M_19, ↓dhG_M_20, ↓dhG_M_21, ↓dhG_M_22, ↓dhG_M_23, ↓dhG_M_24, ↓dhg_M_25, ↓dhq_M_25, ↓dhG_M_26, ↓dhG_M_27, ↓dhG_M_28, ↓dhg_M_29, ↓dhq_M_29, ↓dhG_M_30, ↓dhG_M_31, ↓dhg_M_32, ↓dhq_M_32, ↓dhg_M_33, ↓dhq_M_33, ↓dhg_M_34, ↓dhq_M_34, ↓dhg_M_35, ↓dhq_M_35, ↓dhG_M_36, ↓dhG_M_37, ↓dhg_M_38, ↓dhq_M_38, ↓dhg_M_39, ↓dhq_M_39, ↓dhG_M_40, ↓dhG_M_41, ↓dhG_M_42, ↓dhG_M_43, ↓dhg_M_44, ↓dhq_M_44, Option.bind_some, ↓nm_eq, ↓sm_inl, ↓sm_inr, ↓dzo_0, ↓dzo_1, ↓drg_ok, ↓if_pos, ↓if_neg, if_pos, if_neg, if_true, if_false, Int.toNat_natCast, rg_ok, ↓bnd e, ↓bnd (isB_0 (m := 16) c hx (by omega) _), ↓bnd (goes_1 1 1)]
  · obtain ⟨a, rfl⟩ : ∃ a : Nat, x = (a : Int) := ⟨x.toNat, by omega⟩
    have ha : a < 16 := by omega
    refine q_in hn hI (fun g J1 K _ _ hg hF e => ?_)
    have hA : gi_ok (J1 66 a) := hF.2.2.2.1.1 a ha
    obtain ⟨hA1, hA2⟩ := id hA
    refine ⟨J1 66 a, ?_, hA, fun J2 K2 hF2 hE2 e2 => ?_⟩
    · simp (disch := omega) only [f_L_follow, f_X11_follow, ↓bnd (reqN_1 ha _), ↓dhi_X, ↓dhG_X_0, ↓dhG_X_1, ↓dhG_X_2, ↓dhg_X_3, ↓dhq_X_3, ↓dhG_X_4, ↓dhG_X_5, ↓dhG_X_6, ↓dhg_X_7, ↓dhq_X_7, ↓dhG_X_8, ↓dhG_X_9, ↓dhG_X_10, ↓dhG_X_11, ↓dhG_X_12, ↓dhG_X_13, ↓dhG_X_14, ↓dhG_X_15, ↓dhG_X_16, ↓dhi_F, ↓dhG_F_0, ↓dhg_F_1, ↓dhq_F_1, ↓dhg_F_2, ↓dhq_F_2, ↓dhg_F_3, ↓dhq_F_3, ↓dhg_F_4, ↓dhq_F_4, ↓dhG_F_5, ↓dhG_F_6, ↓dhG_F_7, ↓dhG_F_8, ↓dhG_F_9, ↓dhg_F_10, ↓dhq_F_10, ↓dhG_F_11, ↓dhG_F_12, ↓dhG_F_13, ↓dha_193, ↓dhs_193, ↓dhl_193, Option.bind_some, ↓nm_eq, ↓sm_inl, ↓sm_inr, ↓dzo_0, ↓dzo_1, ↓drg_ok, ↓if_pos, ↓if_neg, if_pos, if_neg, if_true, if_false, Int.toNat_natCast, rg_ok, ↓bnd e, ↓bnd (X3_behind a ha)]
      rfl
    · rw [sam_b hF hF2 ha] at e2 ⊢
      have e3 : gx_u J2 161 44 0 177 a = J2 177 a := by rw [gu_ne (by decide)]
      simp (disch := omega) only [f_X12_follow, ↓dhi_M, ↓dhG_M_0, ↓dhG_M_1, ↓dhG_M_2, ↓dhG_M_3, ↓dhG_M_4, ↓dhG_M_5, ↓dhG_M_6, ↓dhG_M_7, ↓dhG_M_8, ↓dhg_M_9, ↓dhq_M_9, ↓dhG_M_10, ↓dhG_M_11, ↓dhG_M_12, ↓dhg_M_13, ↓dhq_M_13, ↓dhG_M_14, ↓dhg_M_15, ↓dhq_M_15, ↓dhG_M_16, ↓dhg_M_17, ↓dhq_M_17, ↓dhg_M_18, ↓dhq_M_18, ↓dhG_M_19, ↓dhG_M_20, ↓dhG_M_21, ↓dhG_M_22, ↓dhG_M_23, ↓dhG_M_24, ↓dhg_M_25, ↓dhq_M_25, ↓dhG_M_26, ↓dhG_M_27, ↓dhG_M_28, ↓dhg_M_29, ↓dhq_M_29, ↓dhG_M_30, ↓dhG_M_31, ↓dhg_M_32, ↓dhq_M_32, ↓dhg_M_33, ↓dhq_M_33, ↓dhg_M_34, ↓dhq_M_34, ↓dhg_M_35, ↓dhq_M_35, ↓dhG_M_36, ↓dhG_M_37, ↓dhg_M_38, ↓dhq_M_38, ↓dhg_M_39, ↓dhq_M_39, ↓dhG_M_40, ↓dhG_M_41, ↓dhG_M_42, ↓dhG_M_43, ↓dhg_M_44, ↓dhq_M_44, ↓dha_177, ↓dhs_177, ↓dhl_177, Option.bind_some, ↓nm_eq, ↓sm_inl, ↓sm_inr, ↓dzo_0, ↓dzo_1, ↓drg_ok, ↓if_pos, ↓if_neg, if_pos, if_neg, if_true, if_false, Int.toNat_natCast, rg_ok, ↓bnd e2, ↓bnd (isB_1 (x := (a : Int)) (m := 16) (by omega) (by omega) _), ↓bnd goes_0, Int.toNat_natCast, e3]
theorem op_isNullable (hn : 1000000000000000000000000000000 ≤ n) (hx : gi_ok x) : OPK (fun h => f_L_isNullable n 0 x 193 h) (fun h => f_X12_isNullable n 161 x h) := by
  intro u J L hI
  by_cases c : x < 0 ∨ 16 ≤ x
  · refine q_out hn hI ?_ (fun J1 K e => ?_)
    · simp (disch := omega) only [f_L_isNullable, f_X11_isNullable, ↓bnd (reqN_0 c hx _), ↓dhi_X, ↓dhG_X_0, ↓dhG_X_1, ↓dhG_X_2, ↓dhg_X_3, ↓dhq_X_3, ↓dhG_X_4, ↓dhG_X_5, ↓dhG_X_6, ↓dhg_X_7, ↓dhq_X_7, ↓dhG_X_8, ↓dhG_X_9, ↓dhG_X_10, ↓dhG_X_11, ↓dhG_X_12, ↓dhG_X_13, ↓dhG_X_14, ↓dhG_X_15, ↓dhG_X_16, Option.bind_some, ↓nm_eq, ↓sm_inl, ↓sm_inr, ↓dzo_0, ↓dzo_1, ↓drg_ok, ↓if_pos, ↓if_neg, if_pos, if_neg, if_true, if_false, Int.toNat_natCast, rg_ok, xI1, if_true]
    · simp (disch := omega) only [f_X12_isNullable, b_X12_isNullable_35, ↓dhi_M, ↓dhG_M_0, ↓dhG_M_1, ↓dhG_M_2, ↓dhG_M_3, ↓dhG_M_4, ↓dhG_M_5, ↓dhG_M_6, ↓dhG_M_7, ↓dhG_M_8, ↓dhg_M_9, ↓dhq_M_9, ↓dhG_M_10, ↓dhG_M_11, ↓dhG_M_12, ↓dhg_M_13, ↓dhq_M_13, ↓dhG_M_14, ↓dhg_M_15, ↓dhq_M_15, ↓dhG_M_16, ↓dhg_M_17, ↓dhq_M_17, ↓dhg_M_18, ↓dhq_M_18, ↓dhG_M_19, ↓dhG_M_20, ↓dhG_M_21, ↓dhG_M_22, ↓dhG_M_23, ↓dhG_M_24, ↓dhg_M_25, ↓dhq_M_25, ↓dhG_M_26, ↓dhG_M_27, ↓dhG_M_28, ↓dhg_M_29, ↓dhq_M_29, ↓dhG_M_30, ↓dhG_M_31, ↓dhg_M_32, ↓dhq_M_32, ↓dhg_M_33, ↓dhq_M_33, ↓dhg_M_34, ↓dhq_M_34, ↓dhg_M_35, ↓dhq_M_35, ↓dhG_M_36, ↓dhG_M_37, ↓dhg_M_38, ↓dhq_M_38, ↓dhg_M_39, ↓dhq_M_39, ↓dhG_M_40, ↓dhG_M_41, ↓dhG_M_42, ↓dhG_M_43, ↓dhg_M_44, ↓dhq_M_44, Option.bind_some, ↓nm_eq, ↓sm_inl, ↓sm_inr, ↓dzo_0, ↓dzo_1, ↓drg_ok, ↓if_pos, ↓if_neg, if_pos, if_neg, if_true, if_false, Int.toNat_natCast, rg_ok, ↓bnd e, ↓bnd (isB_0 (m := 16) c hx (by omega) _), ↓bnd (goes_1 1 1)]
  · obtain ⟨a, rfl⟩ : ∃ a : Nat, x = (a : Int) := ⟨x.toNat, by omega⟩
    have ha : a < 16 := by omega
    refine q_in hn hI (fun g J1 K _ _ hg hF e => ?_)
    have ev := X3_vanishes (u := u) (L := K) (J := J1) ha
    have hz : gi_zo (b01 (bt (J1 65 (16 + a)) 9)) = some () := zo_ok (b01_rg _)
    refine ⟨b01 (bt (J1 65 (16 + a)) 9), ?_, by rcases b01_rg (bt (J1 65 (16 + a)) 9) with q | q <;> rw [q] <;> decide, fun J2 K2 hF2 hE2 e2 => ?_⟩
    · cases q : bt (J1 65 (16 + a)) 9 with
      | true =>
        rw [q, b01_t] at ev
        rw [b01_t]
        simp (disch := omega) only [f_L_isNullable, f_X11_isNullable, b_L_isNullable_15, ↓bnd (reqN_1 ha _), ↓dhi_X, ↓dhG_X_0, ↓dhG_X_1, ↓dhG_X_2, ↓dhg_X_3, ↓dhq_X_3, ↓dhG_X_4, ↓dhG_X_5, ↓dhG_X_6, ↓dhg_X_7, ↓dhq_X_7, ↓dhG_X_8, ↓dhG_X_9, ↓dhG_X_10, ↓dhG_X_11, ↓dhG_X_12, ↓dhG_X_13, ↓dhG_X_14, ↓dhG_X_15, ↓dhG_X_16, ↓dhi_F, ↓dhG_F_0, ↓dhg_F_1, ↓dhq_F_1, ↓dhg_F_2, ↓dhq_F_2, ↓dhg_F_3, ↓dhq_F_3, ↓dhg_F_4, ↓dhq_F_4, ↓dhG_F_5, ↓dhG_F_6, ↓dhG_F_7, ↓dhG_F_8, ↓dhG_F_9, ↓dhg_F_10, ↓dhq_F_10, ↓dhG_F_11, ↓dhG_F_12, ↓dhG_F_13, ↓dha_193, ↓dhs_193, ↓dhl_193, Option.bind_some, ↓nm_eq, ↓sm_inl, ↓sm_inr, ↓dzo_0, ↓dzo_1, ↓drg_ok, ↓if_pos, ↓if_neg, if_pos, if_neg, if_true, if_false, Int.toNat_natCast, rg_ok, ↓bnd e, ↓bnd ev]
        rfl
      | false =>
        rw [q, b01_f] at ev
        rw [b01_f]
        simp (disch := omega) only [f_L_isNullable, f_X11_isNullable, b_L_isNullable_15, ↓bnd (reqN_1 ha _), ↓dhi_X, ↓dhG_X_0, ↓dhG_X_1, ↓dhG_X_2, ↓dhg_X_3, ↓dhq_X_3, ↓dhG_X_4, ↓dhG_X_5, ↓dhG_X_6, ↓dhg_X_7, ↓dhq_X_7, ↓dhG_X_8, ↓dhG_X_9, ↓dhG_X_10, ↓dhG_X_11, ↓dhG_X_12, ↓dhG_X_13, ↓dhG_X_14, ↓dhG_X_15, ↓dhG_X_16, ↓dhi_F, ↓dhG_F_0, ↓dhg_F_1, ↓dhq_F_1, ↓dhg_F_2, ↓dhq_F_2, ↓dhg_F_3, ↓dhq_F_3, ↓dhg_F_4, ↓dhq_F_4, ↓dhG_F_5, ↓dhG_F_6, ↓dhG_F_7, ↓dhG_F_8, ↓dhG_F_9, ↓dhg_F_10, ↓dhq_F_10, ↓dhG_F_11, ↓dhG_F_12, ↓dhG_F_13, ↓dha_193, ↓dhs_193, ↓dhl_193, Option.bind_some, ↓nm_eq, ↓sm_inl, ↓sm_inr, ↓dzo_0, ↓dzo_1, ↓drg_ok, ↓if_pos, ↓if_neg, if_pos, if_neg, if_true, if_false, Int.toNat_natCast, rg_ok, ↓bnd e, ↓bnd ev]
        rfl
    · have e3 : gx_u J2 161 44 0 161 18 = J2 161 18 := gu_at_ne (by decide)
      have hh := bt_has (x := J2 161 18) (k := a) (by omega)
      rw [sam_n hF hF2 ha] at e2 ⊢
      cases q : bt (J2 161 18) a with
      | true =>
        rw [q] at hh e2
        rw [if_pos rfl] at hh
        rw [b01_t] at e2 ⊢
        simp (disch := omega) only [f_X12_isNullable, b_X12_isNullable_35, ↓dhi_M, ↓dhG_M_0, ↓dhG_M_1, ↓dhG_M_2, ↓dhG_M_3, ↓dhG_M_4, ↓dhG_M_5, ↓dhG_M_6, ↓dhG_M_7, ↓dhG_M_8, ↓dhg_M_9, ↓dhq_M_9, ↓dhG_M_10, ↓dhG_M_11, ↓dhG_M_12, ↓dhg_M_13, ↓dhq_M_13, ↓dhG_M_14, ↓dhg_M_15, ↓dhq_M_15, ↓dhG_M_16, ↓dhg_M_17, ↓dhq_M_17, ↓dhg_M_18, ↓dhq_M_18, ↓dhG_M_19, ↓dhG_M_20, ↓dhG_M_21, ↓dhG_M_22, ↓dhG_M_23, ↓dhG_M_24, ↓dhg_M_25, ↓dhq_M_25, ↓dhG_M_26, ↓dhG_M_27, ↓dhG_M_28, ↓dhg_M_29, ↓dhq_M_29, ↓dhG_M_30, ↓dhG_M_31, ↓dhg_M_32, ↓dhq_M_32, ↓dhg_M_33, ↓dhq_M_33, ↓dhg_M_34, ↓dhq_M_34, ↓dhg_M_35, ↓dhq_M_35, ↓dhG_M_36, ↓dhG_M_37, ↓dhg_M_38, ↓dhq_M_38, ↓dhg_M_39, ↓dhq_M_39, ↓dhG_M_40, ↓dhG_M_41, ↓dhG_M_42, ↓dhG_M_43, ↓dhg_M_44, ↓dhq_M_44, Option.bind_some, ↓nm_eq, ↓sm_inl, ↓sm_inr, ↓dzo_0, ↓dzo_1, ↓drg_ok, ↓if_pos, ↓if_neg, if_pos, if_neg, if_true, if_false, Int.toNat_natCast, rg_ok, ↓bnd e2, ↓bnd (isB_1 (x := (a : Int)) (m := 16) (by omega) (by omega) _), ↓bnd goes_0, e3, hh]
      | false =>
        rw [q] at hh e2
        rw [if_neg (by decide)] at hh
        rw [b01_f] at e2 ⊢
        simp (disch := omega) only [f_X12_isNullable, b_X12_isNullable_35, ↓dhi_M, ↓dhG_M_0, ↓dhG_M_1, ↓dhG_M_2, ↓dhG_M_3, ↓dhG_M_4, ↓dhG_M_5, ↓dhG_M_6, ↓dhG_M_7, ↓dhG_M_8, ↓dhg_M_9, ↓dhq_M_9, ↓dhG_M_10, ↓dhG_M_11, ↓dhG_M_12, ↓dhg_M_13, ↓dhq_M_13, ↓dhG_M_14, ↓dhg_M_15, ↓dhq_M_15, ↓dhG_M_16, ↓dhg_M_17, ↓dhq_M_17, ↓dhg_M_18, ↓dhq_M_18, ↓dhG_M_19, ↓dhG_M_20, ↓dhG_M_21, ↓dhG_M_22, ↓dhG_M_23, ↓dhG_M_24, ↓dhg_M_25, ↓dhq_M_25, ↓dhG_M_26, ↓dhG_M_27, ↓dhG_M_28, ↓dhg_M_29, ↓dhq_M_29, ↓dhG_M_30, ↓dhG_M_31, ↓dhg_M_32, ↓dhq_M_32, ↓dhg_M_33, ↓dhq_M_33, ↓dhg_M_34, ↓dhq_M_34, ↓dhg_M_35, ↓dhq_M_35, ↓dhG_M_36, ↓dhG_M_37, ↓dhg_M_38, ↓dhq_M_38, ↓dhg_M_39, ↓dhq_M_39, ↓dhG_M_40, ↓dhG_M_41, ↓dhG_M_42, ↓dhG_M_43, ↓dhg_M_44, ↓dhq_M_44, Option.bind_some, ↓nm_eq, ↓sm_inl, ↓sm_inr, ↓dzo_0, ↓dzo_1, ↓drg_ok, ↓if_pos, ↓if_neg, if_pos, if_neg, if_true, if_false, Int.toNat_natCast, rg_ok, ↓bnd e2, ↓bnd (isB_1 (x := (a : Int)) (m := 16) (by omega) (by omega) _), ↓bnd goes_0, e3, hh]
theorem op_isLeftRecursive (hn : 1000000000000000000000000000000 ≤ n) (hx : gi_ok x) : OPK (fun h => f_L_isLeftRecursive n 0 x 193 h) (fun h => f_X12_isLeftRecursive n 161 x h) := by
  intro u J L hI
  by_cases c : x < 0 ∨ 16 ≤ x
  · refine q_out hn hI ?_ (fun J1 K e => ?_)
    · simp (disch := omega) only [f_L_isLeftRecursive, f_X11_isLeftRecursive, ↓bnd (reqN_0 c hx _), ↓dhi_X, ↓dhG_X_0, ↓dhG_X_1, ↓dhG_X_2, ↓dhg_X_3, ↓dhq_X_3, ↓dhG_X_4, ↓dhG_X_5, ↓dhG_X_6, ↓dhg_X_7, ↓dhq_X_7, ↓dhG_X_8, ↓dhG_X_9, ↓dhG_X_10, ↓dhG_X_11, ↓dhG_X_12, ↓dhG_X_13, ↓dhG_X_14, ↓dhG_X_15, ↓dhG_X_16, Option.bind_some, ↓nm_eq, ↓sm_inl, ↓sm_inr, ↓dzo_0, ↓dzo_1, ↓drg_ok, ↓if_pos, ↓if_neg, if_pos, if_neg, if_true, if_false, Int.toNat_natCast, rg_ok, xI1, if_true]
    · simp (disch := omega) only [f_X12_isLeftRecursive, b_X12_isLeftRecursive_37, ↓dhi_M, ↓dhG_M_0, ↓dhG_M_1, ↓dhG_M_2, ↓dhG_M_3, ↓dhG_M_4, ↓dhG_M_5, ↓dhG_M_6, ↓dhG_M_7, ↓dhG_M_8, ↓dhg_M_9, ↓dhq_M_9, ↓dhG_M_10, ↓dhG_M_11, ↓dhG_M_12, ↓dhg_M_13, ↓dhq_M_13, ↓dhG_M_14, ↓dhg_M_15, ↓dhq_M_15, ↓dhG_M_16, ↓dhg_M_17, ↓dhq_M_17, ↓dhg_M_18, ↓dhq_M_18, ↓dhG_M_19, ↓dhG_M_20, ↓dhG_M_21, ↓dhG_M_22, ↓dhG_M_23, ↓dhG_M_24, ↓dhg_M_25, ↓dhq_M_25, ↓dhG_M_26, ↓dhG_M_27, ↓dhG_M_28, ↓dhg_M_29, ↓dhq_M_29, ↓dhG_M_30, ↓dhG_M_31, ↓dhg_M_32, ↓dhq_M_32, ↓dhg_M_33, ↓dhq_M_33, ↓dhg_M_34, ↓dhq_M_34, ↓dhg_M_35, ↓dhq_M_35, ↓dhG_M_36, ↓dhG_M_37, ↓dhg_M_38, ↓dhq_M_38, ↓dhg_M_39, ↓dhq_M_39, ↓dhG_M_40, ↓dhG_M_41, ↓dhG_M_42, ↓dhG_M_43, ↓dhg_M_44, ↓dhq_M_44, Option.bind_some, ↓nm_eq, ↓sm_inl, ↓sm_inr, ↓dzo_0, ↓dzo_1, ↓drg_ok, ↓if_pos, ↓if_neg, if_pos, if_neg, if_true, if_false, Int.toNat_natCast, rg_ok, ↓bnd e, ↓bnd (isB_0 (m := 16) c hx (by omega) _), ↓bnd (goes_1 1 1)]
  · obtain ⟨a, rfl⟩ : ∃ a : Nat, x = (a : Int) := ⟨x.toNat, by omega⟩
    have ha : a < 16 := by omega
    refine q_in hn hI (fun g J1 K _ _ hg hF e => ?_)
    have ev := X3_begins (u := u) (L := K) (J := J1) ha
    have hz : gi_zo (b01 (bt (J1 64 3) a)) = some () := zo_ok (b01_rg _)
    refine ⟨b01 (bt (J1 64 3) a), ?_, by rcases b01_rg (bt (J1 64 3) a) with q | q <;> rw [q] <;> decide, fun J2 K2 hF2 hE2 e2 => ?_⟩
    · cases q : bt (J1 64 3) a with
      | true =>
        rw [q, b01_t] at ev
        rw [b01_t]
        simp (disch := omega) only [f_L_isLeftRecursive, f_X11_isLeftRecursive, b_L_isLeftRecursive_15, ↓bnd (reqN_1 ha _), ↓dhi_X, ↓dhG_X_0, ↓dhG_X_1, ↓dhG_X_2, ↓dhg_X_3, ↓dhq_X_3, ↓dhG_X_4, ↓dhG_X_5, ↓dhG_X_6, ↓dhg_X_7, ↓dhq_X_7, ↓dhG_X_8, ↓dhG_X_9, ↓dhG_X_10, ↓dhG_X_11, ↓dhG_X_12, ↓dhG_X_13, ↓dhG_X_14, ↓dhG_X_15, ↓dhG_X_16, ↓dhi_F, ↓dhG_F_0, ↓dhg_F_1, ↓dhq_F_1, ↓dhg_F_2, ↓dhq_F_2, ↓dhg_F_3, ↓dhq_F_3, ↓dhg_F_4, ↓dhq_F_4, ↓dhG_F_5, ↓dhG_F_6, ↓dhG_F_7, ↓dhG_F_8, ↓dhG_F_9, ↓dhg_F_10, ↓dhq_F_10, ↓dhG_F_11, ↓dhG_F_12, ↓dhG_F_13, ↓dha_193, ↓dhs_193, ↓dhl_193, Option.bind_some, ↓nm_eq, ↓sm_inl, ↓sm_inr, ↓dzo_0, ↓dzo_1, ↓drg_ok, ↓if_pos, ↓if_neg, if_pos, if_neg, if_true, if_false, Int.toNat_natCast, rg_ok, ↓bnd e, ↓bnd ev]
        rfl
      | false =>
        rw [q, b01_f] at ev
        rw [b01_f]
        simp (disch := omega) only [f_L_isLeftRecursive, f_X11_isLeftRecursive, b_L_isLeftRecursive_15, ↓bnd (reqN_1 ha _), ↓dhi_X, ↓dhG_X_0, ↓dhG_X_1, ↓dhG_X_2, ↓dhg_X_3, ↓dhq_X_3, ↓dhG_X_4, ↓dhG_X_5, ↓dhG_X_6, ↓dhg_X_7, ↓dhq_X_7, ↓dhG_X_8, ↓dhG_X_9, ↓dhG_X_10, ↓dhG_X_11, ↓dhG_X_12, ↓dhG_X_13, ↓dhG_X_14, ↓dhG_X_15, ↓dhG_X_16, ↓dhi_F, ↓dhG_F_0, ↓dhg_F_1, ↓dhq_F_1, ↓dhg_F_2, ↓dhq_F_2, ↓dhg_F_3, ↓dhq_F_3, ↓dhg_F_4, ↓dhq_F_4, ↓dhG_F_5, ↓dhG_F_6, ↓dhG_F_7, ↓dhG_F_8, ↓dhG_F_9, ↓dhg_F_10, ↓dhq_F_10, ↓dhG_F_11, ↓dhG_F_12, ↓dhG_F_13, ↓dha_193, ↓dhs_193, ↓dhl_193, Option.bind_some, ↓nm_eq, ↓sm_inl, ↓sm_inr, ↓dzo_0, ↓dzo_1, ↓drg_ok, ↓if_pos, ↓if_neg, if_pos, if_neg, if_true, if_false, Int.toNat_natCast, rg_ok, ↓bnd e, ↓bnd ev]
        rfl
    · have e3 : gx_u J2 161 44 0 180 a = J2 180 a := by rw [gu_ne (by decide)]
      have hh := bt_has (x := J2 180 a) (k := a) (by omega)
      rw [sam_l hF hF2 ha] at e2 ⊢
      cases q : bt (J2 180 a) a with
      | true =>
        rw [q] at hh e2
        rw [if_pos rfl] at hh
        rw [b01_t] at e2 ⊢
        simp (disch := omega) only [f_X12_isLeftRecursive, b_X12_isLeftRecursive_37, ↓dhi_M, ↓dhG_M_0, ↓dhG_M_1, ↓dhG_M_2, ↓dhG_M_3, ↓dhG_M_4, ↓dhG_M_5, ↓dhG_M_6, ↓dhG_M_7, ↓dhG_M_8, ↓dhg_M_9, ↓dhq_M_9, ↓dhG_M_10, ↓dhG_M_11, ↓dhG_M_12, ↓dhg_M_13, ↓dhq_M_13, ↓dhG_M_14, ↓dhg_M_15, ↓dhq_M_15, ↓dhG_M_16, ↓dhg_M_17, ↓dhq_M_17, ↓dhg_M_18, ↓dhq_M_18, ↓dhG_M_19, ↓dhG_M_20, ↓dhG_M_21, ↓dhG_M_22, ↓dhG_M_23, ↓dhG_M_24, ↓dhg_M_25, ↓dhq_M_25, ↓dhG_M_26, ↓dhG_M_27, ↓dhG_M_28, ↓dhg_M_29, ↓dhq_M_29, ↓dhG_M_30, ↓dhG_M_31, ↓dhg_M_32, ↓dhq_M_32, ↓dhg_M_33, ↓dhq_M_33, ↓dhg_M_34, ↓dhq_M_34, ↓dhg_M_35, ↓dhq_M_35, ↓dhG_M_36, ↓dhG_M_37, ↓dhg_M_38, ↓dhq_M_38, ↓dhg_M_39, ↓dhq_M_39, ↓dhG_M_40, ↓dhG_M_41, ↓dhG_M_42, ↓dhG_M_43, ↓dhg_M_44, ↓dhq_M_44, ↓dha_180, ↓dhs_180, ↓dhl_180, Option.bind_some, ↓nm_eq, ↓sm_inl, ↓sm_inr, ↓dzo_0, ↓dzo_1, ↓drg_ok, ↓if_pos, ↓if_neg, if_pos, if_neg, if_true, if_false, Int.toNat_natCast, rg_ok, ↓bnd e2, ↓bnd (isB_1 (x := (a : Int)) (m := 16) (by omega) (by omega) _), ↓bnd goes_0, Int.toNat_natCast, e3, hh]
      | false =>
        rw [q] at hh e2
        rw [if_neg (by decide)] at hh
        rw [b01_f] at e2 ⊢
        simp (disch := omega) only [f_X12_isLeftRecursive, b_X12_isLeftRecursive_37, ↓dhi_M, ↓dhG_M_0, ↓dhG_M_1, ↓dhG_M_2, ↓dhG_M_3, ↓dhG_M_4, ↓dhG_M_5, ↓dhG_M_6, ↓dhG_M_7, ↓dhG_M_8, ↓dhg_M_9, ↓dhq_M_9, ↓dhG_M_10, ↓dhG_M_11, ↓dhG_M_12, ↓dhg_M_13, ↓dhq_M_13, ↓dhG_M_14, ↓dhg_M_15, ↓dhq_M_15, ↓dhG_M_16, ↓dhg_M_17, ↓dhq_M_17, ↓dhg_M_18, ↓dhq_M_18, ↓dhG_M_19, ↓dhG_M_20, ↓dhG_M_21, ↓dhG_M_22, ↓dhG_M_23, ↓dhG_M_24, ↓dhg_M_25, ↓dhq_M_25, ↓dhG_M_26, ↓dhG_M_27, ↓dhG_M_28, ↓dhg_M_29, ↓dhq_M_29, ↓dhG_M_30, ↓dhG_M_31, ↓dhg_M_32, ↓dhq_M_32, ↓dhg_M_33, ↓dhq_M_33, ↓dhg_M_34, ↓dhq_M_34, ↓dhg_M_35, ↓dhq_M_35, ↓dhG_M_36, ↓dhG_M_37, ↓dhg_M_38, ↓dhq_M_38, ↓dhg_M_39, ↓dhq_M_39, ↓dhG_M_40, ↓dhG_M_41, ↓dhG_M_42, ↓dhG_M_43, ↓dhg_M_44, ↓dhq_M_44, ↓dha_180, ↓dhs_180, ↓dhl_180, Option.bind_some, ↓nm_eq, ↓sm_inl, ↓sm_inr, ↓dzo_0, ↓dzo_1, ↓drg_ok, ↓if_pos, ↓if_neg, if_pos, if_neg, if_true, if_false, Int.toNat_natCast, rg_ok, ↓bnd e2, ↓bnd (isB_1 (x := (a : Int)) (m := 16) (by omega) (by omega) _), ↓bnd goes_0, Int.toNat_natCast, e3, hh]
theorem op_shortest (hn : 1000000000000000000000000000000 ≤ n) (hx : gi_ok x) : OPK (fun h => f_L_shortest n 0 x 193 h) (fun h => f_X12_shortest n 161 x h) := by
  intro u J L hI
  by_cases c : x < 0 ∨ 16 ≤ x
  · refine q_out hn hI ?_ (fun J1 K e => ?_)
    · simp (disch := omega) only [f_L_shortest, f_X11_shortest, ↓bnd (reqN_0 c hx _), ↓dhi_X, ↓dhG_X_0, ↓dhG_X_1, ↓dhG_X_2, ↓dhg_X_3, ↓dhq_X_3, ↓dhG_X_4, ↓dhG_X_5, ↓dhG_X_6, ↓dhg_X_7, ↓dhq_X_7, ↓dhG_X_8, ↓dhG_X_9, ↓dhG_X_10, ↓dhG_X_11, ↓dhG_X_12, ↓dhG_X_13, ↓dhG_X_14, ↓dhG_X_15, ↓dhG_X_16, Option.bind_some, ↓nm_eq, ↓sm_inl, ↓sm_inr, ↓dzo_0, ↓dzo_1, ↓drg_ok, ↓if_pos, ↓if_neg, if_pos, if_neg, if_true, if_false, Int.toNat_natCast, rg_ok, xI1, if_true]
    · simp (disch := omega) only [f_X12_shortest, ↓dhi_M, ↓dhG_M_0, ↓dhG_M_1, ↓dhG_M_2, ↓dhG_M_3, ↓dhG_M_4, ↓dhG_M_5, ↓dhG_M_6, ↓dhG_M_7, ↓dhG_M_8, ↓dhg_M_9, ↓dhq_M_9, ↓dhG_M_10, ↓dhG_M_11, ↓dhG_M_12, ↓dhg_M_13, ↓dhq_M_13, ↓dhG_M_14, ↓dhg_M_15, ↓dhq_M_15, ↓dhG_M_16, ↓dhg_M_17, ↓dhq_M_17, ↓dhg_M_18, ↓dhq_M_18, ↓dhG_M_19, ↓dhG_M_20, ↓dhG_M_21, ↓dhG_M_22, ↓dhG_M_23, ↓dhG_M_24, ↓dhg_M_25, ↓dhq_M_25, ↓dhG_M_26, ↓dhG_M_27, ↓dhG_M_28, ↓dhg_M_29, ↓dhq_M_29, ↓dhG_M_30, ↓dhG_M_31, ↓dhg_M_32, ↓dhq_M_32, ↓dhg_M_33, ↓dhq_M_33, ↓dhg_M_34, ↓dhq_M_34, ↓dhg_M_35, ↓dhq_M_35, ↓dhG_M_36, ↓dhG_M_37, ↓dhg_M_38, ↓dhq_M_38, ↓dhg_M_39, ↓dhq_M_39, ↓dhG_M_40, ↓dhG_M_41, ↓dhG_M_42, ↓dhG_M_43, ↓dhg_M_44, ↓dhq_M_44, Option.bind_some, ↓nm_eq, ↓sm_inl, ↓sm_inr, ↓dzo_0, ↓dzo_1, ↓drg_ok, ↓if_pos, ↓if_neg, if_pos, if_neg, if_true, if_false, Int.toNat_natCast, rg_ok, ↓bnd e, ↓bnd (isB_0 (m := 16) c hx (by omega) _), ↓bnd (goes_1 1 1)]
  · obtain ⟨a, rfl⟩ : ∃ a : Nat, x = (a : Int) := ⟨x.toNat, by omega⟩
    have ha : a < 16 := by omega
    refine q_in hn hI (fun g J1 K _ _ hg hF e => ?_)
    have hl := cF_len hF ha
    have ev := X3_least (u := u) (L := K) (J := J1) ha
    refine ⟨J1 68 (16 + a), ?_, ⟨by omega, by omega⟩, fun J2 K2 hF2 hE2 e2 => ?_⟩
    · simp (disch := omega) only [f_L_shortest, f_X11_shortest, ↓bnd (reqN_1 ha _), ↓dhi_X, ↓dhG_X_0, ↓dhG_X_1, ↓dhG_X_2, ↓dhg_X_3, ↓dhq_X_3, ↓dhG_X_4, ↓dhG_X_5, ↓dhG_X_6, ↓dhg_X_7, ↓dhq_X_7, ↓dhG_X_8, ↓dhG_X_9, ↓dhG_X_10, ↓dhG_X_11, ↓dhG_X_12, ↓dhG_X_13, ↓dhG_X_14, ↓dhG_X_15, ↓dhG_X_16, ↓dhi_F, ↓dhG_F_0, ↓dhg_F_1, ↓dhq_F_1, ↓dhg_F_2, ↓dhq_F_2, ↓dhg_F_3, ↓dhq_F_3, ↓dhg_F_4, ↓dhq_F_4, ↓dhG_F_5, ↓dhG_F_6, ↓dhG_F_7, ↓dhG_F_8, ↓dhG_F_9, ↓dhg_F_10, ↓dhq_F_10, ↓dhG_F_11, ↓dhG_F_12, ↓dhG_F_13, ↓dha_193, ↓dhs_193, ↓dhl_193, Option.bind_some, ↓nm_eq, ↓sm_inl, ↓sm_inr, ↓dzo_0, ↓dzo_1, ↓drg_ok, ↓if_pos, ↓if_neg, if_pos, if_neg, if_true, if_false, Int.toNat_natCast, rg_ok, ↓bnd e, ↓bnd ev]
      rfl
    · have e3 : gx_u J2 161 44 0 178 a = J2 178 a := by rw [gu_ne (by decide)]
      have hs := (sam_s hg hF hF2 ha).2
      have hr := hF2.2.2.2.2.1 a ha
      obtain ⟨⟨h1, h2⟩, -⟩ := hr
      rw [hs] at e2 ⊢
      by_cases c1 : J2 178 a ≤ 100
      · by_cases c2 : J2 178 a ≤ 99
        · rw [if_pos c1, if_pos c2] at e2 ⊢
          simp (disch := omega) only [f_X12_shortest, ↓dhi_M, ↓dhG_M_0, ↓dhG_M_1, ↓dhG_M_2, ↓dhG_M_3, ↓dhG_M_4, ↓dhG_M_5, ↓dhG_M_6, ↓dhG_M_7, ↓dhG_M_8, ↓dhg_M_9, ↓dhq_M_9, ↓dhG_M_10, ↓dhG_M_11, ↓dhG_M_12, ↓dhg_M_13, ↓dhq_M_13, ↓dhG_M_14, ↓dhg_M_15, ↓dhq_M_15, ↓dhG_M_16, ↓dhg_M_17, ↓dhq_M_17, ↓dhg_M_18, ↓dhq_M_18, ↓dhG_M_19, ↓dhG_M_20, ↓dhG_M_21, ↓dhG_M_22, ↓dhG_M_23, ↓dhG_M_24, ↓dhg_M_25, ↓dhq_M_25, ↓dhG_M_26, ↓dhG_M_27, ↓dhG_M_28, ↓dhg_M_29, ↓dhq_M_29, ↓dhG_M_30, ↓dhG_M_31, ↓dhg_M_32, ↓dhq_M_32, ↓dhg_M_33, ↓dhq_M_33, ↓dhg_M_34, ↓dhq_M_34, ↓dhg_M_35, ↓dhq_M_35, ↓dhG_M_36, ↓dhG_M_37, ↓dhg_M_38, ↓dhq_M_38, ↓dhg_M_39, ↓dhq_M_39, ↓dhG_M_40, ↓dhG_M_41, ↓dhG_M_42, ↓dhG_M_43, ↓dhg_M_44, ↓dhq_M_44, ↓dha_178, ↓dhs_178, ↓dhl_178, Option.bind_some, ↓nm_eq, ↓sm_inl, ↓sm_inr, ↓dzo_0, ↓dzo_1, ↓drg_ok, ↓if_pos, ↓if_neg, if_pos, if_neg, if_true, if_false, Int.toNat_natCast, rg_ok, ↓bnd e2, ↓bnd (isB_1 (x := (a : Int)) (m := 16) (by omega) (by omega) _), ↓bnd goes_0, Int.toNat_natCast, e3]
        · rw [if_pos c1, if_neg c2] at e2 ⊢
          simp (disch := omega) only [f_X12_shortest, ↓dhi_M, ↓dhG_M_0, ↓dhG_M_1, ↓dhG_M_2, ↓dhG_M_3, ↓dhG_M_4, ↓dhG_M_5, ↓dhG_M_6, ↓dhG_M_7, ↓dhG_M_8, ↓dhg_M_9, ↓dhq_M_9, ↓dhG_M_10, ↓dhG_M_11, ↓dhG_M_12, ↓dhg_M_13, ↓dhq_M_13, ↓dhG_M_14, ↓dhg_M_15, ↓dhq_M_15, ↓dhG_M_16, ↓dhg_M_17, ↓dhq_M_17, ↓dhg_M_18, ↓dhq_M_18, ↓dhG_M_19, ↓dhG_M_20, ↓dhG_M_21, ↓dhG_M_22, ↓dhG_M_23, ↓dhG_M_24, ↓dhg_M_25, ↓dhq_M_25, ↓dhG_M_26, ↓dhG_M_27, ↓dhG_M_28, ↓dhg_M_29, ↓dhq_M_29, ↓dhG_M_30, ↓dhG_M_31, ↓dhg_M_32, ↓dhq_M_32, ↓dhg_M_33, ↓dhq_M_33, ↓dhg_M_34, ↓dhq_M_34, ↓dhg_M_35, ↓dhq_M_35, ↓dhG_M_36, ↓dhG_M_37, ↓dhg_M_38, ↓dhq_M_38, ↓dhg_M_39, ↓dhq_M_39, ↓dhG_M_40, ↓dhG_M_41, ↓dhG_M_42, ↓dhG_M_43, ↓dhg_M_44, ↓dhq_M_44, ↓dha_178, ↓dhs_178, ↓dhl_178, Option.bind_some, ↓nm_eq, ↓sm_inl, ↓sm_inr, ↓dzo_0, ↓dzo_1, ↓drg_ok, ↓if_pos, ↓if_neg, if_pos, if_neg, if_true, if_false, Int.toNat_natCast, rg_ok, ↓bnd e2, ↓bnd (isB_1 (x := (a : Int)) (m := 16) (by omega) (by omega) _), ↓bnd goes_0, Int.toNat_natCast, e3]
      · rw [if_neg c1] at e2 ⊢
        simp (disch := omega) only [f_X12_shortest, ↓dhi_M, ↓dhG_M_0, ↓dhG_M_1, ↓dhG_M_2, ↓dhG_M_3, ↓dhG_M_4, ↓dhG_M_5, ↓dhG_M_6, ↓dhG_M_7, ↓dhG_M_8, ↓dhg_M_9, ↓dhq_M_9, ↓dhG_M_10, ↓dhG_M_11, ↓dhG_M_12, ↓dhg_M_13, ↓dhq_M_13, ↓dhG_M_14, ↓dhg_M_15, ↓dhq_M_15, ↓dhG_M_16, ↓dhg_M_17, ↓dhq_M_17, ↓dhg_M_18, ↓dhq_M_18, ↓dhG_M_19, ↓dhG_M_20, ↓dhG_M_21, ↓dhG_M_22, ↓dhG_M_23, ↓dhG_M_24, ↓dhg_M_25, ↓dhq_M_25, ↓dhG_M_26, ↓dhG_M_27, ↓dhG_M_28, ↓dhg_M_29, ↓dhq_M_29, ↓dhG_M_30, ↓dhG_M_31, ↓dhg_M_32, ↓dhq_M_32, ↓dhg_M_33, ↓dhq_M_33, ↓dhg_M_34, ↓dhq_M_34, ↓dhg_M_35, ↓dhq_M_35, ↓dhG_M_36, ↓dhG_M_37, ↓dhg_M_38, ↓dhq_M_38, ↓dhg_M_39, ↓dhq_M_39, ↓dhG_M_40, ↓dhG_M_41, ↓dhG_M_42, ↓dhG_M_43, ↓dhg_M_44, ↓dhq_M_44, ↓dha_178, ↓dhs_178, ↓dhl_178, Option.bind_some, ↓nm_eq, ↓sm_inl, ↓sm_inr, ↓dzo_0, ↓dzo_1, ↓drg_ok, ↓if_pos, ↓if_neg, if_pos, if_neg, if_true, if_false, Int.toNat_natCast, rg_ok, ↓bnd e2, ↓bnd (isB_1 (x := (a : Int)) (m := 16) (by omega) (by omega) _), ↓bnd goes_0, Int.toNat_natCast, e3]
end QRY
