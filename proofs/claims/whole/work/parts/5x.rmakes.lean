/-! ===== the reference: all states made ===== -/
theorem and1023 {a c : Int} (ha : ∀ t, bt a t = true → t < 10) (hc : ∀ t, bt c t = true → t < 10) : gi_and a 1023 = gi_and c 1023 ↔ ∀ y, bt a y = true ↔ bt c y = true := by
  have e : ∀ {z : Int}, (∀ t, bt z t = true → t < 10) → ∀ y, bt (gi_and z 1023) y = bt z y := fun {z} hz y => by
    rw [bt_and, bt_1023]
    cases h : bt z y with
    | false => rfl
    | true => rw [Bool.true_and, decide_eq_true_eq]; exact hz y h
  constructor
  · intro h y
    rw [← e ha y, ← e hc y, h]
  · intro h
    refine bt_ext (bt_ok_and _ _) (bt_ok_and _ _) (fun y _ => ?_)
    rw [e ha, e hc]
    have := h y
    cases h1 : bt a y <;> cases h2 : bt c y <;> simp_all
theorem and512 {a c : Int} : gi_and a 512 = gi_and c 512 ↔ (bt a 9 = true ↔ bt c 9 = true) := by
  have e : ∀ (z : Int) y, bt (gi_and z 512) y = (bt z y && decide (y = 9)) := fun z y => by rw [bt_and, bt_512]
  constructor
  · intro h
    have h1 := e a 9
    have h2 := e c 9
    rw [h] at h1
    rw [h1] at h2
    simp at h2
    rw [h2]
  · intro h
    refine bt_ext (bt_ok_and _ _) (bt_ok_and _ _) (fun y _ => ?_)
    rw [e, e]
    by_cases hy : y = 9
    · subst hy
      cases h1 : bt a 9 <;> cases h2 : bt c 9 <;> simp_all
    · simp [hy]
section RP_
variable {u : Nat} {n : Nat} {L : Nat → Nat → Int} {g : GT} {N : Nat → Prop} {F : Nat → Nat → Prop} {b : Bool}
def EQt (b : Bool) (R R' : AS) : Prop := ∀ p k y, (b = true → y = 9) → (R p k y ↔ R' p k y)
theorem X12_findState (hn : 1000000000000000000000000000000 ≤ n) {A : Nat} (hA : A = 183 ∨ A = 185) {J : Nat → Nat → Int} (hg : GR g) (hu : NU g J) {k : Nat} (hk : k ≤ 80) (hV : ∀ t, t < k → VR g A (ar g (146 * t)) J) (hf : VR g 182 (ar g 0) J) :
    (∃ t, t < k ∧ f_X12_findState n 161 A (k : Int) (if b then 1 else 0) (hp u J L) = some (t : Int) ∧ EQt b (SR g A (ar g (146 * t)) J) (SR g 182 (ar g 0) J)) ∨ (f_X12_findState n 161 A (k : Int) (if b then 1 else 0) (hp u J L) = some (-1) ∧ ∀ t, t < k → ¬ EQt b (SR g A (ar g (146 * t)) J) (SR g 182 (ar g 0) J)) := by
  have hA3' : hA3 A 11680 := Or.inr ⟨hA, rfl⟩
  have hfr6 := frm_6 hg (Gn g)
  have h24 := hg.1
  have e25 := hu.2.2
  have hm : ∃ m : Int, m = (if b then 512 else 1023) ∧ f_X12_findState n 161 A (k : Int) (if b then 1 else 0) (hp u J L) = l_X12_findState_18 n n 161 A (k : Int) m 0 (hp u J L) ∧ ∀ a c : Int, (∀ t, bt a t = true → t < 10) → (∀ t, bt c t = true → t < 10) → (gi_and a m = gi_and c m ↔ ∀ y, (b = true → y = 9) → (bt a y = true ↔ bt c y = true)) := by
    cases b with
    | false =>
      refine ⟨1023, rfl, ?_, fun a c ha hc => (and1023 ha hc).trans ⟨fun h y _ => h y, fun h y => h y (fun z => absurd z (by decide))⟩⟩
      show f_X12_findState n 161 A (k : Int) 0 (hp u J L) = _
      simp (disch := omega) only [f_X12_findState, b_X12_findState_13, Option.bind_some, ↓nm_eq, ↓sm_inl, ↓sm_inr, ↓dzo_0, ↓dzo_1, ↓drg_ok, ↓if_pos, ↓if_neg, if_pos, if_neg, if_true, if_false, Int.toNat_natCast, rg_ok]
    | true =>
      refine ⟨512, rfl, ?_, fun a c _ _ => and512.trans ⟨fun h y hy => by rw [hy rfl]; exact h, fun h => h 9 (fun _ => rfl)⟩⟩
      show f_X12_findState n 161 A (k : Int) 1 (hp u J L) = _
      simp (disch := omega) only [f_X12_findState, b_X12_findState_13, Option.bind_some, ↓nm_eq, ↓sm_inl, ↓sm_inr, ↓dzo_0, ↓dzo_1, ↓drg_ok, ↓if_pos, ↓if_neg, if_pos, if_neg, if_true, if_false, Int.toNat_natCast, rg_ok]
  obtain ⟨m, -, em, hmm⟩ := hm
  rw [em]
  -- one state
  have inn : ∀ (r18 : Nat → Nat → Int → Int → Int → gi_H → Option Int) (t : Nat), t < k → zLP (frm g (Gn g) + 2) (fun f j (y : Int) => l_X12_findState_30 n r18 f 161 A (k : Int) m (t : Int) y (j : Int) (hp u J L))
      (fun j y => (y = 1 ∧ ∀ p q, vI g p q → fo g p + q < j → ∀ z, (b = true → z = 9) → (SR g A (ar g (146 * t)) J p q z ↔ SR g 182 (ar g 0) J p q z)) ∨ (y = 0 ∧ ¬ EQt b (SR g A (ar g (146 * t)) J) (SR g 182 (ar g 0) J)))
      (fun res => (res = some (t : Int) ∧ EQt b (SR g A (ar g (146 * t)) J) (SR g 182 (ar g 0) J)) ∨ (res = r18 161 A (k : Int) m ((t + 1 : Nat) : Int) (hp u J L) ∧ ¬ EQt b (SR g A (ar g (146 * t)) J) (SR g 182 (ar g 0) J))) := by
    intro r18 t ht
    have et : (t : Int) + 1 = ((t + 1 : Nat) : Int) := by omega
    refine zlp ?_ ?_
    · rintro f j y hj hy
      have ek : (j : Int) + 1 = ((j + 1 : Nat) : Int) := by omega
      rcases hy with ⟨y1, y2⟩ | ⟨y1, y2⟩
      · right
        obtain ⟨p, q, hv, hpq⟩ := fo_sur hg hj
        have r1 := ra (u := u) (L := L) hA3' (J := J) (i := 146 * (t : Int) + (j : Int)) (by omega) (by omega)
        have ei : (146 * (t : Int) + (j : Int)).toNat = ar g (146 * t) p q := by unfold ar; omega
        have ei2 : j = ar g 0 p q := by unfold ar; omega
        rw [ei] at r1
        have r2 : gi_aI (hp u J L) 1 182 (j : Int) = some (J 182 (ar g 0 p q)) := by
          rw [ra (u := u) (L := L) (Or.inl ⟨rfl, rfl⟩) (J := J) (i := (j : Int)) (by omega) (by omega), Int.toNat_natCast, ei2]
        have v1 := hV t ht p q hv
        have v2 := hf p q hv
        have hcmp := hmm (J A (ar g (146 * t) p q)) (J 182 (ar g 0 p q)) v1.2.1 v2.2.1
        have rg1 : -2147483648 ≤ gi_and (J A (ar g (146 * t) p q)) m ∧ gi_and (J A (ar g (146 * t) p q)) m ≤ 2147483647 := bt_ok_and _ _
        have rg2 : -2147483648 ≤ gi_and (J 182 (ar g 0 p q)) m ∧ gi_and (J 182 (ar g 0 p q)) m ≤ 2147483647 := bt_ok_and _ _
        by_cases c : gi_and (J A (ar g (146 * t) p q)) m = gi_and (J 182 (ar g 0 p q)) m
        · refine ⟨1, ?_, Or.inl ⟨rfl, fun p' q' hv' hl z hz => ?_⟩⟩
          · simp (disch := omega) only [l_X12_findState_30, b_X12_findState_30, b_X12_findState_76, ↓dhi_M, ↓dhG_M_0, ↓dhG_M_1, ↓dhG_M_2, ↓dhG_M_3, ↓dhG_M_4, ↓dhG_M_5, ↓dhG_M_6, ↓dhG_M_7, ↓dhG_M_8, ↓dhg_M_9, ↓dhq_M_9, ↓dhG_M_10, ↓dhG_M_11, ↓dhG_M_12, ↓dhg_M_13, ↓dhq_M_13, ↓dhG_M_14, ↓dhg_M_15, ↓dhq_M_15, ↓dhG_M_16, ↓dhg_M_17, ↓dhq_M_17, ↓dhg_M_18, ↓dhq_M_18, ↓dhG_M_19, ↓dhG_M_20, ↓dhG_M_21, ↓dhG_M_22, ↓dhG_M_23, ↓dhG_M_24, ↓dhg_M_25, ↓dhq_M_25, ↓dhG_M_26, ↓dhG_M_27, ↓dhG_M_28, ↓dhg_M_29, ↓dhq_M_29, ↓dhG_M_30, ↓dhG_M_31, ↓dhg_M_32, ↓dhq_M_32, ↓dhg_M_33, ↓dhq_M_33, ↓dhg_M_34, ↓dhq_M_34, ↓dhg_M_35, ↓dhq_M_35, ↓dhG_M_36, ↓dhG_M_37, ↓dhg_M_38, ↓dhq_M_38, ↓dhg_M_39, ↓dhq_M_39, ↓dhG_M_40, ↓dhG_M_41, ↓dhG_M_42, ↓dhG_M_43, ↓dhg_M_44, ↓dhq_M_44, Option.bind_some, ↓nm_eq, ↓sm_inl, ↓sm_inr, ↓dzo_0, ↓dzo_1, ↓drg_ok, ↓if_pos, ↓if_neg, if_pos, if_neg, if_true, if_false, Int.toNat_natCast, rg_ok, e25, y1, ↓bnd r1, ↓bnd r2, ek]
          · by_cases e : fo g p' + q' = j
            · have := ar_inj (g := g) 0 p' q' p q hv' hv (by unfold ar; omega)
              rw [this.1, this.2]
              have := hcmp.mp c z hz
              exact ⟨fun w => ⟨w.1, this.mp w.2⟩, fun w => ⟨w.1, this.mpr w.2⟩⟩
            · exact y2 p' q' hv' (by omega) z hz
        · refine ⟨0, ?_, Or.inr ⟨rfl, fun he => c (hcmp.mpr (fun z hz => ?_))⟩⟩
          · simp (disch := omega) only [l_X12_findState_30, b_X12_findState_30, b_X12_findState_76, ↓dhi_M, ↓dhG_M_0, ↓dhG_M_1, ↓dhG_M_2, ↓dhG_M_3, ↓dhG_M_4, ↓dhG_M_5, ↓dhG_M_6, ↓dhG_M_7, ↓dhG_M_8, ↓dhg_M_9, ↓dhq_M_9, ↓dhG_M_10, ↓dhG_M_11, ↓dhG_M_12, ↓dhg_M_13, ↓dhq_M_13, ↓dhG_M_14, ↓dhg_M_15, ↓dhq_M_15, ↓dhG_M_16, ↓dhg_M_17, ↓dhq_M_17, ↓dhg_M_18, ↓dhq_M_18, ↓dhG_M_19, ↓dhG_M_20, ↓dhG_M_21, ↓dhG_M_22, ↓dhG_M_23, ↓dhG_M_24, ↓dhg_M_25, ↓dhq_M_25, ↓dhG_M_26, ↓dhG_M_27, ↓dhG_M_28, ↓dhg_M_29, ↓dhq_M_29, ↓dhG_M_30, ↓dhG_M_31, ↓dhg_M_32, ↓dhq_M_32, ↓dhg_M_33, ↓dhq_M_33, ↓dhg_M_34, ↓dhq_M_34, ↓dhg_M_35, ↓dhq_M_35, ↓dhG_M_36, ↓dhG_M_37, ↓dhg_M_38, ↓dhq_M_38, ↓dhg_M_39, ↓dhq_M_39, ↓dhG_M_40, ↓dhG_M_41, ↓dhG_M_42, ↓dhG_M_43, ↓dhg_M_44, ↓dhq_M_44, Option.bind_some, ↓nm_eq, ↓sm_inl, ↓sm_inr, ↓dzo_0, ↓dzo_1, ↓drg_ok, ↓if_pos, ↓if_neg, if_pos, if_neg, if_true, if_false, Int.toNat_natCast, rg_ok, e25, y1, ↓bnd r1, ↓bnd r2, ek]
          · have := he p q z hz
            exact ⟨fun w => (this.mp ⟨hv, w⟩).2, fun w => (this.mpr ⟨hv, w⟩).2⟩
      · left; right
        refine ⟨?_, y2⟩
        simp (disch := omega) only [l_X12_findState_30, b_X12_findState_30, b_X12_findState_84, ↓dhi_M, ↓dhG_M_0, ↓dhG_M_1, ↓dhG_M_2, ↓dhG_M_3, ↓dhG_M_4, ↓dhG_M_5, ↓dhG_M_6, ↓dhG_M_7, ↓dhG_M_8, ↓dhg_M_9, ↓dhq_M_9, ↓dhG_M_10, ↓dhG_M_11, ↓dhG_M_12, ↓dhg_M_13, ↓dhq_M_13, ↓dhG_M_14, ↓dhg_M_15, ↓dhq_M_15, ↓dhG_M_16, ↓dhg_M_17, ↓dhq_M_17, ↓dhg_M_18, ↓dhq_M_18, ↓dhG_M_19, ↓dhG_M_20, ↓dhG_M_21, ↓dhG_M_22, ↓dhG_M_23, ↓dhG_M_24, ↓dhg_M_25, ↓dhq_M_25, ↓dhG_M_26, ↓dhG_M_27, ↓dhG_M_28, ↓dhg_M_29, ↓dhq_M_29, ↓dhG_M_30, ↓dhG_M_31, ↓dhg_M_32, ↓dhq_M_32, ↓dhg_M_33, ↓dhq_M_33, ↓dhg_M_34, ↓dhq_M_34, ↓dhg_M_35, ↓dhq_M_35, ↓dhG_M_36, ↓dhG_M_37, ↓dhg_M_38, ↓dhq_M_38, ↓dhg_M_39, ↓dhq_M_39, ↓dhG_M_40, ↓dhG_M_41, ↓dhG_M_42, ↓dhG_M_43, ↓dhg_M_44, ↓dhq_M_44, Option.bind_some, ↓nm_eq, ↓sm_inl, ↓sm_inr, ↓dzo_0, ↓dzo_1, ↓drg_ok, ↓if_pos, ↓if_neg, if_pos, if_neg, if_true, if_false, Int.toNat_natCast, rg_ok, e25, y1, et]
    · rintro f y hy
      rcases hy with ⟨y1, y2⟩ | ⟨y1, y2⟩
      · left
        refine ⟨?_, fun p q z hz => ?_⟩
        · simp (disch := omega) only [l_X12_findState_30, b_X12_findState_30, b_X12_findState_84, ↓dhi_M, ↓dhG_M_0, ↓dhG_M_1, ↓dhG_M_2, ↓dhG_M_3, ↓dhG_M_4, ↓dhG_M_5, ↓dhG_M_6, ↓dhG_M_7, ↓dhG_M_8, ↓dhg_M_9, ↓dhq_M_9, ↓dhG_M_10, ↓dhG_M_11, ↓dhG_M_12, ↓dhg_M_13, ↓dhq_M_13, ↓dhG_M_14, ↓dhg_M_15, ↓dhq_M_15, ↓dhG_M_16, ↓dhg_M_17, ↓dhq_M_17, ↓dhg_M_18, ↓dhq_M_18, ↓dhG_M_19, ↓dhG_M_20, ↓dhG_M_21, ↓dhG_M_22, ↓dhG_M_23, ↓dhG_M_24, ↓dhg_M_25, ↓dhq_M_25, ↓dhG_M_26, ↓dhG_M_27, ↓dhG_M_28, ↓dhg_M_29, ↓dhq_M_29, ↓dhG_M_30, ↓dhG_M_31, ↓dhg_M_32, ↓dhq_M_32, ↓dhg_M_33, ↓dhq_M_33, ↓dhg_M_34, ↓dhq_M_34, ↓dhg_M_35, ↓dhq_M_35, ↓dhG_M_36, ↓dhG_M_37, ↓dhg_M_38, ↓dhq_M_38, ↓dhg_M_39, ↓dhq_M_39, ↓dhG_M_40, ↓dhG_M_41, ↓dhG_M_42, ↓dhG_M_43, ↓dhg_M_44, ↓dhq_M_44, Option.bind_some, ↓nm_eq, ↓sm_inl, ↓sm_inr, ↓dzo_0, ↓dzo_1, ↓drg_ok, ↓if_pos, ↓if_neg, if_pos, if_neg, if_true, if_false, Int.toNat_natCast, rg_ok, e25, y1]
        · by_cases hv : vI g p q
          · exact y2 p q hv (fo_rg hg hv).1 z hz
          · exact ⟨fun w => absurd w.1 hv, fun w => absurd w.1 hv⟩
      · right
        refine ⟨?_, y2⟩
        simp (disch := omega) only [l_X12_findState_30, b_X12_findState_30, b_X12_findState_84, ↓dhi_M, ↓dhG_M_0, ↓dhG_M_1, ↓dhG_M_2, ↓dhG_M_3, ↓dhG_M_4, ↓dhG_M_5, ↓dhG_M_6, ↓dhG_M_7, ↓dhG_M_8, ↓dhg_M_9, ↓dhq_M_9, ↓dhG_M_10, ↓dhG_M_11, ↓dhG_M_12, ↓dhg_M_13, ↓dhq_M_13, ↓dhG_M_14, ↓dhg_M_15, ↓dhq_M_15, ↓dhG_M_16, ↓dhg_M_17, ↓dhq_M_17, ↓dhg_M_18, ↓dhq_M_18, ↓dhG_M_19, ↓dhG_M_20, ↓dhG_M_21, ↓dhG_M_22, ↓dhG_M_23, ↓dhG_M_24, ↓dhg_M_25, ↓dhq_M_25, ↓dhG_M_26, ↓dhG_M_27, ↓dhG_M_28, ↓dhg_M_29, ↓dhq_M_29, ↓dhG_M_30, ↓dhG_M_31, ↓dhg_M_32, ↓dhq_M_32, ↓dhg_M_33, ↓dhq_M_33, ↓dhg_M_34, ↓dhq_M_34, ↓dhg_M_35, ↓dhq_M_35, ↓dhG_M_36, ↓dhG_M_37, ↓dhg_M_38, ↓dhq_M_38, ↓dhg_M_39, ↓dhq_M_39, ↓dhG_M_40, ↓dhG_M_41, ↓dhG_M_42, ↓dhG_M_43, ↓dhg_M_44, ↓dhq_M_44, Option.bind_some, ↓nm_eq, ↓sm_inl, ↓sm_inr, ↓dzo_0, ↓dzo_1, ↓drg_ok, ↓if_pos, ↓if_neg, if_pos, if_neg, if_true, if_false, Int.toNat_natCast, rg_ok, e25, y1, et]
  have out : zLP k (fun f t (_ : Unit) => l_X12_findState_18 n f 161 A (k : Int) m (t : Int) (hp u J L)) (fun t _ => ∀ t', t' < t → ¬ EQt b (SR g A (ar g (146 * t')) J) (SR g 182 (ar g 0) J))
      (fun res => (∃ t, t < k ∧ res = some (t : Int) ∧ EQt b (SR g A (ar g (146 * t)) J) (SR g 182 (ar g 0) J)) ∨ (res = some (-1) ∧ ∀ t, t < k → ¬ EQt b (SR g A (ar g (146 * t)) J) (SR g 182 (ar g 0) J))) := by
    refine zlp ?_ ?_
    · rintro f t ⟨⟩ ht hi
      have e0 : l_X12_findState_18 n (f + 1) 161 A (k : Int) m (t : Int) (hp u J L) = l_X12_findState_30 n (l_X12_findState_18 n f) n 161 A (k : Int) m (t : Int) 1 0 (hp u J L) := by
        simp (disch := omega) only [l_X12_findState_18, b_X12_findState_18, Option.bind_some, ↓nm_eq, ↓sm_inl, ↓sm_inr, ↓dzo_0, ↓dzo_1, ↓drg_ok, ↓if_pos, ↓if_neg, if_pos, if_neg, if_true, if_false, Int.toNat_natCast, rg_ok]
      rcases inn (l_X12_findState_18 n f) t ht (frm g (Gn g) + 2) n 0 1 (by omega) (by omega) (Or.inl ⟨rfl, fun p q _ h => absurd h (by omega)⟩) with ⟨e, q⟩ | ⟨e, q⟩
      · left; left
        exact ⟨t, ht, e0.trans e, q⟩
      · right
        refine ⟨(), e0.trans e, fun t' h' => ?_⟩
        by_cases e : t' = t
        · rw [e]; exact q
        · exact hi t' (by omega)
    · rintro f ⟨⟩ hi
      right
      refine ⟨?_, hi⟩
      simp (disch := omega) only [l_X12_findState_18, b_X12_findState_18, Option.bind_some, ↓nm_eq, ↓sm_inl, ↓sm_inr, ↓dzo_0, ↓dzo_1, ↓drg_ok, ↓if_pos, ↓if_neg, if_pos, if_neg, if_true, if_false, Int.toNat_natCast, rg_ok]
  exact out k n 0 () (by omega) (by omega) (fun t h => absurd h (by omega))
def mA (b : Bool) : Nat := if b then 183 else 185
def mG (b : Bool) : Nat := if b then 184 else 186
theorem mA_or (b : Bool) : mA b = 183 ∨ mA b = 185 := by cases b <;> simp [mA]
theorem rg0 (b : Bool) {J : Nat → Nat → Int} {i x : Int} (h1 : 0 ≤ i) (h2 : i < 1920) : gi_s1 (hp u J L) (mG b) i x = some (hp u (gx_u J (mG b) i.toNat x) L) := by
  cases b
  · exact hs0 (N := 1920) rfl (by decide) (by decide) h1 h2
  · exact hs0 (N := 1920) rfl (by decide) (by decide) h1 h2
theorem rga (b : Bool) {J : Nat → Nat → Int} {i : Int} (h1 : 0 ≤ i) (h2 : i < 1920) : gi_aI (hp u J L) 1 (mG b) i = some (J (mG b) i.toNat) := by
  cases b
  · exact ha0 (N := 1920) rfl (by decide) (by decide) h1 h2
  · exact ha0 (N := 1920) rfl (by decide) (by decide) h1 h2
/-- the states as the reference has made them -/
def RBI (g : GT) (N : Nat → Prop) (F : Nat → Nat → Prop) (b : Bool) (i : Nat) (J : Nat → Nat → Int) : Prop :=
  Sb (bfi g N F b i) = false ∧ (∀ t, t < Sn (bfi g N F b i) → VR g (mA b) (ar g (146 * t)) J ∧ ROK b (SR g (mA b) (ar g (146 * t)) J) (CL g N F (SK (bfi g N F b i) t))) ∧
  (b = true → SR g (mA b) (ar g (146 * 0)) J 24 0 8 ∧ (Sb (FIN g N F b) = false → ∀ t, t < Sn (bfi g N F b i) → sAS (SR g (mA b) (ar g (146 * t)) J) (LBm g N F (FIN g N F b) t))) ∧
  ∀ s x, s < Sn (bfi g N F b i) → x < 24 → 24 * s + x < i → J (mG b) (24 * s + x) = Sm (bfi g N F b i) s x
/-- a kernel and its closure -/
theorem EQ_iff {K C : AS} (hg : GR g) (hK : ∀ p k y, K p k y → (1 ≤ k ∨ (p = 24 ∧ k = 0)) ∧ (b = true → y = 9)) (hC : ∀ p k y, C p k y → 1 ≤ k ∧ (b = true → y = 9)) {R R' : AS} (h1 : ROK b R (CL g N F K)) (h2 : ROK b R' (CL g N F C)) : EQt b R R' ↔ K = C := by
  have hRC : ∀ {R K : AS}, ROK b R (CL g N F K) → ∀ p k y, (b = true → y = 9) → (R p k y ↔ CL g N F K p k y) := fun {R K} h p k y hy => by
    cases b with
    | false => rw [h.1 rfl]
    | true => rw [hy rfl]; exact h.2 rfl p k
  constructor
  · intro h
    have h' : ∀ p k y, (b = true → y = 9) → (CL g N F K p k y ↔ CL g N F C p k y) := fun p k y hy => by rw [← hRC h1 p k y hy, ← hRC h2 p k y hy]; exact h p k y hy
    funext p k y
    apply propext
    constructor
    · intro z
      obtain ⟨z1, z2⟩ := hK p k y z
      have z3 := (h' p k y z2).mp (CL_sub p k y z)
      exact (CL_kern hg (by rcases z1 with w | ⟨w, -⟩ <;> omega)).mp z3
    · intro z
      obtain ⟨z1, z2⟩ := hC p k y z
      have z3 := (h' p k y z2).mpr (CL_sub p k y z)
      exact (CL_kern hg (Or.inl z1)).mp z3
  · intro h p k y hy
    rw [hRC h1 p k y hy, hRC h2 p k y hy, h]
end RP_
