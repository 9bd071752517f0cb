/-! ===== calls: the other grammar's rules are brought ===== -/
section BRG
variable {n u : Nat} {L : Nat → Nat → Int}
theorem br_7 (x : Int) {N : Nat} (hN : N ≤ 24) {J0 : Nat → Nat → Int} (h13 : J0 161 13 = (N : Int)) : ∀ (m f k : Nat) (J : Nat → Nat → Int), N = k + m → m < f → Fr [189] J0 J → (∀ j, j < k → J 189 j = J0 173 j) →
    ∃ J', l_X12_bring_7 n f 161 x (N : Int) (k : Int) (hp u J L) = b_X12_bring_33 n 161 x (N : Int) (hp u J' L) ∧ Fr [189] J0 J' ∧ ∀ j, j < N → J' 189 j = J0 173 j := by
  intro m
  induction m with
  | zero =>
    intro f k J hk hf hfr hv
    obtain ⟨f', rfl⟩ : ∃ f', f = f' + 1 := ⟨f - 1, by omega⟩
    have e13 : J 161 13 = (N : Int) := by rw [hfr 161 (by decide)]; exact h13
    refine ⟨J, ?_, hfr, fun j hj => hv j (by omega)⟩
    simp (disch := omega) only [l_X12_bring_7, b_X12_bring_7, ↓dhi_M, ↓dhG_M_0, ↓dhG_M_1, ↓dhG_M_2, ↓dhG_M_3, ↓dhG_M_4, ↓dhG_M_5, ↓dhG_M_6, ↓dhG_M_7, ↓dhG_M_8, ↓dhg_M_9, ↓dhq_M_9, ↓dhG_M_10, ↓dhG_M_11, ↓dhG_M_12, ↓dhg_M_13, ↓dhq_M_13, ↓dhG_M_14, ↓dhg_M_15, ↓dhq_M_15, ↓dhG_M_16, ↓dhg_M_17, ↓dhq_M_17, ↓dhg_M_18, ↓dhq_M_18, ↓dhG_M_19, ↓dhG_M_20, ↓dhG_M_21, ↓dhG_M_22, ↓dhG_M_23, ↓dhG_M_24, ↓dhg_M_25, ↓dhq_M_25, ↓dhG_M_26, ↓dhG_M_27, ↓dhG_M_28, ↓dhg_M_29, ↓dhq_M_29, ↓dhG_M_30, ↓dhG_M_31, ↓dhg_M_32, ↓dhq_M_32, ↓dhg_M_33, ↓dhq_M_33, ↓dhg_M_34, ↓dhq_M_34, ↓dhg_M_35, ↓dhq_M_35, ↓dhG_M_36, ↓dhG_M_37, ↓dhg_M_38, ↓dhq_M_38, ↓dhg_M_39, ↓dhq_M_39, ↓dhG_M_40, ↓dhG_M_41, ↓dhG_M_42, ↓dhG_M_43, ↓dhg_M_44, ↓dhq_M_44, Option.bind_some, ↓nm_eq, ↓sm_inl, ↓sm_inr, ↓dzo_0, ↓dzo_1, ↓drg_ok, ↓if_pos, ↓if_neg, if_pos, if_neg, if_true, if_false, Int.toNat_natCast, rg_ok, e13]
  | succ m ih =>
    intro f k J hk hf hfr hv
    obtain ⟨f', rfl⟩ : ∃ f', f = f' + 1 := ⟨f - 1, by omega⟩
    have e13 : J 161 13 = (N : Int) := by rw [hfr 161 (by decide)]; exact h13
    have ek : (k : Int) + 1 = ((k + 1 : Nat) : Int) := rfl
    obtain ⟨J', e, q⟩ := ih f' (k + 1) (gx_u J 189 k (J 173 k)) (by omega) (by omega) (hfr.wr (by simp)) (fun j hj => by
      by_cases c : j = k
      · subst c; rw [gu_same, hfr 173 (by decide)]
      · rw [gu_at_ne c]; exact hv j (by omega))
    refine ⟨J', ?_, q⟩
    simp (disch := omega) only [l_X12_bring_7, b_X12_bring_7, ↓dhi_M, ↓dhG_M_0, ↓dhG_M_1, ↓dhG_M_2, ↓dhG_M_3, ↓dhG_M_4, ↓dhG_M_5, ↓dhG_M_6, ↓dhG_M_7, ↓dhG_M_8, ↓dhg_M_9, ↓dhq_M_9, ↓dhG_M_10, ↓dhG_M_11, ↓dhG_M_12, ↓dhg_M_13, ↓dhq_M_13, ↓dhG_M_14, ↓dhg_M_15, ↓dhq_M_15, ↓dhG_M_16, ↓dhg_M_17, ↓dhq_M_17, ↓dhg_M_18, ↓dhq_M_18, ↓dhG_M_19, ↓dhG_M_20, ↓dhG_M_21, ↓dhG_M_22, ↓dhG_M_23, ↓dhG_M_24, ↓dhg_M_25, ↓dhq_M_25, ↓dhG_M_26, ↓dhG_M_27, ↓dhG_M_28, ↓dhg_M_29, ↓dhq_M_29, ↓dhG_M_30, ↓dhG_M_31, ↓dhg_M_32, ↓dhq_M_32, ↓dhg_M_33, ↓dhq_M_33, ↓dhg_M_34, ↓dhq_M_34, ↓dhg_M_35, ↓dhq_M_35, ↓dhG_M_36, ↓dhG_M_37, ↓dhg_M_38, ↓dhq_M_38, ↓dhg_M_39, ↓dhq_M_39, ↓dhG_M_40, ↓dhG_M_41, ↓dhG_M_42, ↓dhG_M_43, ↓dhg_M_44, ↓dhq_M_44, ↓dha_173, ↓dhs_173, ↓dhl_173, ↓dha_189, ↓dhs_189, ↓dhl_189, Option.bind_some, ↓nm_eq, ↓sm_inl, ↓sm_inr, ↓dzo_0, ↓dzo_1, ↓drg_ok, ↓if_pos, ↓if_neg, if_pos, if_neg, if_true, if_false, Int.toNat_natCast, rg_ok, e13, ek]
    exact e
theorem br_67 (a b : Int) {N : Nat} (hN : N ≤ 24) {J0 : Nat → Nat → Int} (h13 : J0 161 13 = (N : Int)) : ∀ (m f k : Nat) (J : Nat → Nat → Int), N = k + m → m < f → Fr [173] J0 J → (∀ j, j < k → J 173 j = J0 189 j) →
    ∃ J', l_X12_bring_67 n f 161 a b (k : Int) (hp u J L) = b_X12_bring_96 n 161 a b (hp u J' L) ∧ Fr [173] J0 J' ∧ ∀ j, j < N → J' 173 j = J0 189 j := by
  intro m
  induction m with
  | zero =>
    intro f k J hk hf hfr hv
    obtain ⟨f', rfl⟩ : ∃ f', f = f' + 1 := ⟨f - 1, by omega⟩
    have e13 : J 161 13 = (N : Int) := by rw [hfr 161 (by decide)]; exact h13
    refine ⟨J, ?_, hfr, fun j hj => hv j (by omega)⟩
    simp (disch := omega) only [l_X12_bring_67, b_X12_bring_67, ↓dhi_M, ↓dhG_M_0, ↓dhG_M_1, ↓dhG_M_2, ↓dhG_M_3, ↓dhG_M_4, ↓dhG_M_5, ↓dhG_M_6, ↓dhG_M_7, ↓dhG_M_8, ↓dhg_M_9, ↓dhq_M_9, ↓dhG_M_10, ↓dhG_M_11, ↓dhG_M_12, ↓dhg_M_13, ↓dhq_M_13, ↓dhG_M_14, ↓dhg_M_15, ↓dhq_M_15, ↓dhG_M_16, ↓dhg_M_17, ↓dhq_M_17, ↓dhg_M_18, ↓dhq_M_18, ↓dhG_M_19, ↓dhG_M_20, ↓dhG_M_21, ↓dhG_M_22, ↓dhG_M_23, ↓dhG_M_24, ↓dhg_M_25, ↓dhq_M_25, ↓dhG_M_26, ↓dhG_M_27, ↓dhG_M_28, ↓dhg_M_29, ↓dhq_M_29, ↓dhG_M_30, ↓dhG_M_31, ↓dhg_M_32, ↓dhq_M_32, ↓dhg_M_33, ↓dhq_M_33, ↓dhg_M_34, ↓dhq_M_34, ↓dhg_M_35, ↓dhq_M_35, ↓dhG_M_36, ↓dhG_M_37, ↓dhg_M_38, ↓dhq_M_38, ↓dhg_M_39, ↓dhq_M_39, ↓dhG_M_40, ↓dhG_M_41, ↓dhG_M_42, ↓dhG_M_43, ↓dhg_M_44, ↓dhq_M_44, Option.bind_some, ↓nm_eq, ↓sm_inl, ↓sm_inr, ↓dzo_0, ↓dzo_1, ↓drg_ok, ↓if_pos, ↓if_neg, if_pos, if_neg, if_true, if_false, Int.toNat_natCast, rg_ok, e13]
  | succ m ih =>
    intro f k J hk hf hfr hv
    obtain ⟨f', rfl⟩ : ∃ f', f = f' + 1 := ⟨f - 1, by omega⟩
    have e13 : J 161 13 = (N : Int) := by rw [hfr 161 (by decide)]; exact h13
    have ek : (k : Int) + 1 = ((k + 1 : Nat) : Int) := rfl
    obtain ⟨J', e, q⟩ := ih f' (k + 1) (gx_u J 173 k (J 189 k)) (by omega) (by omega) (hfr.wr (by simp)) (fun j hj => by
      by_cases c : j = k
      · subst c; rw [gu_same, hfr 189 (by decide)]
      · rw [gu_at_ne c]; exact hv j (by omega))
    refine ⟨J', ?_, q⟩
    simp (disch := omega) only [l_X12_bring_67, b_X12_bring_67, ↓dhi_M, ↓dhG_M_0, ↓dhG_M_1, ↓dhG_M_2, ↓dhG_M_3, ↓dhG_M_4, ↓dhG_M_5, ↓dhG_M_6, ↓dhG_M_7, ↓dhG_M_8, ↓dhg_M_9, ↓dhq_M_9, ↓dhG_M_10, ↓dhG_M_11, ↓dhG_M_12, ↓dhg_M_13, ↓dhq_M_13, ↓dhG_M_14, ↓dhg_M_15, ↓dhq_M_15, ↓dhG_M_16, ↓dhg_M_17, ↓dhq_M_17, ↓dhg_M_18, ↓dhq_M_18, ↓dhG_M_19, ↓dhG_M_20, ↓dhG_M_21, ↓dhG_M_22, ↓dhG_M_23, ↓dhG_M_24, ↓dhg_M_25, ↓dhq_M_25, ↓dhG_M_26, ↓dhG_M_27, ↓dhG_M_28, ↓dhg_M_29, ↓dhq_M_29, ↓dhG_M_30, ↓dhG_M_31, ↓dhg_M_32, ↓dhq_M_32, ↓dhg_M_33, ↓dhq_M_33, ↓dhg_M_34, ↓dhq_M_34, ↓dhg_M_35, ↓dhq_M_35, ↓dhG_M_36, ↓dhG_M_37, ↓dhg_M_38, ↓dhq_M_38, ↓dhg_M_39, ↓dhq_M_39, ↓dhG_M_40, ↓dhG_M_41, ↓dhG_M_42, ↓dhG_M_43, ↓dhg_M_44, ↓dhq_M_44, ↓dha_173, ↓dhs_173, ↓dhl_173, ↓dha_189, ↓dhs_189, ↓dhl_189, Option.bind_some, ↓nm_eq, ↓sm_inl, ↓sm_inr, ↓dzo_0, ↓dzo_1, ↓drg_ok, ↓if_pos, ↓if_neg, if_pos, if_neg, if_true, if_false, Int.toNat_natCast, rg_ok, e13, ek]
    exact e
/-- the text is laid back and the answer given -/
theorem br_57 (hn : 1000000000000000000000000000000 ≤ n) (a b : Int) {t : List Int} {J : Nat → Nat → Int} (ht : t.length ≤ 24) (htk : ∀ j, j < t.length → tk (tl t j) ≠ 8) (hv : ∀ j, j < t.length → J 189 j = tl t j) :
    ∃ J', b_X12_bring_57 n 161 (t.length : Int) a b (hp u J L) = b_X12_bring_96 n 161 a b (hp u J' L) ∧ Fr [161, 173] J J' ∧ (∀ k, k ≠ 13 → J' 161 k = J 161 k) ∧ RT J' t := by
  obtain ⟨J', e, f, q⟩ := br_67 (n := n) (u := u) (L := L) a b (N := t.length) ht (J0 := gx_u J 161 13 (t.length : Int)) (gu_same _ _ _ _) t.length n 0 (gx_u J 161 13 (t.length : Int)) (by omega) (by omega) Fr.rf (fun j hj => absurd hj (by omega))
  refine ⟨J', ?_, fun z hz => by rw [f z (by simp at hz ⊢; omega), gu_ne (by simp at hz; omega)], fun k hk => by rw [f 161 (by decide), gu_at_ne hk], ?_, fun j hj => ?_, ht, htk⟩
  · simp (disch := omega) only [b_X12_bring_57, ↓dhi_M, ↓dhG_M_0, ↓dhG_M_1, ↓dhG_M_2, ↓dhG_M_3, ↓dhG_M_4, ↓dhG_M_5, ↓dhG_M_6, ↓dhG_M_7, ↓dhG_M_8, ↓dhg_M_9, ↓dhq_M_9, ↓dhG_M_10, ↓dhG_M_11, ↓dhG_M_12, ↓dhg_M_13, ↓dhq_M_13, ↓dhG_M_14, ↓dhg_M_15, ↓dhq_M_15, ↓dhG_M_16, ↓dhg_M_17, ↓dhq_M_17, ↓dhg_M_18, ↓dhq_M_18, ↓dhG_M_19, ↓dhG_M_20, ↓dhG_M_21, ↓dhG_M_22, ↓dhG_M_23, ↓dhG_M_24, ↓dhg_M_25, ↓dhq_M_25, ↓dhG_M_26, ↓dhG_M_27, ↓dhG_M_28, ↓dhg_M_29, ↓dhq_M_29, ↓dhG_M_30, ↓dhG_M_31, ↓dhg_M_32, ↓dhq_M_32, ↓dhg_M_33, ↓dhq_M_33, ↓dhg_M_34, ↓dhq_M_34, ↓dhg_M_35, ↓dhq_M_35, ↓dhG_M_36, ↓dhG_M_37, ↓dhg_M_38, ↓dhq_M_38, ↓dhg_M_39, ↓dhq_M_39, ↓dhG_M_40, ↓dhG_M_41, ↓dhG_M_42, ↓dhG_M_43, ↓dhg_M_44, ↓dhq_M_44, Option.bind_some, ↓nm_eq, ↓sm_inl, ↓sm_inr, ↓dzo_0, ↓dzo_1, ↓drg_ok, ↓if_pos, ↓if_neg, if_pos, if_neg, if_true, if_false, Int.toNat_natCast, rg_ok]
    exact e
  · rw [f 161 (by decide), gu_same]
  · rw [q j hj, gu_ne (by decide)]; exact hv j hj
theorem bring_b (hn : 1000000000000000000000000000000 ≤ n) {x : Int} (hx : gi_ok x) (hx2 : x < 0 ∨ 8 ≤ x) {t : List Int} {J : Nat → Nat → Int} (rT : RT J t) : ∃ J', f_X12_bring n 161 x (hp u J L) = some (0, hp u J' L) ∧ Fr [161, 173, 189] J J' ∧ (∀ k, k ≠ 44 → J' 161 k = J 161 k) ∧ J' 161 44 = 1 ∧ RT J' t := by
  have h13 := rT.1
  obtain ⟨J1, e1, f1, q1⟩ := br_7 (n := n) (u := u) (L := L) x (N := t.length) rT.2.2.1 h13 t.length n 0 J (by omega) (by have := rT.2.2.1; omega) Fr.rf (fun j hj => absurd hj (by omega))
  obtain ⟨J2, e2, f2, m2, r2⟩ := br_57 (n := n) (u := u) (L := L) hn 0 0 (J := J1) rT.2.2.1 rT.2.2.2 (fun j hj => by rw [q1 j hj]; exact rT.2.1 j hj)
  refine ⟨gx_u J2 161 44 1, ?_, fun z hz => ?_, fun k hk => ?_, gu_same _ _ _ _, r2.fr (gu_at_ne (by decide)) (gu_ne (by decide))⟩
  · have e1' : l_X12_bring_7 n n 161 x (t.length : Int) 0 (hp u J L) = _ := e1
    simp (disch := omega) only [f_X12_bring, ↓dhi_M, ↓dhG_M_0, ↓dhG_M_1, ↓dhG_M_2, ↓dhG_M_3, ↓dhG_M_4, ↓dhG_M_5, ↓dhG_M_6, ↓dhG_M_7, ↓dhG_M_8, ↓dhg_M_9, ↓dhq_M_9, ↓dhG_M_10, ↓dhG_M_11, ↓dhG_M_12, ↓dhg_M_13, ↓dhq_M_13, ↓dhG_M_14, ↓dhg_M_15, ↓dhq_M_15, ↓dhG_M_16, ↓dhg_M_17, ↓dhq_M_17, ↓dhg_M_18, ↓dhq_M_18, ↓dhG_M_19, ↓dhG_M_20, ↓dhG_M_21, ↓dhG_M_22, ↓dhG_M_23, ↓dhG_M_24, ↓dhg_M_25, ↓dhq_M_25, ↓dhG_M_26, ↓dhG_M_27, ↓dhG_M_28, ↓dhg_M_29, ↓dhq_M_29, ↓dhG_M_30, ↓dhG_M_31, ↓dhg_M_32, ↓dhq_M_32, ↓dhg_M_33, ↓dhq_M_33, ↓dhg_M_34, ↓dhq_M_34, ↓dhg_M_35, ↓dhq_M_35, ↓dhG_M_36, ↓dhG_M_37, ↓dhg_M_38, ↓dhq_M_38, ↓dhg_M_39, ↓dhq_M_39, ↓dhG_M_40, ↓dhG_M_41, ↓dhG_M_42, ↓dhG_M_43, ↓dhg_M_44, ↓dhq_M_44, Option.bind_some, ↓nm_eq, ↓sm_inl, ↓sm_inr, ↓dzo_0, ↓dzo_1, ↓drg_ok, ↓if_pos, ↓if_neg, if_pos, if_neg, if_true, if_false, Int.toNat_natCast, rg_ok, h13, e1']
    simp (disch := omega) only [b_X12_bring_33, b_X12_bring_56, ↓dhi_M, ↓dhG_M_0, ↓dhG_M_1, ↓dhG_M_2, ↓dhG_M_3, ↓dhG_M_4, ↓dhG_M_5, ↓dhG_M_6, ↓dhG_M_7, ↓dhG_M_8, ↓dhg_M_9, ↓dhq_M_9, ↓dhG_M_10, ↓dhG_M_11, ↓dhG_M_12, ↓dhg_M_13, ↓dhq_M_13, ↓dhG_M_14, ↓dhg_M_15, ↓dhq_M_15, ↓dhG_M_16, ↓dhg_M_17, ↓dhq_M_17, ↓dhg_M_18, ↓dhq_M_18, ↓dhG_M_19, ↓dhG_M_20, ↓dhG_M_21, ↓dhG_M_22, ↓dhG_M_23, ↓dhG_M_24, ↓dhg_M_25, ↓dhq_M_25, ↓dhG_M_26, ↓dhG_M_27, ↓dhG_M_28, ↓dhg_M_29, ↓dhq_M_29, ↓dhG_M_30, ↓dhG_M_31, ↓dhg_M_32, ↓dhq_M_32, ↓dhg_M_33, ↓dhq_M_33, ↓dhg_M_34, ↓dhq_M_34, ↓dhg_M_35, ↓dhq_M_35, ↓dhG_M_36, ↓dhG_M_37, ↓dhg_M_38, ↓dhq_M_38, ↓dhg_M_39, ↓dhq_M_39, ↓dhG_M_40, ↓dhG_M_41, ↓dhG_M_42, ↓dhG_M_43, ↓dhg_M_44, ↓dhq_M_44, Option.bind_some, ↓nm_eq, ↓sm_inl, ↓sm_inr, ↓dzo_0, ↓dzo_1, ↓drg_ok, ↓if_pos, ↓if_neg, if_pos, if_neg, if_true, if_false, Int.toNat_natCast, rg_ok, ↓bnd (isB_0 (m := 8) hx2 hx (by omega) _), e2]
    simp (disch := omega) only [b_X12_bring_96, ↓dhi_M, ↓dhG_M_0, ↓dhG_M_1, ↓dhG_M_2, ↓dhG_M_3, ↓dhG_M_4, ↓dhG_M_5, ↓dhG_M_6, ↓dhG_M_7, ↓dhG_M_8, ↓dhg_M_9, ↓dhq_M_9, ↓dhG_M_10, ↓dhG_M_11, ↓dhG_M_12, ↓dhg_M_13, ↓dhq_M_13, ↓dhG_M_14, ↓dhg_M_15, ↓dhq_M_15, ↓dhG_M_16, ↓dhg_M_17, ↓dhq_M_17, ↓dhg_M_18, ↓dhq_M_18, ↓dhG_M_19, ↓dhG_M_20, ↓dhG_M_21, ↓dhG_M_22, ↓dhG_M_23, ↓dhG_M_24, ↓dhg_M_25, ↓dhq_M_25, ↓dhG_M_26, ↓dhG_M_27, ↓dhG_M_28, ↓dhg_M_29, ↓dhq_M_29, ↓dhG_M_30, ↓dhG_M_31, ↓dhg_M_32, ↓dhq_M_32, ↓dhg_M_33, ↓dhq_M_33, ↓dhg_M_34, ↓dhq_M_34, ↓dhg_M_35, ↓dhq_M_35, ↓dhG_M_36, ↓dhG_M_37, ↓dhg_M_38, ↓dhq_M_38, ↓dhg_M_39, ↓dhq_M_39, ↓dhG_M_40, ↓dhG_M_41, ↓dhG_M_42, ↓dhG_M_43, ↓dhg_M_44, ↓dhq_M_44, Option.bind_some, ↓nm_eq, ↓sm_inl, ↓sm_inr, ↓dzo_0, ↓dzo_1, ↓drg_ok, ↓if_pos, ↓if_neg, if_pos, if_neg, if_true, if_false, Int.toNat_natCast, rg_ok, ↓bnd (goes_1 0 1)]
  · rw [gu_ne (by simp at hz; omega), f2 z (by simp at hz ⊢; omega), f1 z (by simp at hz ⊢; omega)]
  · rw [gu_at_ne hk]
    by_cases c : k = 13
    · subst c; rw [r2.1, h13]
    · rw [m2 k c, f1 161 (by decide)]
theorem bring_r (hn : 1000000000000000000000000000000 ≤ n) {ps ps1 : List (Nat × List Nat)} {rs rs1 : List (Nat × List Int)} {t : List Int} {J : Nat → Nat → Int} (hu : u < 2) (hRG : RG u J ps rs) (hRO : RG (1 - u) J ps1 rs1) (e9 : J 161 9 = (u : Int)) (ha : AO ps rs) (ha1 : AO ps1 rs1) (rT : RT J t) {x : Nat} (hx : x < 8) :
    ∃ J', Fr [161, 162, 163, 164, 165, 166, 167, 168, 169, 173, 174, 189] J J' ∧ (∀ k, k ≠ 15 → k ≠ 33 → k ≠ 34 → k ≠ 35 → k ≠ 44 → J' 161 k = J 161 k) ∧ (J' 161 33 = 0 ∧ J' 161 34 = 0 ∧ J' 161 35 = 0) ∧ RT J' t ∧ RG (1 - u) J' ps1 rs1 ∧
    ((∃ q, brl (x : Int) rs1 ps rs = some q ∧ f_X12_bring n 161 (x : Int) (hp u J L) = some ((rs1.length : Int), hp u J' L) ∧ RG u J' q.1 q.2 ∧ J' 161 44 = 0) ∨
    (brl (x : Int) rs1 ps rs = none ∧ f_X12_bring n 161 (x : Int) (hp u J L) = some (0, hp u J' L) ∧ RG u J' ps rs ∧ J' 161 44 = 2)) := by
  have h13 := rT.1
  have hl := rT.2.2.1
  obtain ⟨J1, e1, f1, q1⟩ := br_7 (n := n) (u := u) (L := L) (x : Int) (N := t.length) hl h13 t.length n 0 J (by omega) (by omega) Fr.rf (fun j hj => absurd hj (by omega))
  have e1' : f_X12_bring n 161 (x : Int) (hp u J L) = b_X12_bring_33 n 161 (x : Int) (t.length : Int) (hp u J1 L) := by
    have e1' : l_X12_bring_7 n n 161 (x : Int) (t.length : Int) 0 (hp u J L) = _ := e1
    simp (disch := omega) only [f_X12_bring, ↓dhi_M, ↓dhG_M_0, ↓dhG_M_1, ↓dhG_M_2, ↓dhG_M_3, ↓dhG_M_4, ↓dhG_M_5, ↓dhG_M_6, ↓dhG_M_7, ↓dhG_M_8, ↓dhg_M_9, ↓dhq_M_9, ↓dhG_M_10, ↓dhG_M_11, ↓dhG_M_12, ↓dhg_M_13, ↓dhq_M_13, ↓dhG_M_14, ↓dhg_M_15, ↓dhq_M_15, ↓dhG_M_16, ↓dhg_M_17, ↓dhq_M_17, ↓dhg_M_18, ↓dhq_M_18, ↓dhG_M_19, ↓dhG_M_20, ↓dhG_M_21, ↓dhG_M_22, ↓dhG_M_23, ↓dhG_M_24, ↓dhg_M_25, ↓dhq_M_25, ↓dhG_M_26, ↓dhG_M_27, ↓dhG_M_28, ↓dhg_M_29, ↓dhq_M_29, ↓dhG_M_30, ↓dhG_M_31, ↓dhg_M_32, ↓dhq_M_32, ↓dhg_M_33, ↓dhq_M_33, ↓dhg_M_34, ↓dhq_M_34, ↓dhg_M_35, ↓dhq_M_35, ↓dhG_M_36, ↓dhG_M_37, ↓dhg_M_38, ↓dhq_M_38, ↓dhg_M_39, ↓dhq_M_39, ↓dhG_M_40, ↓dhG_M_41, ↓dhG_M_42, ↓dhG_M_43, ↓dhg_M_44, ↓dhq_M_44, Option.bind_some, ↓nm_eq, ↓sm_inl, ↓sm_inr, ↓dzo_0, ↓dzo_1, ↓drg_ok, ↓if_pos, ↓if_neg, if_pos, if_neg, if_true, if_false, Int.toNat_natCast, rg_ok, h13, e1']
  have j161 : J1 161 = J 161 := f1 161 (by decide)
  have g1 : RG u J1 ps rs := hRG.use (fun a h1 h2 => f1 a (by simp; omega)) (by rw [j161, e9]; omega)
  have g2 : RG (1 - u) J1 ps1 rs1 := hRO.use (fun a h1 h2 => f1 a (by simp; omega)) (by rw [j161, e9]; omega)
  have hl1 := ha1.lt
  have hl2 := g2.1.po.1
  rcases X12_bringsAll (u := u) (L := L) hn g1 (by rw [j161]; exact e9) ha g2 ha1 (sh := (x : Int)) (by omega) with ⟨q, J2, hb, e2, r1, -, r2, f2, m2, g33⟩ | ⟨hb, J2, e2, r1, r2, f2, m2, g33⟩
  · obtain ⟨J3, e3, f3, m3, rt3⟩ := br_57 (n := n) (u := u) (L := L) hn 1 1 (J := J2) hl rT.2.2.2 (fun j hj => by rw [f2 189 (by decide), q1 j hj]; exact rT.2.1 j hj)
    have e9' : J3 161 9 = (u : Int) := by rw [m3 9 (by decide), m2 9 (by decide) (by decide) (by decide) (by decide) (by decide), j161]; exact e9
    have e9g : gx_u J3 161 44 0 161 9 = (u : Int) := by rw [gu_at_ne (by decide)]; exact e9'
    have fa : ∀ a, 162 ≤ a → a ≤ 170 → gx_u J3 161 44 0 a = J2 a := fun a h1 h2 => by rw [gu_ne (by omega), f3 a (by simp; omega)]
    have e166 : gx_u J3 161 44 0 166 (1 - u) = (rs1.length : Int) := by rw [fa 166 (by decide) (by decide)]; exact r2.2.1
    have eu : (1 : Int) - (u : Int) = ((1 - u : Nat) : Int) := by omega
    refine ⟨gx_u J3 161 44 0, fun z hz => ?_, fun k h1 h2 h3 h4 h5 => ?_, ?_, rt3.fr (gu_at_ne (by decide)) (gu_ne (by decide)), r2.use fa (by rw [e9g]; omega), Or.inl ⟨q, hb, ?_, r1.use fa (by rw [e9g]; omega), gu_same _ _ _ _⟩⟩
    · rw [gu_ne (by simp at hz; omega), f3 z (by simp at hz ⊢; omega), f2 z (by simp at hz ⊢; omega), f1 z (by simp at hz ⊢; omega)]
    · rw [gu_at_ne h5]
      by_cases c : k = 13
      · subst c; rw [rt3.1, h13]
      · rw [m3 k c, m2 k c h1 h2 h3 h4, j161]
    · rw [gu_at_ne (by decide), gu_at_ne (by decide), gu_at_ne (by decide), m3 33 (by decide), m3 34 (by decide), m3 35 (by decide)]; exact g33
    · rw [e1']
      simp (disch := omega) only [b_X12_bring_33, b_X12_bring_56, ↓dhi_M, ↓dhG_M_0, ↓dhG_M_1, ↓dhG_M_2, ↓dhG_M_3, ↓dhG_M_4, ↓dhG_M_5, ↓dhG_M_6, ↓dhG_M_7, ↓dhG_M_8, ↓dhg_M_9, ↓dhq_M_9, ↓dhG_M_10, ↓dhG_M_11, ↓dhG_M_12, ↓dhg_M_13, ↓dhq_M_13, ↓dhG_M_14, ↓dhg_M_15, ↓dhq_M_15, ↓dhG_M_16, ↓dhg_M_17, ↓dhq_M_17, ↓dhg_M_18, ↓dhq_M_18, ↓dhG_M_19, ↓dhG_M_20, ↓dhG_M_21, ↓dhG_M_22, ↓dhG_M_23, ↓dhG_M_24, ↓dhg_M_25, ↓dhq_M_25, ↓dhG_M_26, ↓dhG_M_27, ↓dhG_M_28, ↓dhg_M_29, ↓dhq_M_29, ↓dhG_M_30, ↓dhG_M_31, ↓dhg_M_32, ↓dhq_M_32, ↓dhg_M_33, ↓dhq_M_33, ↓dhg_M_34, ↓dhq_M_34, ↓dhg_M_35, ↓dhq_M_35, ↓dhG_M_36, ↓dhG_M_37, ↓dhg_M_38, ↓dhq_M_38, ↓dhg_M_39, ↓dhq_M_39, ↓dhG_M_40, ↓dhG_M_41, ↓dhG_M_42, ↓dhG_M_43, ↓dhg_M_44, ↓dhq_M_44, Option.bind_some, ↓nm_eq, ↓sm_inl, ↓sm_inr, ↓dzo_0, ↓dzo_1, ↓drg_ok, ↓if_pos, ↓if_neg, if_pos, if_neg, if_true, if_false, Int.toNat_natCast, rg_ok, ↓bnd e2, ↓bnd (isB_1 (x := (x : Int)) (m := 8) (by omega) (by omega) _), e3]
      simp (disch := omega) only [b_X12_bring_96, ↓dhi_M, ↓dhG_M_0, ↓dhG_M_1, ↓dhG_M_2, ↓dhG_M_3, ↓dhG_M_4, ↓dhG_M_5, ↓dhG_M_6, ↓dhG_M_7, ↓dhG_M_8, ↓dhg_M_9, ↓dhq_M_9, ↓dhG_M_10, ↓dhG_M_11, ↓dhG_M_12, ↓dhg_M_13, ↓dhq_M_13, ↓dhG_M_14, ↓dhg_M_15, ↓dhq_M_15, ↓dhG_M_16, ↓dhg_M_17, ↓dhq_M_17, ↓dhg_M_18, ↓dhq_M_18, ↓dhG_M_19, ↓dhG_M_20, ↓dhG_M_21, ↓dhG_M_22, ↓dhG_M_23, ↓dhG_M_24, ↓dhg_M_25, ↓dhq_M_25, ↓dhG_M_26, ↓dhG_M_27, ↓dhG_M_28, ↓dhg_M_29, ↓dhq_M_29, ↓dhG_M_30, ↓dhG_M_31, ↓dhg_M_32, ↓dhq_M_32, ↓dhg_M_33, ↓dhq_M_33, ↓dhg_M_34, ↓dhq_M_34, ↓dhg_M_35, ↓dhq_M_35, ↓dhG_M_36, ↓dhG_M_37, ↓dhg_M_38, ↓dhq_M_38, ↓dhg_M_39, ↓dhq_M_39, ↓dhG_M_40, ↓dhG_M_41, ↓dhG_M_42, ↓dhG_M_43, ↓dhg_M_44, ↓dhq_M_44, ↓dha_166, ↓dhs_166, ↓dhl_166, Option.bind_some, ↓nm_eq, ↓sm_inl, ↓sm_inr, ↓dzo_0, ↓dzo_1, ↓drg_ok, ↓if_pos, ↓if_neg, if_pos, if_neg, if_true, if_false, Int.toNat_natCast, rg_ok, ↓bnd goes_0, e9g, eu, e166]
  · obtain ⟨J3, e3, f3, m3, rt3⟩ := br_57 (n := n) (u := u) (L := L) hn 1 0 (J := J2) hl rT.2.2.2 (fun j hj => by rw [f2 189 (by decide), q1 j hj]; exact rT.2.1 j hj)
    have e9' : J3 161 9 = (u : Int) := by rw [m3 9 (by decide), m2 9 (by decide) (by decide) (by decide) (by decide) (by decide), j161]; exact e9
    have e9g : gx_u J3 161 44 2 161 9 = (u : Int) := by rw [gu_at_ne (by decide)]; exact e9'
    have fa : ∀ a, 162 ≤ a → a ≤ 170 → gx_u J3 161 44 2 a = J2 a := fun a h1 h2 => by rw [gu_ne (by omega), f3 a (by simp; omega)]
    refine ⟨gx_u J3 161 44 2, fun z hz => ?_, fun k h1 h2 h3 h4 h5 => ?_, ?_, rt3.fr (gu_at_ne (by decide)) (gu_ne (by decide)), r2.use fa (by rw [e9g]; omega), Or.inr ⟨hb, ?_, r1.use fa (by rw [e9g]; omega), gu_same _ _ _ _⟩⟩
    · rw [gu_ne (by simp at hz; omega), f3 z (by simp at hz ⊢; omega), f2 z (by simp at hz ⊢; omega), f1 z (by simp at hz ⊢; omega)]
    · rw [gu_at_ne h5]
      by_cases c : k = 13
      · subst c; rw [rt3.1, h13]
      · rw [m3 k c, m2 k c h1 h2 h3 h4, j161]
    · rw [gu_at_ne (by decide), gu_at_ne (by decide), gu_at_ne (by decide), m3 33 (by decide), m3 34 (by decide), m3 35 (by decide)]; exact g33
    · rw [e1']
      simp (disch := omega) only [b_X12_bring_33, b_X12_bring_56, ↓dhi_M, ↓dhG_M_0, ↓dhG_M_1, ↓dhG_M_2, ↓dhG_M_3, ↓dhG_M_4, ↓dhG_M_5, ↓dhG_M_6, ↓dhG_M_7, ↓dhG_M_8, ↓dhg_M_9, ↓dhq_M_9, ↓dhG_M_10, ↓dhG_M_11, ↓dhG_M_12, ↓dhg_M_13, ↓dhq_M_13, ↓dhG_M_14, ↓dhg_M_15, ↓dhq_M_15, ↓dhG_M_16, ↓dhg_M_17, ↓dhq_M_17, ↓dhg_M_18, ↓dhq_M_18, ↓dhG_M_19, ↓dhG_M_20, ↓dhG_M_21, ↓dhG_M_22, ↓dhG_M_23, ↓dhG_M_24, ↓dhg_M_25, ↓dhq_M_25, ↓dhG_M_26, ↓dhG_M_27, ↓dhG_M_28, ↓dhg_M_29, ↓dhq_M_29, ↓dhG_M_30, ↓dhG_M_31, ↓dhg_M_32, ↓dhq_M_32, ↓dhg_M_33, ↓dhq_M_33, ↓dhg_M_34, ↓dhq_M_34, ↓dhg_M_35, ↓dhq_M_35, ↓dhG_M_36, ↓dhG_M_37, ↓dhg_M_38, ↓dhq_M_38, ↓dhg_M_39, ↓dhq_M_39, ↓dhG_M_40, ↓dhG_M_41, ↓dhG_M_42, ↓dhG_M_43, ↓dhg_M_44, ↓dhq_M_44, Option.bind_some, ↓nm_eq, ↓sm_inl, ↓sm_inr, ↓dzo_0, ↓dzo_1, ↓drg_ok, ↓if_pos, ↓if_neg, if_pos, if_neg, if_true, if_false, Int.toNat_natCast, rg_ok, ↓bnd e2, ↓bnd (isB_1 (x := (x : Int)) (m := 8) (by omega) (by omega) _), e3]
      simp (disch := omega) only [b_X12_bring_96, ↓dhi_M, ↓dhG_M_0, ↓dhG_M_1, ↓dhG_M_2, ↓dhG_M_3, ↓dhG_M_4, ↓dhG_M_5, ↓dhG_M_6, ↓dhG_M_7, ↓dhG_M_8, ↓dhg_M_9, ↓dhq_M_9, ↓dhG_M_10, ↓dhG_M_11, ↓dhG_M_12, ↓dhg_M_13, ↓dhq_M_13, ↓dhG_M_14, ↓dhg_M_15, ↓dhq_M_15, ↓dhG_M_16, ↓dhg_M_17, ↓dhq_M_17, ↓dhg_M_18, ↓dhq_M_18, ↓dhG_M_19, ↓dhG_M_20, ↓dhG_M_21, ↓dhG_M_22, ↓dhG_M_23, ↓dhG_M_24, ↓dhg_M_25, ↓dhq_M_25, ↓dhG_M_26, ↓dhG_M_27, ↓dhG_M_28, ↓dhg_M_29, ↓dhq_M_29, ↓dhG_M_30, ↓dhG_M_31, ↓dhg_M_32, ↓dhq_M_32, ↓dhg_M_33, ↓dhq_M_33, ↓dhg_M_34, ↓dhq_M_34, ↓dhg_M_35, ↓dhq_M_35, ↓dhG_M_36, ↓dhG_M_37, ↓dhg_M_38, ↓dhq_M_38, ↓dhg_M_39, ↓dhq_M_39, ↓dhG_M_40, ↓dhG_M_41, ↓dhG_M_42, ↓dhG_M_43, ↓dhg_M_44, ↓dhq_M_44, ↓dha_166, ↓dhs_166, ↓dhl_166, Option.bind_some, ↓nm_eq, ↓sm_inl, ↓sm_inr, ↓dzo_0, ↓dzo_1, ↓drg_ok, ↓if_pos, ↓if_neg, if_pos, if_neg, if_true, if_false, Int.toNat_natCast, rg_ok, ↓bnd (goes_2 1)]
end BRG
theorem op_bring {n : Nat} {x : Int} (hn : 1000000000000000000000000000000 ≤ n) (hx : gi_ok x) : OPK (fun h => f_L_bring n 0 x 193 h) (fun h => f_X12_bring n 161 x h) := by
  intro u J L hI
  obtain ⟨ps, rs, ps1, rs1, t, lv, sd, w, nw, tp, tq, h⟩ := hI
  obtain ⟨hx1, hx2⟩ := id hx
  have hgm := gU_mem u
  have hgo : gO u ∈ [3, 87] := by rcases gUO u with ⟨-, q⟩ | ⟨-, q⟩ <;> rw [q] <;> decide
  have hne : gO u ≠ gU u := by rcases gUO u with ⟨q1, q2⟩ | ⟨q1, q2⟩ <;> omega
  have hu : u < 2 := h.1.1
  have h24 := h.r24
  have rT := h.2.2.1.2.2.2.2.2.1
  have e9 : J 161 9 = (u : Int) := h.2.2.1.2.2.1
  have hRG := h.2.2.1.1
  have n161 : ∀ a, 161 ≤ a → a < gU u ∨ gU u + 58 ≤ a := fun a ha => by rcases gUO u with ⟨q1, q2⟩ | ⟨q1, q2⟩ <;> omega
  by_cases c : x < 0 ∨ 8 ≤ x
  · obtain ⟨J2, e2, f2, m2, m44, r2⟩ := bring_b (n := n) (u := u) (L := L) hn hx c rT
    refine ⟨1, u, J, L, 0, J2, L, ?_, e2, m44, Or.inr (Or.inl rfl), by decide, fun z => absurd z (by decide), ps, rs, ps1, rs1, t, lv, sd, w, nw, tp, tq, ?_⟩
    · by_cases c1 : x < 0
      · simp (disch := omega) only [f_L_bring, f_X11_bring, b_X11_bring_10, ↓dhi_X, ↓dhG_X_0, ↓dhG_X_1, ↓dhG_X_2, ↓dhg_X_3, ↓dhq_X_3, ↓dhG_X_4, ↓dhG_X_5, ↓dhG_X_6, ↓dhg_X_7, ↓dhq_X_7, ↓dhG_X_8, ↓dhG_X_9, ↓dhG_X_10, ↓dhG_X_11, ↓dhG_X_12, ↓dhG_X_13, ↓dhG_X_14, ↓dhG_X_15, ↓dhG_X_16, Option.bind_some, ↓nm_eq, ↓sm_inl, ↓sm_inr, ↓dzo_0, ↓dzo_1, ↓drg_ok, ↓if_pos, ↓if_neg, if_pos, if_neg, if_true, if_false, Int.toNat_natCast, rg_ok, xI2, if_true]
      · simp (disch := omega) only [f_L_bring, f_X11_bring, b_X11_bring_10, ↓dhi_X, ↓dhG_X_0, ↓dhG_X_1, ↓dhG_X_2, ↓dhg_X_3, ↓dhq_X_3, ↓dhG_X_4, ↓dhG_X_5, ↓dhG_X_6, ↓dhg_X_7, ↓dhq_X_7, ↓dhG_X_8, ↓dhG_X_9, ↓dhG_X_10, ↓dhG_X_11, ↓dhG_X_12, ↓dhG_X_13, ↓dhG_X_14, ↓dhG_X_15, ↓dhG_X_16, Option.bind_some, ↓nm_eq, ↓sm_inl, ↓sm_inr, ↓dzo_0, ↓dzo_1, ↓drg_ok, ↓if_pos, ↓if_neg, if_pos, if_neg, if_true, if_false, Int.toNat_natCast, rg_ok, xI2, if_true]
    · have h9 := m2 9 (by decide)
      refine h.same (h.2.1.1.eq h24.1 (fun a h1 h2 => f2 a (by have := gUO u; simp; omega))) (fun a h1 h2 => f2 a (by simp; omega)) (by rw [f2 (gU u) (by have := gUO u; simp; omega)]) (hRG.use (fun a h1 h2 => f2 a (by simp; omega)) (by rw [h9, e9]; omega)) (h.2.2.1.2.1.use (fun a h1 h2 => f2 a (by simp; omega)) (by rw [h9, e9]; omega)) h9 (m2 17 (by decide)) (fun a ha => f2 a (by simp at ha ⊢; omega)) (Or.inl (fun k hk => m2 k (by omega))) r2 (fun _ _ => rfl)
  · obtain ⟨s, rfl⟩ : ∃ a : Nat, x = (a : Int) := ⟨x.toNat, by omega⟩
    have hs : s < 8 := by omega
    rcases X4_admitAll (u := u) (L := L) hn hgm hgo hne h.2.1.1 h.1.2.1 h.2.1.2.1 h.1.2.2.1 (sh := (s : Int)) (by omega) with ⟨q, J1, hb, ea, hf, hc, hA⟩ | ⟨hb, J1, ea, hf, hc⟩
    · have hl24 := hc.1.po.1
      have hl24r := hA.lt
      have ef := X11_forget (u := u) (I := J1) (L := L)
      obtain ⟨Jf, hJf⟩ : ∃ Jf, Jf = fgt J1 := ⟨_, rfl⟩
      rw [← hJf] at ef
      have hj' : ∀ a, 161 ≤ a → Jf a = J a := fun a ha => by rw [hJf, fgt_a (by omega), hf.1 a (n161 a ha)]
      have e6 : Jf (gO u) 6 = (rs1.length : Int) := by
        rw [hJf, fgt_a (by rcases gUO u with ⟨q1, q2⟩ | ⟨q1, q2⟩ <;> omega), hf.1 (gO u) (by rcases gUO u with ⟨q1, q2⟩ | ⟨q1, q2⟩ <;> omega)]
        exact h.2.1.2.1.2.1
      have er := X4_rules (u := u) (I := Jf) (L := L) hgo
      rw [e6] at er
      have rT2 : RT Jf t := rT.fr (by rw [hj' 161 (by decide)]) (hj' 173 (by decide))
      have rG2 : RG u Jf ps rs := hRG.use (fun a h1 h2 => hj' a (by omega)) (by rw [hj' 161 (by decide), e9]; omega)
      have rO2 : RG (1 - u) Jf ps1 rs1 := h.2.2.1.2.1.use (fun a h1 h2 => hj' a (by omega)) (by rw [hj' 161 (by decide), e9]; omega)
      have e9f : Jf 161 9 = (u : Int) := by rw [hj' 161 (by decide)]; exact e9
      obtain ⟨J2, f2, m2, g33, r2, ro, hcase⟩ := bring_r (n := n) (u := u) (L := gx_u L 193 0 (rs1.length : Int)) hn hu rG2 rO2 e9f h.1.2.1 h.1.2.2.1 rT2 hs
      rcases hcase with ⟨q', hb2, e2, rg, m44⟩ | ⟨hb2, -⟩
      · have hq : q' = q := Option.some.inj (hb2.symm.trans hb)
        subst hq
        refine ⟨0, u, Jf, gx_u L 193 0 (rs1.length : Int), (rs1.length : Int), J2, gx_u L 193 0 (rs1.length : Int), ?_, e2, m44, Or.inl rfl, ⟨by omega, by omega⟩, fun _ => gu_same _ _ _ _, q'.1, q'.2, ps1, rs1, t, lv, sd, w, nw, tp, tq, ?_⟩
        · simp (disch := omega) only [f_L_bring, f_X11_bring, b_X11_bring_10, ↓dhi_X, ↓dhG_X_0, ↓dhG_X_1, ↓dhG_X_2, ↓dhg_X_3, ↓dhq_X_3, ↓dhG_X_4, ↓dhG_X_5, ↓dhG_X_6, ↓dhg_X_7, ↓dhq_X_7, ↓dhG_X_8, ↓dhG_X_9, ↓dhG_X_10, ↓dhG_X_11, ↓dhG_X_12, ↓dhG_X_13, ↓dhG_X_14, ↓dhG_X_15, ↓dhG_X_16, ↓dhi_G hgm, ↓dhG_G_0 hgm, ↓dhG_G_1 hgm, ↓dhG_G_2 hgm, ↓dhg_G_3 hgm, ↓dhq_G_3 hgm, ↓dhG_G_4 hgm, ↓dhG_G_5 hgm, ↓dhg_G_6 hgm, ↓dhq_G_6 hgm, ↓dhg_G_7 hgm, ↓dhq_G_7 hgm, ↓dhG_G_8 hgm, ↓dhG_G_9 hgm, ↓dha_G_1 hgm, ↓dhs_G_1 hgm, ↓dhl_G_1 hgm, ↓dha_G_2 hgm, ↓dhs_G_2 hgm, ↓dhl_G_2 hgm, ↓dha_G_3 hgm, ↓dhs_G_3 hgm, ↓dhl_G_3 hgm, ↓dha_G_4 hgm, ↓dhl_G_4 hgm, ↓dha_G_5 hgm, ↓dhs_G_5 hgm, ↓dhl_G_5 hgm, ↓dha_193, ↓dhs_193, ↓dhl_193, Option.bind_some, ↓nm_eq, ↓sm_inl, ↓sm_inr, ↓dzo_0, ↓dzo_1, ↓drg_ok, ↓if_pos, ↓if_neg, if_pos, if_neg, if_true, if_false, Int.toNat_natCast, rg_ok, ↓bnd ea, ↓bnd ef, ↓bnd er, ↓dhi_G hgo] <;> rfl
        · refine h.gram hA hf hc rg ro (fun a ha => by rw [f2 a (by simp; omega), hJf]) (fun a ha => ?_) ((m2 9 (by decide) (by decide) (by decide) (by decide) (by decide)).trans (by rw [hj' 161 (by decide)])) ((m2 17 (by decide) (by decide) (by decide) (by decide) (by decide)).trans (by rw [hj' 161 (by decide)])) r2 g33
          have z : a = 170 ∨ a = 171 ∨ a = 172 ∨ a = 175 := by simpa using ha
          rw [f2 a (by simp; omega), hj' a (by omega)]
      · rw [hb] at hb2; exact absurd hb2 (by simp)
    · have hj : ∀ a, 161 ≤ a → J1 a = J a := fun a ha => hf.1 a (n161 a ha)
      have rT2 : RT J1 t := rT.fr (by rw [hj 161 (by decide)]) (hj 173 (by decide))
      have rG2 : RG u J1 ps rs := hRG.use (fun a h1 h2 => hj a (by omega)) (by rw [hj 161 (by decide), e9]; omega)
      have rO2 : RG (1 - u) J1 ps1 rs1 := h.2.2.1.2.1.use (fun a h1 h2 => hj a (by omega)) (by rw [hj 161 (by decide), e9]; omega)
      have e9f : J1 161 9 = (u : Int) := by rw [hj 161 (by decide)]; exact e9
      obtain ⟨J2, f2, m2, g33, r2, ro, hcase⟩ := bring_r (n := n) (u := u) (L := L) hn hu rG2 rO2 e9f h.1.2.1 h.1.2.2.1 rT2 hs
      rcases hcase with ⟨q', hb2, -⟩ | ⟨hb2, e2, rg, m44⟩
      · rw [hb] at hb2; exact absurd hb2 (by simp)
      · refine ⟨2, u, J1, L, 0, J2, L, ?_, e2, m44, Or.inr (Or.inr rfl), by decide, fun z => absurd z (by decide), ps, rs, ps1, rs1, t, lv, sd, w, nw, tp, tq, ?_⟩
        · simp (disch := omega) only [f_L_bring, f_X11_bring, b_X11_bring_10, ↓dhi_X, ↓dhG_X_0, ↓dhG_X_1, ↓dhG_X_2, ↓dhg_X_3, ↓dhq_X_3, ↓dhG_X_4, ↓dhG_X_5, ↓dhG_X_6, ↓dhg_X_7, ↓dhq_X_7, ↓dhG_X_8, ↓dhG_X_9, ↓dhG_X_10, ↓dhG_X_11, ↓dhG_X_12, ↓dhG_X_13, ↓dhG_X_14, ↓dhG_X_15, ↓dhG_X_16, ↓dhi_G hgm, ↓dhG_G_0 hgm, ↓dhG_G_1 hgm, ↓dhG_G_2 hgm, ↓dhg_G_3 hgm, ↓dhq_G_3 hgm, ↓dhG_G_4 hgm, ↓dhG_G_5 hgm, ↓dhg_G_6 hgm, ↓dhq_G_6 hgm, ↓dhg_G_7 hgm, ↓dhq_G_7 hgm, ↓dhG_G_8 hgm, ↓dhG_G_9 hgm, ↓dha_G_1 hgm, ↓dhs_G_1 hgm, ↓dhl_G_1 hgm, ↓dha_G_2 hgm, ↓dhs_G_2 hgm, ↓dhl_G_2 hgm, ↓dha_G_3 hgm, ↓dhs_G_3 hgm, ↓dhl_G_3 hgm, ↓dha_G_4 hgm, ↓dhl_G_4 hgm, ↓dha_G_5 hgm, ↓dhs_G_5 hgm, ↓dhl_G_5 hgm, Option.bind_some, ↓nm_eq, ↓sm_inl, ↓sm_inr, ↓dzo_0, ↓dzo_1, ↓drg_ok, ↓if_pos, ↓if_neg, if_pos, if_neg, if_true, if_false, Int.toNat_natCast, rg_ok, ↓bnd ea, xI4, xI3, if_true, if_false]
        · refine h.same (hc.eq h24.1 (fun a h1 h2 => f2 a (by have := gUO u; simp; omega))) (fun a h1 h2 => by rw [f2 a (by simp; omega), hf.1 a h2]) ?_ rg ro ((m2 9 (by decide) (by decide) (by decide) (by decide) (by decide)).trans (by rw [hj 161 (by decide)])) ((m2 17 (by decide) (by decide) (by decide) (by decide) (by decide)).trans (by rw [hj 161 (by decide)])) (fun a ha => ?_) (Or.inr g33) r2 (fun _ _ => rfl)
          · rw [f2 (gU u) (by have := gUO u; simp; omega)]; exact hf.2
          · rw [f2 a (by simp at ha ⊢; omega), hj a (by simp at ha; omega)]
