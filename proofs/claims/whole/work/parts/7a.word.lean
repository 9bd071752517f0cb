/-! ===== calls: the word ===== -/
def wi (w : Nat → Nat) (p y : Nat) : Nat → Nat := fun i => if i < p then w i else if i = p then y else w (i - 1)
def wc (w : Nat → Nat) (p : Nat) : Nat → Nat := fun i => if i < p then w i else w (i + 1)
theorem SW.ins {w : Nat → Nat} {nw p y : Nat} (h : SW w nw) (hp1 : p ≤ nw) (hn : nw < 12) (hy : y < 8) : SW (wi w p y) (nw + 1) := by
  refine ⟨by omega, fun i hi => ?_, fun i hi => ?_⟩
  · unfold wi
    split
    · exact h.2.1 i (by omega)
    · split
      · exact hy
      · exact h.2.1 (i - 1) (by omega)
  · unfold wi
    rw [if_neg (by omega), if_neg (by omega)]
    exact h.2.2 (i - 1) (by omega)
theorem SW.del {w : Nat → Nat} {nw p : Nat} (h : SW w nw) (hp1 : p < nw) : SW (wc w p) (nw - 1) := by
  refine ⟨by have := h.1; omega, fun i hi => ?_, fun i hi => ?_⟩
  · unfold wc
    split
    · exact h.2.1 i (by omega)
    · exact h.2.1 (i + 1) (by omega)
  · unfold wc
    rw [if_neg (by omega)]
    exact h.2.2 (i + 1) (by omega)
section WRD
variable {n u : Nat} {w : Nat → Nat} {nw p y : Nat} {J0 L : Nat → Nat → Int}
theorem put_c (hn : nw < 12) (hy : y < 8) : ∀ (m f k : Nat) (J : Nat → Nat → Int), k = p + m → m < f → k ≤ nw → Fr [63] J0 J → (∀ i, i < 13 → J 63 i = ((if i ≤ k then w i else w (i - 1) : Nat) : Int)) → J 0 7 = (nw : Int) →
    ∃ J', l_X11_put_54 n f 0 (p : Int) (y : Int) (k : Int) (hp u J L) = some (.inl ((nw : Int) + 1), hp u J' L) ∧ Fr [0, 63] J0 J' ∧ (∀ k, k ≠ 7 → J' 0 k = J0 0 k) ∧ J' 0 7 = (nw : Int) + 1 ∧ ∀ i, i < 13 → J' 63 i = (wi w p y i : Int) := by
  intro m
  induction m with
  | zero =>
    intro f k J hk hf hle hfr hv h7
    obtain ⟨f', rfl⟩ : ∃ f', f = f' + 1 := ⟨f - 1, by omega⟩
    have hkp : k = p := by omega
    subst hkp
    have e7 : gx_u J 63 k (y : Int) 0 7 = (nw : Int) := by rw [gu_ne (by decide)]; exact h7
    have e8 : gx_u (gx_u J 63 k (y : Int)) 0 7 ((nw : Int) + 1) 0 7 = (nw : Int) + 1 := gu_same _ _ _ _
    refine ⟨gx_u (gx_u J 63 k (y : Int)) 0 7 ((nw : Int) + 1), ?_, ?_, fun j hj => ?_, e8, fun i hi => ?_⟩
    · simp (disch := omega) only [l_X11_put_54, b_X11_put_54, b_X11_put_79, ↓dhi_X, ↓dhG_X_0, ↓dhG_X_1, ↓dhG_X_2, ↓dhg_X_3, ↓dhq_X_3, ↓dhG_X_4, ↓dhG_X_5, ↓dhG_X_6, ↓dhg_X_7, ↓dhq_X_7, ↓dhG_X_8, ↓dhG_X_9, ↓dhG_X_10, ↓dhG_X_11, ↓dhG_X_12, ↓dhG_X_13, ↓dhG_X_14, ↓dhG_X_15, ↓dhG_X_16, ↓dha_63, ↓dhs_63, ↓dhl_63, Option.bind_some, ↓nm_eq, ↓sm_inl, ↓sm_inr, ↓dzo_0, ↓dzo_1, ↓drg_ok, ↓if_pos, ↓if_neg, if_pos, if_neg, if_true, if_false, Int.toNat_natCast, rg_ok, e7, e8]
    · exact ((hfr.up (fun a z => by simp at z ⊢; omega)).wr (by simp)).wr (by simp)
    · rw [gu_at_ne hj, gu_ne (by decide), hfr 0 (by decide)]
    · rw [gu_ne (by decide)]
      by_cases c : i = k
      · subst c; rw [gu_same]; unfold wi; rw [if_neg (by omega), if_pos rfl]
      · rw [gu_at_ne c, hv i hi]
        unfold wi
        by_cases c2 : i < k
        · rw [if_pos (by omega), if_pos c2]
        · rw [if_neg (by omega), if_neg c2, if_neg c]
  | succ m ih =>
    intro f k J hk hf hle hfr hv h7
    obtain ⟨f', rfl⟩ : ∃ f', f = f' + 1 := ⟨f - 1, by omega⟩
    have ek : (k : Int) - 1 = ((k - 1 : Nat) : Int) := by omega
    have ek2 : (k : Int) + (-1) = ((k - 1 : Nat) : Int) := by omega
    have ev : J 63 (k - 1) = (w (k - 1) : Int) := by rw [hv (k - 1) (by omega), if_pos (by omega)]
    obtain ⟨J', e, q⟩ := ih f' (k - 1) (gx_u J 63 k (w (k - 1) : Int)) (by omega) (by omega) (by omega) (hfr.wr (by simp)) (fun i hi => by
      by_cases c : i = k
      · subst c; rw [gu_same, if_neg (by omega)]
      · rw [gu_at_ne c, hv i hi]
        by_cases c2 : i ≤ k - 1
        · rw [if_pos (by omega), if_pos c2]
        · rw [if_neg (by omega), if_neg c2]) (by rw [gu_ne (by decide)]; exact h7)
    refine ⟨J', ?_, q⟩
    simp (disch := omega) only [l_X11_put_54, b_X11_put_54, ↓dhi_X, ↓dhG_X_0, ↓dhG_X_1, ↓dhG_X_2, ↓dhg_X_3, ↓dhq_X_3, ↓dhG_X_4, ↓dhG_X_5, ↓dhG_X_6, ↓dhg_X_7, ↓dhq_X_7, ↓dhG_X_8, ↓dhG_X_9, ↓dhG_X_10, ↓dhG_X_11, ↓dhG_X_12, ↓dhG_X_13, ↓dhG_X_14, ↓dhG_X_15, ↓dhG_X_16, ↓dha_63, ↓dhs_63, ↓dhl_63, Option.bind_some, ↓nm_eq, ↓sm_inl, ↓sm_inr, ↓dzo_0, ↓dzo_1, ↓drg_ok, ↓if_pos, ↓if_neg, if_pos, if_neg, if_true, if_false, Int.toNat_natCast, rg_ok, ek, ek2, ev]
    exact e
theorem put_r (hn : nw < 12) (hy : y < 8) : ∀ (m f k : Nat) (J : Nat → Nat → Int), k = p + m → m < f → k ≤ nw → Fr [175] J0 J → (∀ i, i < k → J 175 i = (w i : Int)) → (∀ i, k < i → i ≤ nw → J 175 i = (w (i - 1) : Int)) → J 161 17 = (nw : Int) →
    ∃ J', l_X12_put_55 n f 161 (p : Int) (y : Int) (k : Int) (hp u J L) = some ((nw : Int) + 1, hp u J' L) ∧ Fr [161, 175] J0 J' ∧ (∀ k, k ≠ 17 → J' 161 k = J0 161 k) ∧ J' 161 17 = (nw : Int) + 1 ∧ ∀ i, i < nw + 1 → J' 175 i = (wi w p y i : Int) := by
  intro m
  induction m with
  | zero =>
    intro f k J hk hf hle hfr hv hv2 h7
    obtain ⟨f', rfl⟩ : ∃ f', f = f' + 1 := ⟨f - 1, by omega⟩
    have hkp : k = p := by omega
    subst hkp
    have e7 : gx_u J 175 k (y : Int) 161 17 = (nw : Int) := by rw [gu_ne (by decide)]; exact h7
    have e8 : gx_u (gx_u J 175 k (y : Int)) 161 17 ((nw : Int) + 1) 161 17 = (nw : Int) + 1 := gu_same _ _ _ _
    refine ⟨gx_u (gx_u J 175 k (y : Int)) 161 17 ((nw : Int) + 1), ?_, ?_, fun j hj => ?_, e8, fun i hi => ?_⟩
    · simp (disch := omega) only [l_X12_put_55, b_X12_put_55, b_X12_put_80, ↓dhi_M, ↓dhG_M_0, ↓dhG_M_1, ↓dhG_M_2, ↓dhG_M_3, ↓dhG_M_4, ↓dhG_M_5, ↓dhG_M_6, ↓dhG_M_7, ↓dhG_M_8, ↓dhg_M_9, ↓dhq_M_9, ↓dhG_M_10, ↓dhG_M_11, ↓dhG_M_12, ↓dhg_M_13, ↓dhq_M_13, ↓dhG_M_14, ↓dhg_M_15, ↓dhq_M_15, ↓dhG_M_16, ↓dhg_M_17, ↓dhq_M_17, ↓dhg_M_18, ↓dhq_M_18, ↓dhG_M_19, ↓dhG_M_20, ↓dhG_M_21, ↓dhG_M_22, ↓dhG_M_23, ↓dhG_M_24, ↓dhg_M_25, ↓dhq_M_25, ↓dhG_M_26, ↓dhG_M_27, ↓dhG_M_28, ↓dhg_M_29, ↓dhq_M_29, ↓dhG_M_30, ↓dhG_M_31, ↓dhg_M_32, ↓dhq_M_32, ↓dhg_M_33, ↓dhq_M_33, ↓dhg_M_34, ↓dhq_M_34, ↓dhg_M_35, ↓dhq_M_35, ↓dhG_M_36, ↓dhG_M_37, ↓dhg_M_38, ↓dhq_M_38, ↓dhg_M_39, ↓dhq_M_39, ↓dhG_M_40, ↓dhG_M_41, ↓dhG_M_42, ↓dhG_M_43, ↓dhg_M_44, ↓dhq_M_44, ↓dha_175, ↓dhs_175, ↓dhl_175, Option.bind_some, ↓nm_eq, ↓sm_inl, ↓sm_inr, ↓dzo_0, ↓dzo_1, ↓drg_ok, ↓if_pos, ↓if_neg, if_pos, if_neg, if_true, if_false, Int.toNat_natCast, rg_ok, e7, e8]
    · exact ((hfr.up (fun a z => by simp at z ⊢; omega)).wr (by simp)).wr (by simp)
    · rw [gu_at_ne hj, gu_ne (by decide), hfr 161 (by decide)]
    · rw [gu_ne (by decide)]
      by_cases c : i = k
      · subst c; rw [gu_same]; unfold wi; rw [if_neg (by omega), if_pos rfl]
      · rw [gu_at_ne c]
        unfold wi
        by_cases c2 : i < k
        · rw [if_pos c2, hv i c2]
        · rw [if_neg c2, if_neg c, hv2 i (by omega) (by omega)]
  | succ m ih =>
    intro f k J hk hf hle hfr hv hv2 h7
    obtain ⟨f', rfl⟩ : ∃ f', f = f' + 1 := ⟨f - 1, by omega⟩
    have ek : (k : Int) - 1 = ((k - 1 : Nat) : Int) := by omega
    have ek2 : (k : Int) + (-1) = ((k - 1 : Nat) : Int) := by omega
    have ev : J 175 (k - 1) = (w (k - 1) : Int) := hv (k - 1) (by omega)
    obtain ⟨J', e, q⟩ := ih f' (k - 1) (gx_u J 175 k (w (k - 1) : Int)) (by omega) (by omega) (by omega) (hfr.wr (by simp)) (fun i hi => by rw [gu_at_ne (by omega)]; exact hv i (by omega)) (fun i h1 h2 => by
      by_cases c : i = k
      · subst c; rw [gu_same]
      · rw [gu_at_ne c]; exact hv2 i (by omega) h2) (by rw [gu_ne (by decide)]; exact h7)
    refine ⟨J', ?_, q⟩
    simp (disch := omega) only [l_X12_put_55, b_X12_put_55, ↓dhi_M, ↓dhG_M_0, ↓dhG_M_1, ↓dhG_M_2, ↓dhG_M_3, ↓dhG_M_4, ↓dhG_M_5, ↓dhG_M_6, ↓dhG_M_7, ↓dhG_M_8, ↓dhg_M_9, ↓dhq_M_9, ↓dhG_M_10, ↓dhG_M_11, ↓dhG_M_12, ↓dhg_M_13, ↓dhq_M_13, ↓dhG_M_14, ↓dhg_M_15, ↓dhq_M_15, ↓dhG_M_16, ↓dhg_M_17, ↓dhq_M_17, ↓dhg_M_18, ↓dhq_M_18, ↓dhG_M_19, ↓dhG_M_20, ↓dhG_M_21, ↓dhG_M_22, ↓dhG_M_23, ↓dhG_M_24, ↓dhg_M_25, ↓dhq_M_25, ↓dhG_M_26, ↓dhG_M_27, ↓dhG_M_28, ↓dhg_M_29, ↓dhq_M_29, ↓dhG_M_30, ↓dhG_M_31, ↓dhg_M_32, ↓dhq_M_32, ↓dhg_M_33, ↓dhq_M_33, ↓dhg_M_34, ↓dhq_M_34, ↓dhg_M_35, ↓dhq_M_35, ↓dhG_M_36, ↓dhG_M_37, ↓dhg_M_38, ↓dhq_M_38, ↓dhg_M_39, ↓dhq_M_39, ↓dhG_M_40, ↓dhG_M_41, ↓dhG_M_42, ↓dhG_M_43, ↓dhg_M_44, ↓dhq_M_44, ↓dha_175, ↓dhs_175, ↓dhl_175, Option.bind_some, ↓nm_eq, ↓sm_inl, ↓sm_inr, ↓dzo_0, ↓dzo_1, ↓drg_ok, ↓if_pos, ↓if_neg, if_pos, if_neg, if_true, if_false, Int.toNat_natCast, rg_ok, ek, ek2, ev]
    exact e
theorem cut_c (hn : nw ≤ 12) (h0 : 1 ≤ nw) (hw : SW w nw) (v : Int) : ∀ (m f k : Nat) (J : Nat → Nat → Int), 12 = k + m → m < f → p ≤ k → Fr [63] J0 J → (∀ i, i < 13 → J 63 i = ((if p ≤ i ∧ i < k then w (i + 1) else w i : Nat) : Int)) → J 0 7 = (nw : Int) →
    ∃ J', l_X11_cut_31 n f 0 v (k : Int) (hp u J L) = some (.inl v, hp u J' L) ∧ Fr [0, 63] J0 J' ∧ (∀ k, k ≠ 7 → J' 0 k = J0 0 k) ∧ J' 0 7 = ((nw - 1 : Nat) : Int) ∧ ∀ i, i < 13 → J' 63 i = (wc w p i : Int) := by
  intro m
  induction m with
  | zero =>
    intro f k J hk hf hle hfr hv h7
    obtain ⟨f', rfl⟩ : ∃ f', f = f' + 1 := ⟨f - 1, by omega⟩
    have hk12 : k = 12 := by omega
    subst hk12
    have en : (nw : Int) - 1 = ((nw - 1 : Nat) : Int) := by omega
    refine ⟨gx_u J 0 7 ((nw - 1 : Nat) : Int), ?_, ?_, fun j hj => ?_, gu_same _ _ _ _, fun i hi => ?_⟩
    · simp (disch := omega) only [l_X11_cut_31, b_X11_cut_31, b_X11_cut_59, ↓dhi_X, ↓dhG_X_0, ↓dhG_X_1, ↓dhG_X_2, ↓dhg_X_3, ↓dhq_X_3, ↓dhG_X_4, ↓dhG_X_5, ↓dhG_X_6, ↓dhg_X_7, ↓dhq_X_7, ↓dhG_X_8, ↓dhG_X_9, ↓dhG_X_10, ↓dhG_X_11, ↓dhG_X_12, ↓dhG_X_13, ↓dhG_X_14, ↓dhG_X_15, ↓dhG_X_16, ↓dha_63, ↓dhs_63, ↓dhl_63, Option.bind_some, ↓nm_eq, ↓sm_inl, ↓sm_inr, ↓dzo_0, ↓dzo_1, ↓drg_ok, ↓if_pos, ↓if_neg, if_pos, if_neg, if_true, if_false, Int.toNat_natCast, rg_ok, h7, en]
    · exact (hfr.up (fun a z => by simp at z ⊢; omega)).wr (by simp)
    · rw [gu_at_ne hj, hfr 0 (by decide)]
    · rw [gu_ne (by decide), hv i hi]
      unfold wc
      by_cases c : i < p
      · rw [if_neg (by omega), if_pos c]
      · rw [if_neg c]
        by_cases c2 : i < 12
        · rw [if_pos (by omega)]
        · rw [if_neg (by omega), hw.2.2 i (by omega), hw.2.2 (i + 1) (by omega)]
  | succ m ih =>
    intro f k J hk hf hle hfr hv h7
    obtain ⟨f', rfl⟩ : ∃ f', f = f' + 1 := ⟨f - 1, by omega⟩
    have ek : (k : Int) + 1 = ((k + 1 : Nat) : Int) := rfl
    have ev : J 63 (k + 1) = (w (k + 1) : Int) := by rw [hv (k + 1) (by omega), if_neg (by omega)]
    obtain ⟨J', e, q⟩ := ih f' (k + 1) (gx_u J 63 k (w (k + 1) : Int)) (by omega) (by omega) (by omega) (hfr.wr (by simp)) (fun i hi => by
      by_cases c : i = k
      · subst c; rw [gu_same, if_pos (by omega)]
      · rw [gu_at_ne c, hv i hi]
        by_cases c2 : p ≤ i ∧ i < k
        · rw [if_pos c2, if_pos (by omega)]
        · rw [if_neg c2, if_neg (by omega)]) (by rw [gu_ne (by decide)]; exact h7)
    refine ⟨J', ?_, q⟩
    simp (disch := omega) only [l_X11_cut_31, b_X11_cut_31, ↓dhi_X, ↓dhG_X_0, ↓dhG_X_1, ↓dhG_X_2, ↓dhg_X_3, ↓dhq_X_3, ↓dhG_X_4, ↓dhG_X_5, ↓dhG_X_6, ↓dhg_X_7, ↓dhq_X_7, ↓dhG_X_8, ↓dhG_X_9, ↓dhG_X_10, ↓dhG_X_11, ↓dhG_X_12, ↓dhG_X_13, ↓dhG_X_14, ↓dhG_X_15, ↓dhG_X_16, ↓dha_63, ↓dhs_63, ↓dhl_63, Option.bind_some, ↓nm_eq, ↓sm_inl, ↓sm_inr, ↓dzo_0, ↓dzo_1, ↓drg_ok, ↓if_pos, ↓if_neg, if_pos, if_neg, if_true, if_false, Int.toNat_natCast, rg_ok, ek, ev]
    exact e
theorem cut_r (hn : nw ≤ 11) (v : Int) : ∀ (m f k : Nat) (J : Nat → Nat → Int), nw = k + m → m < f → p ≤ k → Fr [175] J0 J → (∀ i, p ≤ i → i < k → J 175 i = (w (i + 1) : Int)) → (∀ i, i < p ∨ k ≤ i → i ≤ nw → J 175 i = (w i : Int)) → J 161 17 = (nw : Int) →
    ∃ J', l_X12_cut_38 n f 161 v (k : Int) (hp u J L) = some (v, hp u J' L) ∧ Fr [175] J0 J' ∧ ∀ i, i < nw → J' 175 i = (wc w p i : Int) := by
  intro m
  induction m with
  | zero =>
    intro f k J hk hf hle hfr hv hv2 h7
    obtain ⟨f', rfl⟩ : ∃ f', f = f' + 1 := ⟨f - 1, by omega⟩
    refine ⟨J, ?_, hfr, fun i hi => ?_⟩
    · simp (disch := omega) only [l_X12_cut_38, b_X12_cut_38, ↓dhi_M, ↓dhG_M_0, ↓dhG_M_1, ↓dhG_M_2, ↓dhG_M_3, ↓dhG_M_4, ↓dhG_M_5, ↓dhG_M_6, ↓dhG_M_7, ↓dhG_M_8, ↓dhg_M_9, ↓dhq_M_9, ↓dhG_M_10, ↓dhG_M_11, ↓dhG_M_12, ↓dhg_M_13, ↓dhq_M_13, ↓dhG_M_14, ↓dhg_M_15, ↓dhq_M_15, ↓dhG_M_16, ↓dhg_M_17, ↓dhq_M_17, ↓dhg_M_18, ↓dhq_M_18, ↓dhG_M_19, ↓dhG_M_20, ↓dhG_M_21, ↓dhG_M_22, ↓dhG_M_23, ↓dhG_M_24, ↓dhg_M_25, ↓dhq_M_25, ↓dhG_M_26, ↓dhG_M_27, ↓dhG_M_28, ↓dhg_M_29, ↓dhq_M_29, ↓dhG_M_30, ↓dhG_M_31, ↓dhg_M_32, ↓dhq_M_32, ↓dhg_M_33, ↓dhq_M_33, ↓dhg_M_34, ↓dhq_M_34, ↓dhg_M_35, ↓dhq_M_35, ↓dhG_M_36, ↓dhG_M_37, ↓dhg_M_38, ↓dhq_M_38, ↓dhg_M_39, ↓dhq_M_39, ↓dhG_M_40, ↓dhG_M_41, ↓dhG_M_42, ↓dhG_M_43, ↓dhg_M_44, ↓dhq_M_44, ↓dha_175, ↓dhs_175, ↓dhl_175, Option.bind_some, ↓nm_eq, ↓sm_inl, ↓sm_inr, ↓dzo_0, ↓dzo_1, ↓drg_ok, ↓if_pos, ↓if_neg, if_pos, if_neg, if_true, if_false, Int.toNat_natCast, rg_ok, h7]
    · unfold wc
      by_cases c : i < p
      · rw [if_pos c]; exact hv2 i (Or.inl c) (by omega)
      · rw [if_neg c]; exact hv i (by omega) (by omega)
  | succ m ih =>
    intro f k J hk hf hle hfr hv hv2 h7
    obtain ⟨f', rfl⟩ : ∃ f', f = f' + 1 := ⟨f - 1, by omega⟩
    have ek : (k : Int) + 1 = ((k + 1 : Nat) : Int) := rfl
    have ev : J 175 (k + 1) = (w (k + 1) : Int) := hv2 (k + 1) (by omega) (by omega)
    obtain ⟨J', e, q⟩ := ih f' (k + 1) (gx_u J 175 k (w (k + 1) : Int)) (by omega) (by omega) (by omega) (hfr.wr (by simp)) (fun i h1 h2 => by
      by_cases c : i = k
      · subst c; rw [gu_same]
      · rw [gu_at_ne c]; exact hv i h1 (by omega)) (fun i h1 h2 => by rw [gu_at_ne (by omega)]; exact hv2 i (by omega) h2) (by rw [gu_ne (by decide)]; exact h7)
    refine ⟨J', ?_, q⟩
    simp (disch := omega) only [l_X12_cut_38, b_X12_cut_38, ↓dhi_M, ↓dhG_M_0, ↓dhG_M_1, ↓dhG_M_2, ↓dhG_M_3, ↓dhG_M_4, ↓dhG_M_5, ↓dhG_M_6, ↓dhG_M_7, ↓dhG_M_8, ↓dhg_M_9, ↓dhq_M_9, ↓dhG_M_10, ↓dhG_M_11, ↓dhG_M_12, ↓dhg_M_13, ↓dhq_M_13, ↓dhG_M_14, ↓dhg_M_15, ↓dhq_M_15, ↓dhG_M_16, ↓dhg_M_17, ↓dhq_M_17, ↓dhg_M_18, ↓dhq_M_18, ↓dhG_M_19, ↓dhG_M_20, ↓dhG_M_21, ↓dhG_M_22, ↓dhG_M_23, ↓dhG_M_24, ↓dhg_M_25, ↓dhq_M_25, ↓dhG_M_26, ↓dhG_M_27, ↓dhG_M_28, ↓dhg_M_29, ↓dhq_M_29, ↓dhG_M_30, ↓dhG_M_31, ↓dhg_M_32, ↓dhq_M_32, ↓dhg_M_33, ↓dhq_M_33, ↓dhg_M_34, ↓dhq_M_34, ↓dhg_M_35, ↓dhq_M_35, ↓dhG_M_36, ↓dhG_M_37, ↓dhg_M_38, ↓dhq_M_38, ↓dhg_M_39, ↓dhq_M_39, ↓dhG_M_40, ↓dhG_M_41, ↓dhG_M_42, ↓dhG_M_43, ↓dhg_M_44, ↓dhq_M_44, ↓dha_175, ↓dhs_175, ↓dhl_175, Option.bind_some, ↓nm_eq, ↓sm_inl, ↓sm_inr, ↓dzo_0, ↓dzo_1, ↓drg_ok, ↓if_pos, ↓if_neg, if_pos, if_neg, if_true, if_false, Int.toNat_natCast, rg_ok, h7, ek, ev]
    exact e
end WRD
theorem op_put {n : Nat} {x y : Int} (hn : 1000000000000000000000000000000 ≤ n) (hx : gi_ok x) (hy : gi_ok y) : OPK (fun h => f_L_put n 0 x y 193 h) (fun h => f_X12_put n 161 x y h) := by
  intro u J L hI
  have hI0 := hI
  obtain ⟨ps, rs, ps1, rs1, t, lv, sd, w, nw, tp, tq, h⟩ := hI
  obtain ⟨hx1, hx2⟩ := id hx
  obtain ⟨hy1, hy2⟩ := id hy
  have hsw := h.sw
  have h12 := hsw.1
  have e07 : J 0 7 = (nw : Int) := h.2.1.2.2.2.2.2.2.2.1
  have e17 : J 161 17 = (nw : Int) := h.wse.1
  have refx : (x < 0 ∨ (nw : Int) < x) ∨ (y < 0 ∨ 8 ≤ y) → f_X12_put n 161 x y (hp u J L) = some (0, hp u (gx_u J 161 44 1) L) := by
    intro hc
    have e27 : f_X12_put n 161 x y (hp u J L) = b_X12_put_27 n 161 x y 161 0 (hp u J L) := by
      by_cases c1 : x < 0
      · simp (disch := omega) only [f_X12_put, b_X12_put_26, ↓dhi_M, ↓dhG_M_0, ↓dhG_M_1, ↓dhG_M_2, ↓dhG_M_3, ↓dhG_M_4, ↓dhG_M_5, ↓dhG_M_6, ↓dhG_M_7, ↓dhG_M_8, ↓dhg_M_9, ↓dhq_M_9, ↓dhG_M_10, ↓dhG_M_11, ↓dhG_M_12, ↓dhg_M_13, ↓dhq_M_13, ↓dhG_M_14, ↓dhg_M_15, ↓dhq_M_15, ↓dhG_M_16, ↓dhg_M_17, ↓dhq_M_17, ↓dhg_M_18, ↓dhq_M_18, ↓dhG_M_19, ↓dhG_M_20, ↓dhG_M_21, ↓dhG_M_22, ↓dhG_M_23, ↓dhG_M_24, ↓dhg_M_25, ↓dhq_M_25, ↓dhG_M_26, ↓dhG_M_27, ↓dhG_M_28, ↓dhg_M_29, ↓dhq_M_29, ↓dhG_M_30, ↓dhG_M_31, ↓dhg_M_32, ↓dhq_M_32, ↓dhg_M_33, ↓dhq_M_33, ↓dhg_M_34, ↓dhq_M_34, ↓dhg_M_35, ↓dhq_M_35, ↓dhG_M_36, ↓dhG_M_37, ↓dhg_M_38, ↓dhq_M_38, ↓dhg_M_39, ↓dhq_M_39, ↓dhG_M_40, ↓dhG_M_41, ↓dhG_M_42, ↓dhG_M_43, ↓dhg_M_44, ↓dhq_M_44, Option.bind_some, ↓nm_eq, ↓sm_inl, ↓sm_inr, ↓dzo_0, ↓dzo_1, ↓drg_ok, ↓if_pos, ↓if_neg, if_pos, if_neg, if_true, if_false, Int.toNat_natCast, rg_ok, e17]
      · by_cases c2 : (nw : Int) < x
        · simp (disch := omega) only [f_X12_put, b_X12_put_26, ↓dhi_M, ↓dhG_M_0, ↓dhG_M_1, ↓dhG_M_2, ↓dhG_M_3, ↓dhG_M_4, ↓dhG_M_5, ↓dhG_M_6, ↓dhG_M_7, ↓dhG_M_8, ↓dhg_M_9, ↓dhq_M_9, ↓dhG_M_10, ↓dhG_M_11, ↓dhG_M_12, ↓dhg_M_13, ↓dhq_M_13, ↓dhG_M_14, ↓dhg_M_15, ↓dhq_M_15, ↓dhG_M_16, ↓dhg_M_17, ↓dhq_M_17, ↓dhg_M_18, ↓dhq_M_18, ↓dhG_M_19, ↓dhG_M_20, ↓dhG_M_21, ↓dhG_M_22, ↓dhG_M_23, ↓dhG_M_24, ↓dhg_M_25, ↓dhq_M_25, ↓dhG_M_26, ↓dhG_M_27, ↓dhG_M_28, ↓dhg_M_29, ↓dhq_M_29, ↓dhG_M_30, ↓dhG_M_31, ↓dhg_M_32, ↓dhq_M_32, ↓dhg_M_33, ↓dhq_M_33, ↓dhg_M_34, ↓dhq_M_34, ↓dhg_M_35, ↓dhq_M_35, ↓dhG_M_36, ↓dhG_M_37, ↓dhg_M_38, ↓dhq_M_38, ↓dhg_M_39, ↓dhq_M_39, ↓dhG_M_40, ↓dhG_M_41, ↓dhG_M_42, ↓dhG_M_43, ↓dhg_M_44, ↓dhq_M_44, Option.bind_some, ↓nm_eq, ↓sm_inl, ↓sm_inr, ↓dzo_0, ↓dzo_1, ↓drg_ok, ↓if_pos, ↓if_neg, if_pos, if_neg, if_true, if_false, Int.toNat_natCast, rg_ok, e17]
        · simp (disch := omega) only [f_X12_put, b_X12_put_26, ↓dhi_M, ↓dhG_M_0, ↓dhG_M_1, ↓dhG_M_2, ↓dhG_M_3, ↓dhG_M_4, ↓dhG_M_5, ↓dhG_M_6, ↓dhG_M_7, ↓dhG_M_8, ↓dhg_M_9, ↓dhq_M_9, ↓dhG_M_10, ↓dhG_M_11, ↓dhG_M_12, ↓dhg_M_13, ↓dhq_M_13, ↓dhG_M_14, ↓dhg_M_15, ↓dhq_M_15, ↓dhG_M_16, ↓dhg_M_17, ↓dhq_M_17, ↓dhg_M_18, ↓dhq_M_18, ↓dhG_M_19, ↓dhG_M_20, ↓dhG_M_21, ↓dhG_M_22, ↓dhG_M_23, ↓dhG_M_24, ↓dhg_M_25, ↓dhq_M_25, ↓dhG_M_26, ↓dhG_M_27, ↓dhG_M_28, ↓dhg_M_29, ↓dhq_M_29, ↓dhG_M_30, ↓dhG_M_31, ↓dhg_M_32, ↓dhq_M_32, ↓dhg_M_33, ↓dhq_M_33, ↓dhg_M_34, ↓dhq_M_34, ↓dhg_M_35, ↓dhq_M_35, ↓dhG_M_36, ↓dhG_M_37, ↓dhg_M_38, ↓dhq_M_38, ↓dhg_M_39, ↓dhq_M_39, ↓dhG_M_40, ↓dhG_M_41, ↓dhG_M_42, ↓dhG_M_43, ↓dhg_M_44, ↓dhq_M_44, Option.bind_some, ↓nm_eq, ↓sm_inl, ↓sm_inr, ↓dzo_0, ↓dzo_1, ↓drg_ok, ↓if_pos, ↓if_neg, if_pos, if_neg, if_true, if_false, Int.toNat_natCast, rg_ok, e17, ↓bnd (isB_0 (x := y) (m := 8) (by omega) hy (by omega) _)]
    rw [e27]
    by_cases c : 12 ≤ (nw : Int)
    · simp (disch := omega) only [b_X12_put_27, b_X12_put_41, ↓dhi_M, ↓dhG_M_0, ↓dhG_M_1, ↓dhG_M_2, ↓dhG_M_3, ↓dhG_M_4, ↓dhG_M_5, ↓dhG_M_6, ↓dhG_M_7, ↓dhG_M_8, ↓dhg_M_9, ↓dhq_M_9, ↓dhG_M_10, ↓dhG_M_11, ↓dhG_M_12, ↓dhg_M_13, ↓dhq_M_13, ↓dhG_M_14, ↓dhg_M_15, ↓dhq_M_15, ↓dhG_M_16, ↓dhg_M_17, ↓dhq_M_17, ↓dhg_M_18, ↓dhq_M_18, ↓dhG_M_19, ↓dhG_M_20, ↓dhG_M_21, ↓dhG_M_22, ↓dhG_M_23, ↓dhG_M_24, ↓dhg_M_25, ↓dhq_M_25, ↓dhG_M_26, ↓dhG_M_27, ↓dhG_M_28, ↓dhg_M_29, ↓dhq_M_29, ↓dhG_M_30, ↓dhG_M_31, ↓dhg_M_32, ↓dhq_M_32, ↓dhg_M_33, ↓dhq_M_33, ↓dhg_M_34, ↓dhq_M_34, ↓dhg_M_35, ↓dhq_M_35, ↓dhG_M_36, ↓dhG_M_37, ↓dhg_M_38, ↓dhq_M_38, ↓dhg_M_39, ↓dhq_M_39, ↓dhG_M_40, ↓dhG_M_41, ↓dhG_M_42, ↓dhG_M_43, ↓dhg_M_44, ↓dhq_M_44, Option.bind_some, ↓nm_eq, ↓sm_inl, ↓sm_inr, ↓dzo_0, ↓dzo_1, ↓drg_ok, ↓if_pos, ↓if_neg, if_pos, if_neg, if_true, if_false, Int.toNat_natCast, rg_ok, e17, ↓bnd (goes_1 0 1)]
    · simp (disch := omega) only [b_X12_put_27, b_X12_put_41, ↓dhi_M, ↓dhG_M_0, ↓dhG_M_1, ↓dhG_M_2, ↓dhG_M_3, ↓dhG_M_4, ↓dhG_M_5, ↓dhG_M_6, ↓dhG_M_7, ↓dhG_M_8, ↓dhg_M_9, ↓dhq_M_9, ↓dhG_M_10, ↓dhG_M_11, ↓dhG_M_12, ↓dhg_M_13, ↓dhq_M_13, ↓dhG_M_14, ↓dhg_M_15, ↓dhq_M_15, ↓dhG_M_16, ↓dhg_M_17, ↓dhq_M_17, ↓dhg_M_18, ↓dhq_M_18, ↓dhG_M_19, ↓dhG_M_20, ↓dhG_M_21, ↓dhG_M_22, ↓dhG_M_23, ↓dhG_M_24, ↓dhg_M_25, ↓dhq_M_25, ↓dhG_M_26, ↓dhG_M_27, ↓dhG_M_28, ↓dhg_M_29, ↓dhq_M_29, ↓dhG_M_30, ↓dhG_M_31, ↓dhg_M_32, ↓dhq_M_32, ↓dhg_M_33, ↓dhq_M_33, ↓dhg_M_34, ↓dhq_M_34, ↓dhg_M_35, ↓dhq_M_35, ↓dhG_M_36, ↓dhG_M_37, ↓dhg_M_38, ↓dhq_M_38, ↓dhg_M_39, ↓dhq_M_39, ↓dhG_M_40, ↓dhG_M_41, ↓dhG_M_42, ↓dhG_M_43, ↓dhg_M_44, ↓dhq_M_44, Option.bind_some, ↓nm_eq, ↓sm_inl, ↓sm_inr, ↓dzo_0, ↓dzo_1, ↓drg_ok, ↓if_pos, ↓if_neg, if_pos, if_neg, if_true, if_false, Int.toNat_natCast, rg_ok, e17, ↓bnd (goes_1 1 1)]
  by_cases c1 : x < 0 ∨ (nw : Int) < x
  · refine k_out hI0 ?_ (refx (Or.inl c1))
    by_cases c : x < 0
    · simp (disch := omega) only [f_L_put, f_X11_put, b_X11_put_19, ↓dhi_X, ↓dhG_X_0, ↓dhG_X_1, ↓dhG_X_2, ↓dhg_X_3, ↓dhq_X_3, ↓dhG_X_4, ↓dhG_X_5, ↓dhG_X_6, ↓dhg_X_7, ↓dhq_X_7, ↓dhG_X_8, ↓dhG_X_9, ↓dhG_X_10, ↓dhG_X_11, ↓dhG_X_12, ↓dhG_X_13, ↓dhG_X_14, ↓dhG_X_15, ↓dhG_X_16, Option.bind_some, ↓nm_eq, ↓sm_inl, ↓sm_inr, ↓dzo_0, ↓dzo_1, ↓drg_ok, ↓if_pos, ↓if_neg, if_pos, if_neg, if_true, if_false, Int.toNat_natCast, rg_ok, xI1, if_true]
    · simp (disch := omega) only [f_L_put, f_X11_put, b_X11_put_19, ↓dhi_X, ↓dhG_X_0, ↓dhG_X_1, ↓dhG_X_2, ↓dhg_X_3, ↓dhq_X_3, ↓dhG_X_4, ↓dhG_X_5, ↓dhG_X_6, ↓dhg_X_7, ↓dhq_X_7, ↓dhG_X_8, ↓dhG_X_9, ↓dhG_X_10, ↓dhG_X_11, ↓dhG_X_12, ↓dhG_X_13, ↓dhG_X_14, ↓dhG_X_15, ↓dhG_X_16, Option.bind_some, ↓nm_eq, ↓sm_inl, ↓sm_inr, ↓dzo_0, ↓dzo_1, ↓drg_ok, ↓if_pos, ↓if_neg, if_pos, if_neg, if_true, if_false, Int.toNat_natCast, rg_ok, e07, xI1, if_true]
  · by_cases c2 : y < 0 ∨ 8 ≤ y
    · refine k_out hI0 ?_ (refx (Or.inr c2))
      simp (disch := omega) only [f_L_put, f_X11_put, b_X11_put_19, ↓dhi_X, ↓dhG_X_0, ↓dhG_X_1, ↓dhG_X_2, ↓dhg_X_3, ↓dhq_X_3, ↓dhG_X_4, ↓dhG_X_5, ↓dhG_X_6, ↓dhg_X_7, ↓dhq_X_7, ↓dhG_X_8, ↓dhG_X_9, ↓dhG_X_10, ↓dhG_X_11, ↓dhG_X_12, ↓dhG_X_13, ↓dhG_X_14, ↓dhG_X_15, ↓dhG_X_16, Option.bind_some, ↓nm_eq, ↓sm_inl, ↓sm_inr, ↓dzo_0, ↓dzo_1, ↓drg_ok, ↓if_pos, ↓if_neg, if_pos, if_neg, if_true, if_false, Int.toNat_natCast, rg_ok, e07, ↓bnd (isT8_0 c2 hy _), xI1, if_true]
    · obtain ⟨p, rfl⟩ : ∃ a : Nat, x = (a : Int) := ⟨x.toNat, by omega⟩
      obtain ⟨q, rfl⟩ : ∃ a : Nat, y = (a : Int) := ⟨y.toNat, by omega⟩
      have hq : q < 8 := by omega
      by_cases c3 : nw = 12
      · refine ⟨2, u, J, L, 0, gx_u J 161 44 2, L, ?_, ?_, gu_same _ _ _ _, Or.inr (Or.inr rfl), by decide, fun z => absurd z (by decide), ps, rs, ps1, rs1, t, lv, sd, w, nw, tp, tq, h.r (RQO.rf h.2.2.2.2).thr⟩
        · simp (disch := omega) only [f_L_put, f_X11_put, b_X11_put_19, ↓dhi_X, ↓dhG_X_0, ↓dhG_X_1, ↓dhG_X_2, ↓dhg_X_3, ↓dhq_X_3, ↓dhG_X_4, ↓dhG_X_5, ↓dhG_X_6, ↓dhg_X_7, ↓dhq_X_7, ↓dhG_X_8, ↓dhG_X_9, ↓dhG_X_10, ↓dhG_X_11, ↓dhG_X_12, ↓dhG_X_13, ↓dhG_X_14, ↓dhG_X_15, ↓dhG_X_16, Option.bind_some, ↓nm_eq, ↓sm_inl, ↓sm_inr, ↓dzo_0, ↓dzo_1, ↓drg_ok, ↓if_pos, ↓if_neg, if_pos, if_neg, if_true, if_false, Int.toNat_natCast, rg_ok, e07, ↓bnd (isT8_1 hq _), xI6, xI3, if_true, if_false]
        · simp (disch := omega) only [f_X12_put, b_X12_put_26, b_X12_put_27, b_X12_put_41, ↓dhi_M, ↓dhG_M_0, ↓dhG_M_1, ↓dhG_M_2, ↓dhG_M_3, ↓dhG_M_4, ↓dhG_M_5, ↓dhG_M_6, ↓dhG_M_7, ↓dhG_M_8, ↓dhg_M_9, ↓dhq_M_9, ↓dhG_M_10, ↓dhG_M_11, ↓dhG_M_12, ↓dhg_M_13, ↓dhq_M_13, ↓dhG_M_14, ↓dhg_M_15, ↓dhq_M_15, ↓dhG_M_16, ↓dhg_M_17, ↓dhq_M_17, ↓dhg_M_18, ↓dhq_M_18, ↓dhG_M_19, ↓dhG_M_20, ↓dhG_M_21, ↓dhG_M_22, ↓dhG_M_23, ↓dhG_M_24, ↓dhg_M_25, ↓dhq_M_25, ↓dhG_M_26, ↓dhG_M_27, ↓dhG_M_28, ↓dhg_M_29, ↓dhq_M_29, ↓dhG_M_30, ↓dhG_M_31, ↓dhg_M_32, ↓dhq_M_32, ↓dhg_M_33, ↓dhq_M_33, ↓dhg_M_34, ↓dhq_M_34, ↓dhg_M_35, ↓dhq_M_35, ↓dhG_M_36, ↓dhG_M_37, ↓dhg_M_38, ↓dhq_M_38, ↓dhg_M_39, ↓dhq_M_39, ↓dhG_M_40, ↓dhG_M_41, ↓dhG_M_42, ↓dhG_M_43, ↓dhg_M_44, ↓dhq_M_44, Option.bind_some, ↓nm_eq, ↓sm_inl, ↓sm_inr, ↓dzo_0, ↓dzo_1, ↓drg_ok, ↓if_pos, ↓if_neg, if_pos, if_neg, if_true, if_false, Int.toNat_natCast, rg_ok, e17, ↓bnd (isB_1 (x := (q : Int)) (m := 8) (by omega) (by omega) _), ↓bnd (goes_2 1)]
      · have hlt : nw < 12 := by omega
        obtain ⟨J1, e1, f1, g1, g2, g3⟩ := put_c (n := n) (u := u) (w := w) (nw := nw) (p := p) (y := q) (J0 := J) (L := L) hlt hq (nw - p) n nw J (by omega) (by omega) (Nat.le_refl _) Fr.rf (fun i hi => by
          rw [h.cse i hi]
          by_cases c : i ≤ nw
          · rw [if_pos c]
          · rw [if_neg c, hsw.2.2 i (by omega), hsw.2.2 (i - 1) (by omega)]) e07
        have e44 : gx_u J1 161 44 0 161 17 = (nw : Int) := by rw [gu_at_ne (by decide), f1 161 (by decide)]; exact e17
        have e17' : J1 161 17 = (nw : Int) := by rw [f1 161 (by decide)]; exact e17
        obtain ⟨J2, e2, f2, g4, g5, g6⟩ := put_r (n := n) (u := u) (w := w) (nw := nw) (p := p) (y := q) (J0 := gx_u J1 161 44 0) (L := gx_u L 193 0 ((nw : Int) + 1)) hlt hq (nw - p) n nw (gx_u J1 161 44 0) (by omega) (by omega) (Nat.le_refl _) Fr.rf (fun i hi => by rw [gu_ne (by decide), f1 175 (by decide)]; exact h.wse.2 i hi) (fun i h1 h2 => absurd h2 (by omega)) e44
        refine ⟨0, u, J1, gx_u L 193 0 ((nw : Int) + 1), (nw : Int) + 1, J2, gx_u L 193 0 ((nw : Int) + 1), ?_, ?_, (g4 44 (by decide)).trans (gu_same _ _ _ _), Or.inl rfl, ⟨by omega, by omega⟩, fun _ => gu_same _ _ _ _, ps, rs, ps1, rs1, t, lv, sd, wi w p q, nw + 1, tp, tq, ?_⟩
        · obtain ⟨m, hm⟩ : ∃ m : Int, m = (nw : Int) + 1 := ⟨_, rfl⟩
          rw [← hm] at e1 ⊢
          have hm1 : 0 ≤ m ∧ m ≤ 12 := by omega
          clear hm
          have e5 : f_X11_put n 0 (p : Int) (q : Int) (hp u J L) = some (.inl m, hp u J1 L) := by
            simp (disch := omega) only [f_X11_put, b_X11_put_19, ↓dhi_X, ↓dhG_X_0, ↓dhG_X_1, ↓dhG_X_2, ↓dhg_X_3, ↓dhq_X_3, ↓dhG_X_4, ↓dhG_X_5, ↓dhG_X_6, ↓dhg_X_7, ↓dhq_X_7, ↓dhG_X_8, ↓dhG_X_9, ↓dhG_X_10, ↓dhG_X_11, ↓dhG_X_12, ↓dhG_X_13, ↓dhG_X_14, ↓dhG_X_15, ↓dhG_X_16, Option.bind_some, ↓nm_eq, ↓sm_inl, ↓sm_inr, ↓dzo_0, ↓dzo_1, ↓drg_ok, ↓if_pos, ↓if_neg, if_pos, if_neg, if_true, if_false, Int.toNat_natCast, rg_ok, e07, ↓bnd (isT8_1 hq _)]
            exact e1
          have e6 : gi_s2 (hp u J1 L) 193 0 m = some (hp u J1 (gx_u L 193 0 m)) := hs_193 (by omega) (by omega)
          simp (disch := omega) only [f_L_put, ↓dhi_X, ↓dhG_X_0, ↓dhG_X_1, ↓dhG_X_2, ↓dhg_X_3, ↓dhq_X_3, ↓dhG_X_4, ↓dhG_X_5, ↓dhG_X_6, ↓dhg_X_7, ↓dhq_X_7, ↓dhG_X_8, ↓dhG_X_9, ↓dhG_X_10, ↓dhG_X_11, ↓dhG_X_12, ↓dhG_X_13, ↓dhG_X_14, ↓dhG_X_15, ↓dhG_X_16, Option.bind_some, ↓nm_eq, ↓sm_inl, ↓sm_inr, ↓dzo_0, ↓dzo_1, ↓drg_ok, ↓if_pos, ↓if_neg, if_pos, if_neg, if_true, if_false, Int.toNat_natCast, rg_ok, ↓bnd e5, ↓bnd e6]
        · simp (disch := omega) only [f_X12_put, b_X12_put_26, b_X12_put_27, b_X12_put_41, ↓dhi_M, ↓dhG_M_0, ↓dhG_M_1, ↓dhG_M_2, ↓dhG_M_3, ↓dhG_M_4, ↓dhG_M_5, ↓dhG_M_6, ↓dhG_M_7, ↓dhG_M_8, ↓dhg_M_9, ↓dhq_M_9, ↓dhG_M_10, ↓dhG_M_11, ↓dhG_M_12, ↓dhg_M_13, ↓dhq_M_13, ↓dhG_M_14, ↓dhg_M_15, ↓dhq_M_15, ↓dhG_M_16, ↓dhg_M_17, ↓dhq_M_17, ↓dhg_M_18, ↓dhq_M_18, ↓dhG_M_19, ↓dhG_M_20, ↓dhG_M_21, ↓dhG_M_22, ↓dhG_M_23, ↓dhG_M_24, ↓dhg_M_25, ↓dhq_M_25, ↓dhG_M_26, ↓dhG_M_27, ↓dhG_M_28, ↓dhg_M_29, ↓dhq_M_29, ↓dhG_M_30, ↓dhG_M_31, ↓dhg_M_32, ↓dhq_M_32, ↓dhg_M_33, ↓dhq_M_33, ↓dhg_M_34, ↓dhq_M_34, ↓dhg_M_35, ↓dhq_M_35, ↓dhG_M_36, ↓dhG_M_37, ↓dhg_M_38, ↓dhq_M_38, ↓dhg_M_39, ↓dhq_M_39, ↓dhG_M_40, ↓dhG_M_41, ↓dhG_M_42, ↓dhG_M_43, ↓dhg_M_44, ↓dhq_M_44, Option.bind_some, ↓nm_eq, ↓sm_inl, ↓sm_inr, ↓dzo_0, ↓dzo_1, ↓drg_ok, ↓if_pos, ↓if_neg, if_pos, if_neg, if_true, if_false, Int.toNat_natCast, rg_ok, e17', ↓bnd (isB_1 (x := (q : Int)) (m := 8) (by omega) (by omega) _), ↓bnd goes_0, e44]
          exact e2
        · have fr : ∀ a, a ≠ 0 → a ≠ 63 → a ≠ 161 → a ≠ 175 → J2 a = J a := fun a h1 h2 h3 h4 => by rw [f2 a (by simp; omega), gu_ne h3, f1 a (by simp; omega)]
          have f0 : J2 0 = J1 0 := by rw [f2 0 (by decide), gu_ne (by decide)]
          have fm : ∀ k, k ≠ 17 → k ≠ 44 → J2 161 k = J 161 k := fun k h1 h2 => by rw [g4 k h1, gu_at_ne h2, f1 161 (by decide)]
          refine h.upd (fun a ha => fr a (fun z => by simp [z] at ha) (fun z => by simp [z] at ha) (fun z => by simp [z] at ha) (fun z => by simp [z] at ha)) (by rw [f0, g1 3 (by decide)]) (fun k h1 h2 h3 => fm k h2 h3) (fun a ha => gu_ne ha) (h.2.1.2.2.2.2.1.fr (fr 1 (by decide) (by decide) (by decide) (by decide)) (fr 2 (by decide) (by decide) (by decide) (by decide))) (h.clv.fr (fr 61 (by decide) (by decide) (by decide) (by decide)) (fr 62 (by decide) (by decide) (by decide) (by decide))) (fun i hi => ?_) ?_ ?_ (h.rlv.fr (fr 171 (by decide) (by decide) (by decide) (by decide)) (fr 172 (by decide) (by decide) (by decide) (by decide))) ⟨g5, g6⟩ (hsw.ins (by omega) hlt hq)
          · rw [f2 63 (by decide), gu_ne (by decide)]; exact g3 i hi
          · rw [f0]; exact g2
          · have := h.2.2.1.2.2.2.2.2.1; unfold RT at *; rw [fr 173 (by decide) (by decide) (by decide) (by decide), fm 13 (by decide) (by decide)]; exact this
theorem op_cut {n : Nat} {x : Int} (hn : 1000000000000000000000000000000 ≤ n) (hx : gi_ok x) : OPK (fun h => f_L_cut n 0 x 193 h) (fun h => f_X12_cut n 161 x h) := by
  intro u J L hI
  have hI0 := hI
  obtain ⟨ps, rs, ps1, rs1, t, lv, sd, w, nw, tp, tq, h⟩ := hI
  obtain ⟨hx1, hx2⟩ := id hx
  have hsw := h.sw
  have h12 := hsw.1
  have e07 : J 0 7 = (nw : Int) := h.2.1.2.2.2.2.2.2.2.1
  have e17 : J 161 17 = (nw : Int) := h.wse.1
  by_cases c1 : x < 0 ∨ (nw : Int) ≤ x
  · refine k_out hI0 ?_ ?_
    · by_cases c : x < 0
      · simp (disch := omega) only [f_L_cut, f_X11_cut, b_X11_cut_12, ↓dhi_X, ↓dhG_X_0, ↓dhG_X_1, ↓dhG_X_2, ↓dhg_X_3, ↓dhq_X_3, ↓dhG_X_4, ↓dhG_X_5, ↓dhG_X_6, ↓dhg_X_7, ↓dhq_X_7, ↓dhG_X_8, ↓dhG_X_9, ↓dhG_X_10, ↓dhG_X_11, ↓dhG_X_12, ↓dhG_X_13, ↓dhG_X_14, ↓dhG_X_15, ↓dhG_X_16, Option.bind_some, ↓nm_eq, ↓sm_inl, ↓sm_inr, ↓dzo_0, ↓dzo_1, ↓drg_ok, ↓if_pos, ↓if_neg, if_pos, if_neg, if_true, if_false, Int.toNat_natCast, rg_ok, xI1, if_true]
      · simp (disch := omega) only [f_L_cut, f_X11_cut, b_X11_cut_12, ↓dhi_X, ↓dhG_X_0, ↓dhG_X_1, ↓dhG_X_2, ↓dhg_X_3, ↓dhq_X_3, ↓dhG_X_4, ↓dhG_X_5, ↓dhG_X_6, ↓dhg_X_7, ↓dhq_X_7, ↓dhG_X_8, ↓dhG_X_9, ↓dhG_X_10, ↓dhG_X_11, ↓dhG_X_12, ↓dhG_X_13, ↓dhG_X_14, ↓dhG_X_15, ↓dhG_X_16, Option.bind_some, ↓nm_eq, ↓sm_inl, ↓sm_inr, ↓dzo_0, ↓dzo_1, ↓drg_ok, ↓if_pos, ↓if_neg, if_pos, if_neg, if_true, if_false, Int.toNat_natCast, rg_ok, e07, xI1, if_true]
    · simp (disch := omega) only [f_X12_cut, ↓dhi_M, ↓dhG_M_0, ↓dhG_M_1, ↓dhG_M_2, ↓dhG_M_3, ↓dhG_M_4, ↓dhG_M_5, ↓dhG_M_6, ↓dhG_M_7, ↓dhG_M_8, ↓dhg_M_9, ↓dhq_M_9, ↓dhG_M_10, ↓dhG_M_11, ↓dhG_M_12, ↓dhg_M_13, ↓dhq_M_13, ↓dhG_M_14, ↓dhg_M_15, ↓dhq_M_15, ↓dhG_M_16, ↓dhg_M_17, ↓dhq_M_17, ↓dhg_M_18, ↓dhq_M_18, ↓dhG_M_19, ↓dhG_M_20, ↓dhG_M_21, ↓dhG_M_22, ↓dhG_M_23, ↓dhG_M_24, ↓dhg_M_25, ↓dhq_M_25, ↓dhG_M_26, ↓dhG_M_27, ↓dhG_M_28, ↓dhg_M_29, ↓dhq_M_29, ↓dhG_M_30, ↓dhG_M_31, ↓dhg_M_32, ↓dhq_M_32, ↓dhg_M_33, ↓dhq_M_33, ↓dhg_M_34, ↓dhq_M_34, ↓dhg_M_35, ↓dhq_M_35, ↓dhG_M_36, ↓dhG_M_37, ↓dhg_M_38, ↓dhq_M_38, ↓dhg_M_39, ↓dhq_M_39, ↓dhG_M_40, ↓dhG_M_41, ↓dhG_M_42, ↓dhG_M_43, ↓dhg_M_44, ↓dhq_M_44, Option.bind_some, ↓nm_eq, ↓sm_inl, ↓sm_inr, ↓dzo_0, ↓dzo_1, ↓drg_ok, ↓if_pos, ↓if_neg, if_pos, if_neg, if_true, if_false, Int.toNat_natCast, rg_ok, e17, ↓bnd (isB_0 (m := (nw : Int)) c1 hx (by omega) _), ↓bnd (goes_1 1 1)]
  · obtain ⟨p, rfl⟩ : ∃ a : Nat, x = (a : Int) := ⟨x.toNat, by omega⟩
    have hp1 : p < nw := by omega
    have hwp := hsw.2.1 p hp1
    have ep : J 63 p = (w p : Int) := h.cse p (by omega)
    obtain ⟨J1, e1, f1, g1, g2, g3⟩ := cut_c (n := n) (u := u) (w := w) (nw := nw) (p := p) (J0 := J) (L := L) h12 (by omega) hsw (w p : Int) (12 - p) n p J (by omega) (by omega) (Nat.le_refl _) Fr.rf (fun i hi => by rw [h.cse i hi, if_neg (by omega)]) e07
    have e17' : J1 161 17 = (nw : Int) := by rw [f1 161 (by decide)]; exact e17
    have e44 : gx_u J1 161 44 0 161 17 = (nw : Int) := by rw [gu_at_ne (by decide)]; exact e17'
    have ep2 : gx_u J1 161 44 0 175 p = (w p : Int) := by rw [gu_ne (by decide), f1 175 (by decide)]; exact h.wse.2 p hp1
    have en : (nw : Int) - 1 = ((nw - 1 : Nat) : Int) := by omega
    obtain ⟨J2, e2, f2, g6⟩ := cut_r (n := n) (u := u) (w := w) (nw := nw - 1) (p := p) (J0 := gx_u (gx_u J1 161 44 0) 161 17 ((nw - 1 : Nat) : Int)) (L := gx_u L 193 0 (w p : Int)) (by omega) (w p : Int) (nw - 1 - p) n p (gx_u (gx_u J1 161 44 0) 161 17 ((nw - 1 : Nat) : Int)) (by omega) (by omega) (Nat.le_refl _) Fr.rf (fun i h1 h2 => absurd h2 (by omega)) (fun i h1 h2 => by rw [gu_ne (by decide), gu_ne (by decide), f1 175 (by decide)]; exact h.wse.2 i (by omega)) (gu_same _ _ _ _)
    refine ⟨0, u, J1, gx_u L 193 0 (w p : Int), (w p : Int), J2, gx_u L 193 0 (w p : Int), ?_, ?_, ?_, Or.inl rfl, ⟨by omega, by omega⟩, fun _ => gu_same _ _ _ _, ps, rs, ps1, rs1, t, lv, sd, wc w p, nw - 1, tp, tq, ?_⟩
    · simp (disch := omega) only [f_L_cut, f_X11_cut, b_X11_cut_12, ↓dhi_X, ↓dhG_X_0, ↓dhG_X_1, ↓dhG_X_2, ↓dhg_X_3, ↓dhq_X_3, ↓dhG_X_4, ↓dhG_X_5, ↓dhG_X_6, ↓dhg_X_7, ↓dhq_X_7, ↓dhG_X_8, ↓dhG_X_9, ↓dhG_X_10, ↓dhG_X_11, ↓dhG_X_12, ↓dhG_X_13, ↓dhG_X_14, ↓dhG_X_15, ↓dhG_X_16, ↓dha_63, ↓dhs_63, ↓dhl_63, ↓dha_193, ↓dhs_193, ↓dhl_193, Option.bind_some, ↓nm_eq, ↓sm_inl, ↓sm_inr, ↓dzo_0, ↓dzo_1, ↓drg_ok, ↓if_pos, ↓if_neg, if_pos, if_neg, if_true, if_false, Int.toNat_natCast, rg_ok, ↓bnd e1, e07, ep] <;> rfl
    · simp (disch := omega) only [f_X12_cut, ↓dhi_M, ↓dhG_M_0, ↓dhG_M_1, ↓dhG_M_2, ↓dhG_M_3, ↓dhG_M_4, ↓dhG_M_5, ↓dhG_M_6, ↓dhG_M_7, ↓dhG_M_8, ↓dhg_M_9, ↓dhq_M_9, ↓dhG_M_10, ↓dhG_M_11, ↓dhG_M_12, ↓dhg_M_13, ↓dhq_M_13, ↓dhG_M_14, ↓dhg_M_15, ↓dhq_M_15, ↓dhG_M_16, ↓dhg_M_17, ↓dhq_M_17, ↓dhg_M_18, ↓dhq_M_18, ↓dhG_M_19, ↓dhG_M_20, ↓dhG_M_21, ↓dhG_M_22, ↓dhG_M_23, ↓dhG_M_24, ↓dhg_M_25, ↓dhq_M_25, ↓dhG_M_26, ↓dhG_M_27, ↓dhG_M_28, ↓dhg_M_29, ↓dhq_M_29, ↓dhG_M_30, ↓dhG_M_31, ↓dhg_M_32, ↓dhq_M_32, ↓dhg_M_33, ↓dhq_M_33, ↓dhg_M_34, ↓dhq_M_34, ↓dhg_M_35, ↓dhq_M_35, ↓dhG_M_36, ↓dhG_M_37, ↓dhg_M_38, ↓dhq_M_38, ↓dhg_M_39, ↓dhq_M_39, ↓dhG_M_40, ↓dhG_M_41, ↓dhG_M_42, ↓dhG_M_43, ↓dhg_M_44, ↓dhq_M_44, ↓dha_175, ↓dhs_175, ↓dhl_175, Option.bind_some, ↓nm_eq, ↓sm_inl, ↓sm_inr, ↓dzo_0, ↓dzo_1, ↓drg_ok, ↓if_pos, ↓if_neg, if_pos, if_neg, if_true, if_false, Int.toNat_natCast, rg_ok, e17', ↓bnd (isB_1 (x := (p : Int)) (m := (nw : Int)) (by omega) (by omega) _), ↓bnd goes_0, e44, ep2, en]
      exact e2
    · rw [f2 161 (by decide), gu_at_ne (by decide), gu_same]
    · have fr : ∀ a, a ≠ 0 → a ≠ 63 → a ≠ 161 → a ≠ 175 → J2 a = J a := fun a h1 h2 h3 h4 => by rw [f2 a (by simp; omega), gu_ne h3, gu_ne h3, f1 a (by simp; omega)]
      have f0 : J2 0 = J1 0 := by rw [f2 0 (by decide), gu_ne (by decide), gu_ne (by decide)]
      have fm : ∀ k, k ≠ 17 → k ≠ 44 → J2 161 k = J 161 k := fun k h1 h2 => by rw [f2 161 (by decide), gu_at_ne h1, gu_at_ne h2, f1 161 (by decide)]
      refine h.upd (fun a ha => fr a (fun z => by simp [z] at ha) (fun z => by simp [z] at ha) (fun z => by simp [z] at ha) (fun z => by simp [z] at ha)) (by rw [f0, g1 3 (by decide)]) (fun k h1 h2 h3 => fm k h2 h3) (fun a ha => gu_ne ha) (h.2.1.2.2.2.2.1.fr (fr 1 (by decide) (by decide) (by decide) (by decide)) (fr 2 (by decide) (by decide) (by decide) (by decide))) (h.clv.fr (fr 61 (by decide) (by decide) (by decide) (by decide)) (fr 62 (by decide) (by decide) (by decide) (by decide))) (fun i hi => ?_) ?_ ?_ (h.rlv.fr (fr 171 (by decide) (by decide) (by decide) (by decide)) (fr 172 (by decide) (by decide) (by decide) (by decide))) ⟨?_, g6⟩ (hsw.del hp1)
      · rw [f2 63 (by decide), gu_ne (by decide), gu_ne (by decide)]; exact g3 i hi
      · rw [f0]; exact g2
      · have := h.2.2.1.2.2.2.2.2.1; unfold RT at *; rw [fr 173 (by decide) (by decide) (by decide) (by decide), fm 13 (by decide) (by decide)]; exact this
      · rw [f2 161 (by decide), gu_same]
