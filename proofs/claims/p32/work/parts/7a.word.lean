/-! ===== calls: the word ===== -/
def wi (w : Nat → Nat) (p y : Nat) : Nat → Nat := fun i => if i < p then w i else if i = p then y else w (i - 1)
def wc (w : Nat → Nat) (p : Nat) : Nat → Nat := fun i => if i < p then w i else w (i + 1)
theorem SW.ins {w : Nat → Nat} {nw p y : Nat} (h : SW w nw) (hp1 : p ≤ nw) (hn : nw < 12) (hy : y < 8) : SW (wi w p y) (nw + 1) := by
  refine ⟨by omega, fun i hi => ?_, fun i hi => ?_⟩
  · unfold wi
    split
    · exact h.2.1 i (by omega)
    · split
      · exact hy
      · exact h.2.1 (i - 1) (by omega)
  · unfold wi
    rw [if_neg (by omega), if_neg (by omega)]
    exact h.2.2 (i - 1) (by omega)
theorem SW.del {w : Nat → Nat} {nw p : Nat} (h : SW w nw) (hp1 : p < nw) : SW (wc w p) (nw - 1) := by
  refine ⟨by have := h.1; omega, fun i hi => ?_, fun i hi => ?_⟩
  · unfold wc
    split
    · exact h.2.1 i (by omega)
    · exact h.2.1 (i + 1) (by omega)
  · unfold wc
    rw [if_neg (by omega)]
    exact h.2.2 (i + 1) (by omega)
section WRD
variable {n u : Nat} {w : Nat → Nat} {nw p y : Nat} {J0 L : Nat → Nat → Int}
theorem put_c (hn : nw < 12) (hy : y < 8) : ∀ (m f k : Nat) (J : Nat → Nat → Int), k = p + m → m < f → k ≤ nw → Fr [63] J0 J → (∀ i, i < 13 → J 63 i = ((if i ≤ k then w i else w (i - 1) : Nat) : Int)) → J 0 7 = (nw : Int) →
    ∃ J', l_X11_put_54 n f 0 (p : Int) (y : Int) (k : Int) (hp u J L) = some (.inl ((nw : Int) + 1), hp u J' L) ∧ Fr [0, 63] J0 J' ∧ (∀ k, k ≠ 7 → J' 0 k = J0 0 k) ∧ J' 0 7 = (nw : Int) + 1 ∧ ∀ i, i < 13 → J' 63 i = (wi w p y i : Int) := by
  intro m
  induction m with
  | zero =>
    intro f k J hk hf hle hfr hv h7
    obtain ⟨f', rfl⟩ : ∃ f', f = f' + 1 := ⟨f - 1, by omega⟩
    have hkp : k = p := by omega
    subst hkp
    have e7 : gx_u J 63 k (y : Int) 0 7 = (nw : Int) := by rw [gu_ne (by decide)]; exact h7
    have e8 : gx_u (gx_u J 63 k (y : Int)) 0 7 ((nw : Int) + 1) 0 7 = (nw : Int) + 1 := gu_same _ _ _ _
    refine ⟨gx_u (gx_u J 63 k (y : Int)) 0 7 ((nw : Int) + 1), ?_, ?_, fun j hj => ?_, e8, fun i hi => ?_⟩
    · simp (disch := omega) only [l_X11_put_54, b_X11_put_54, b_X11_put_79, ↓dhi_X, ↓dhG_X_0, ↓dhG_X_1, ↓dhG_X_2, ↓dhg_X_3, ↓dhq_X_3, ↓dhG_X_4, ↓dhG_X_5, ↓dhG_X_6, ↓dhg_X_7, ↓dhq_X_7, ↓dhG_X_8, ↓dhG_X_9, ↓dhG_X_10, ↓dhG_X_11, ↓dhG_X_12, ↓dhG_X_13, ↓dhG_X_14, ↓dhG_X_15, ↓dhG_X_16, ↓dha_63, ↓dhs_63, ↓dhl_63, Option.bind_some, ↓nm_eq, ↓sm_inl, ↓sm_inr, ↓dzo_0, ↓dzo_1, ↓drg_ok, ↓if_pos, ↓if_neg, if_pos, if_neg, if_true, if_false, Int.toNat_natCast, rg_ok, e7, e8]
    · exact ((hfr.up (fun a z => by simp at z ⊢; omega)).wr (by simp)).wr (by simp)
    · rw [gu_at_ne hj, gu_ne (by decide), hfr 0 (by decide)]
    · rw [gu_ne (by decide)]
      by_cases c : i = k
      · subst c; rw [gu_same]; unfold wi; rw [if_neg (by omega), if_pos rfl]
      · rw [gu_at_ne c, hv i hi]
        unfold wi
        by_cases c2 : i < k
        · rw [if_pos (by omega), if_pos c2]
        · rw [if_neg (by omega), if_neg c2, if_neg c]
  | succ m ih =>
    intro f k J hk hf hle hfr hv h7
    obtain ⟨f', rfl⟩ : ∃ f', f = f' + 1 := ⟨f - 1, by omega⟩
    have ek : (k : Int) - 1 = ((k - 1 : Nat) : Int) := by omega
    have ek2 : (k : Int) + (-1) = ((k - 1 : Nat) : Int) := by omega
    have ev : J 63 (k - 1) = (w (k - 1) : Int) := by rw [hv (k - 1) (by omega), if_pos (by omega)]
    obtain ⟨J', e, q⟩ := ih f' (k - 1) (gx_u J 63 k (w (k - 1) : Int)) (by omega) (by omega) (by omega) (hfr.wr (by simp)) (fun i hi => by
      by_cases c : i = k
      · subst c; rw [gu_same, if_neg (by omega)]
      · rw [gu_at_ne c, hv i hi]
        by_cases c2 : i ≤ k - 1
        · rw [if_pos (by omega), if_pos c2]
        · rw [if_neg (by omega), if_neg c2]) (by rw [gu_ne (by decide)]; exact h7)
    refine ⟨J', ?_, q⟩
    simp (disch := omega) only [l_X11_put_54, b_X11_put_54, ↓dhi_X, ↓dhG_X_0, ↓dhG_X_1, ↓dhG_X_2, ↓dhg_X_3, ↓dhq_X_3, ↓dhG_X_4, ↓dhG_X_5, ↓dhG_X_6, ↓dhg_X_7, ↓dhq_X_7, ↓dhG_X_8, ↓dhG_X_9, ↓dhG_X_10, ↓dhG_X_11, ↓dhG_X_12, ↓dhG_X_13, ↓dhG_X_14, ↓dhG_X_15, ↓dhG_X_16, ↓dha_63, ↓dhs_63, ↓dhl_63, Option.bind_some, ↓nm_eq, ↓sm_inl, ↓sm_inr, ↓dzo_0, ↓dzo_1, ↓drg_ok, ↓if_pos, ↓if_neg, if_pos, if_neg, if_true, if_false, Int.toNat_natCast, rg_ok, ek, ek2, ev]
    exact e
theorem cut_c (hn : nw ≤ 12) (h0 : 1 ≤ nw) (hw : SW w nw) (v : Int) : ∀ (m f k : Nat) (J : Nat → Nat → Int), 12 = k + m → m < f → p ≤ k → Fr [63] J0 J → (∀ i, i < 13 → J 63 i = ((if p ≤ i ∧ i < k then w (i + 1) else w i : Nat) : Int)) → J 0 7 = (nw : Int) →
    ∃ J', l_X11_cut_31 n f 0 v (k : Int) (hp u J L) = some (.inl v, hp u J' L) ∧ Fr [0, 63] J0 J' ∧ (∀ k, k ≠ 7 → J' 0 k = J0 0 k) ∧ J' 0 7 = ((nw - 1 : Nat) : Int) ∧ ∀ i, i < 13 → J' 63 i = (wc w p i : Int) := by
  intro m
  induction m with
  | zero =>
    intro f k J hk hf hle hfr hv h7
    obtain ⟨f', rfl⟩ : ∃ f', f = f' + 1 := ⟨f - 1, by omega⟩
    have hk12 : k = 12 := by omega
    subst hk12
    have en : (nw : Int) - 1 = ((nw - 1 : Nat) : Int) := by omega
    refine ⟨gx_u J 0 7 ((nw - 1 : Nat) : Int), ?_, ?_, fun j hj => ?_, gu_same _ _ _ _, fun i hi => ?_⟩
    · simp (disch := omega) only [l_X11_cut_31, b_X11_cut_31, b_X11_cut_59, ↓dhi_X, ↓dhG_X_0, ↓dhG_X_1, ↓dhG_X_2, ↓dhg_X_3, ↓dhq_X_3, ↓dhG_X_4, ↓dhG_X_5, ↓dhG_X_6, ↓dhg_X_7, ↓dhq_X_7, ↓dhG_X_8, ↓dhG_X_9, ↓dhG_X_10, ↓dhG_X_11, ↓dhG_X_12, ↓dhG_X_13, ↓dhG_X_14, ↓dhG_X_15, ↓dhG_X_16, ↓dha_63, ↓dhs_63, ↓dhl_63, Option.bind_some, ↓nm_eq, ↓sm_inl, ↓sm_inr, ↓dzo_0, ↓dzo_1, ↓drg_ok, ↓if_pos, ↓if_neg, if_pos, if_neg, if_true, if_false, Int.toNat_natCast, rg_ok, h7, en]
    · exact (hfr.up (fun a z => by simp at z ⊢; omega)).wr (by simp)
    · rw [gu_at_ne hj, hfr 0 (by decide)]
    · rw [gu_ne (by decide), hv i hi]
      unfold wc
      by_cases c : i < p
      · rw [if_neg (by omega), if_pos c]
      · rw [if_neg c]
        by_cases c2 : i < 12
        · rw [if_pos (by omega)]
        · rw [if_neg (by omega), hw.2.2 i (by omega), hw.2.2 (i + 1) (by omega)]
  | succ m ih =>
    intro f k J hk hf hle hfr hv h7
    obtain ⟨f', rfl⟩ : ∃ f', f = f' + 1 := ⟨f - 1, by omega⟩
    have ek : (k : Int) + 1 = ((k + 1 : Nat) : Int) := rfl
    have ev : J 63 (k + 1) = (w (k + 1) : Int) := by rw [hv (k + 1) (by omega), if_neg (by omega)]
    obtain ⟨J', e, q⟩ := ih f' (k + 1) (gx_u J 63 k (w (k + 1) : Int)) (by omega) (by omega) (by omega) (hfr.wr (by simp)) (fun i hi => by
      by_cases c : i = k
      · subst c; rw [gu_same, if_pos (by omega)]
      · rw [gu_at_ne c, hv i hi]
        by_cases c2 : p ≤ i ∧ i < k
        · rw [if_pos c2, if_pos (by omega)]
        · rw [if_neg c2, if_neg (by omega)]) (by rw [gu_ne (by decide)]; exact h7)
    refine ⟨J', ?_, q⟩
    simp (disch := omega) only [l_X11_cut_31, b_X11_cut_31, ↓dhi_X, ↓dhG_X_0, ↓dhG_X_1, ↓dhG_X_2, ↓dhg_X_3, ↓dhq_X_3, ↓dhG_X_4, ↓dhG_X_5, ↓dhG_X_6, ↓dhg_X_7, ↓dhq_X_7, ↓dhG_X_8, ↓dhG_X_9, ↓dhG_X_10, ↓dhG_X_11, ↓dhG_X_12, ↓dhG_X_13, ↓dhG_X_14, ↓dhG_X_15, ↓dhG_X_16, ↓dha_63, ↓dhs_63, ↓dhl_63, Option.bind_some, ↓nm_eq, ↓sm_inl, ↓sm_inr, ↓dzo_0, ↓dzo_1, ↓drg_ok, ↓if_pos, ↓if_neg, if_pos, if_neg, if_true, if_false, Int.toNat_natCast, rg_ok, ek, ev]
    exact e
end WRD
