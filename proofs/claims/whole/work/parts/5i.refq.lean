/-! ===== the reference takes productions ===== -/
def RQ (w : Nat) (J : Nat → Nat → Int) (ps : List (Nat × List Nat)) : Prop := RW J ∧ J 165 w = (ps.length : Int) ∧ ∀ p, p < ps.length → J 162 (24 * w + p) = ((ps.getD p (0, [])).1 : Int) ∧ J 163 (24 * w + p) = ((ps.getD p (0, [])).2.length : Int) ∧ ∀ k, k < (ps.getD p (0, [])).2.length → J 164 (5 * (24 * w + p) + k) = ((ps.getD p (0, [])).2.getD k 0 : Int)
theorem RQ.gt {w : Nat} {I : Nat → Nat → Int} {ps : List (Nat × List Nat)} (h : RQ w I ps) : rGw I w = gtp ps (I 170 w).toNat := by
  obtain ⟨-, h1, h2⟩ := h
  have e1 : (I 165 w).toNat = ps.length := by omega
  unfold rGw gtp
  rw [e1]
  refine Prod.ext rfl (Prod.ext ?_ (Prod.ext ?_ (Prod.ext ?_ rfl)))
  · funext p
    show (if p < ps.length then (I 162 (24 * w + p)).toNat else 0) = (ps.getD p (0, [])).1
    by_cases q : p < ps.length
    · rw [if_pos q]; have := (h2 p q).1; omega
    · rw [if_neg q, gD_o (by omega)]
  · funext p
    show (if p < ps.length then (I 163 (24 * w + p)).toNat else 0) = (ps.getD p (0, [])).2.length
    by_cases q : p < ps.length
    · rw [if_pos q]; have := (h2 p q).2.1; omega
    · rw [if_neg q, gD_o (by omega)]; rfl
  · funext p k
    show (if p < ps.length ∧ k < (I 163 (24 * w + p)).toNat then (I 164 (5 * (24 * w + p) + k)).toNat else 0) = (ps.getD p (0, [])).2.getD k 0
    by_cases q : p < ps.length
    · have h3 := h2 p q
      by_cases q2 : k < (ps.getD p (0, [])).2.length
      · rw [if_pos ⟨q, by omega⟩, h3.2.2 k q2]; rfl
      · rw [if_neg (by omega), gD_o (by omega)]
    · rw [if_neg (fun z => q z.1), gD_o (l := ps) (by omega)]; rfl
theorem RQ.po {w : Nat} {J : Nat → Nat → Int} {ps : List (Nat × List Nat)} (h : RQ w J ps) : PO ps := by
  obtain ⟨rw, h1, h2⟩ := h
  refine ⟨by have := rw.2.1 w; omega, fun p hp => ⟨?_, ?_, fun k hk => ?_⟩⟩
  · have := rw.2.2.2.1 (24 * w + p); have := (h2 p hp).1; omega
  · have := rw.2.2.1 (24 * w + p); have := (h2 p hp).2.1; omega
  · have := rw.2.2.2.2.1 (5 * (24 * w + p) + k); have := (h2 p hp).2.2 k hk; omega
theorem RQ.fr {w : Nat} {J K : Nat → Nat → Int} {ps : List (Nat × List Nat)} (h : RQ w J ps) {l : List Nat} (f : Fr l J K) (h9 : K 161 9 = J 161 9) (q : 162 ∉ l ∧ 163 ∉ l ∧ 164 ∉ l ∧ 165 ∉ l ∧ 170 ∉ l) : RQ w K ps := by
  refine ⟨RW_fr f h9 q h.1, ?_, ?_⟩
  · rw [f 165 q.2.2.2.1]; exact h.2.1
  · rw [f 162 q.1, f 163 q.2.1, f 164 q.2.2.1]; exact h.2.2
/-- nothing has changed but the grammar w, the row -/
def FQ (w : Nat) (J K : Nat → Nat → Int) : Prop := Fr [162, 163, 164, 165, 174, 161] J K ∧ (∀ k, k ≠ 15 → K 161 k = J 161 k) ∧ (∀ k, k ≠ w → K 165 k = J 165 k) ∧ (∀ k, k < 24 * w ∨ 24 * w + 24 ≤ k → K 162 k = J 162 k ∧ K 163 k = J 163 k) ∧ ∀ k, k < 120 * w ∨ 120 * w + 120 ≤ k → K 164 k = J 164 k
theorem FQ.rf {w : Nat} {J : Nat → Nat → Int} : FQ w J J := ⟨Fr.rf, fun _ _ => rfl, fun _ _ => rfl, fun _ _ => ⟨rfl, rfl⟩, fun _ _ => rfl⟩
theorem FQ.tr {w : Nat} {I J K : Nat → Nat → Int} (h : FQ w I J) (q : FQ w J K) : FQ w I K := ⟨h.1.tr q.1, fun k hk => (q.2.1 k hk).trans (h.2.1 k hk), fun k hk => (q.2.2.1 k hk).trans (h.2.2.1 k hk), fun k hk => ⟨(q.2.2.2.1 k hk).1.trans (h.2.2.2.1 k hk).1, (q.2.2.2.1 k hk).2.trans (h.2.2.2.1 k hk).2⟩, fun k hk => (q.2.2.2.2 k hk).trans (h.2.2.2.2 k hk)⟩
theorem FQ.of {w : Nat} {J K : Nat → Nat → Int} (h : Fr [174, 161] J K) (h2 : ∀ k, k ≠ 15 → K 161 k = J 161 k) : FQ w J K := ⟨h.up (fun a q => by simp at q ⊢; omega), h2, fun k _ => by rw [h 165 (by decide)], fun k _ => ⟨by rw [h 162 (by decide)], by rw [h 163 (by decide)]⟩, fun k _ => by rw [h 164 (by decide)]⟩
theorem FQ.row {w i : Nat} {J : Nat → Nat → Int} {x : Int} : FQ w J (gx_u J 174 i x) := FQ.of (Fr.rf.wr (by simp)) (fun k _ => by rw [gu_ne (by decide)])
theorem FQ.ht {w : Nat} {J : Nat → Nat → Int} {x : Int} : FQ w J (gx_u J 161 15 x) := FQ.of (Fr.rf.wr (by simp)) (fun k hk => gu_at_ne hk)
theorem RQ.row {w i : Nat} {J : Nat → Nat → Int} {x : Int} {ps : List (Nat × List Nat)} (h : RQ w J ps) : RQ w (gx_u J 174 i x) ps := h.fr (l := [174]) (Fr.rf.wr (by simp)) (by rw [gu_ne (by decide)]) (by decide)
theorem RQ.ht {w : Nat} {J : Nat → Nat → Int} {x : Int} {ps : List (Nat × List Nat)} (h : RQ w J ps) : RQ w (gx_u J 161 15 x) ps := h.fr (l := [161]) (Fr.rf.wr (by simp)) (gu_at_ne (by decide)) (by decide)
theorem RQ.ot {w w' : Nat} {J K : Nat → Nat → Int} {ps : List (Nat × List Nat)} (h : RQ w' J ps) (f : FQ w J K) (hne : w' ≠ w) (hK : RW K) (h24 : ps.length ≤ 24) (h5 : ∀ p, p < ps.length → (ps.getD p (0, [])).2.length ≤ 5) : RQ w' K ps := by
  refine ⟨hK, by rw [f.2.2.1 w' hne]; exact h.2.1, fun p hp => ?_⟩
  have h3 := h.2.2 p hp
  have h6 := h5 p hp
  have q := f.2.2.2.1 (24 * w' + p) (by omega)
  rw [q.1, q.2]
  refine ⟨h3.1, h3.2.1, fun k hk => ?_⟩
  rw [f.2.2.2.2 _ (by omega)]; exact h3.2.2 k hk
section QA
variable {u : Nat} {n : Nat} {L : Nat → Nat → Int}
theorem X12_adds (hn : 1000000000000000000000000000000 ≤ n) {w : Nat} {J : Nat → Nat → Int} {ps : List (Nat × List Nat)} (h : RQ w J ps) (h9 : J 161 9 = (w : Int)) {o a b : Nat} (ho : o < 16) (hab : a ≤ b) (hb : b ≤ 32) (hs : ∀ i, a ≤ i → i < b → sgd (J 174 i)) :
    (∃ ps' J', ad ps o (J 174) a b = some ps' ∧ f_X12_adds n 161 (o : Int) (a : Int) (b : Int) (hp u J L) = some (1, hp u J' L) ∧ RQ w J' ps' ∧ FQ w J J' ∧ J' 174 = J 174 ∧ J' 161 = J 161) ∨ (ad ps o (J 174) a b = none ∧ f_X12_adds n 161 (o : Int) (a : Int) (b : Int) (hp u J L) = some (0, hp u J L)) := by
  have hw2 : w < 2 := by have := h.1.1; omega
  have h24 := h.po.1
  have h1 := h.2.1
  by_cases c1 : ps.length < 24
  · by_cases c2 : b - a ≤ 5
    · left
      have ead : ad ps o (J 174) a b = some (ps ++ [(o, ch (J 174) a b)]) := if_pos ⟨c1, c2⟩
      have eat : (24 * (w : Int) + (ps.length : Int)).toNat = 24 * w + ps.length := by omega
      have eat2 : 24 * (w : Int) + (ps.length : Int) = ((24 * w + ps.length : Nat) : Int) := by omega
      have n1 : gx_u (gx_u J 162 (24 * w + ps.length) (o : Int)) 163 (24 * w + ps.length) ((b : Int) - (a : Int)) 161 = J 161 := by rw [gu_ne (by decide), gu_ne (by decide)]
      suffices key : zLP b (fun f k (K : Nat → Nat → Int) => l_X12_adds_63 n f 161 (a : Int) (b : Int) ((24 * w + ps.length : Nat) : Int) (k : Int) (hp u K L))
          (fun k K => a ≤ k ∧ Fr [164] (gx_u (gx_u J 162 (24 * w + ps.length) (o : Int)) 163 (24 * w + ps.length) ((b : Int) - (a : Int))) K ∧ (∀ i, a ≤ i → i < k → K 164 (5 * (24 * w + ps.length) + (i - a)) = J 174 i) ∧ (∀ i, i < 5 * (24 * w + ps.length) ∨ 5 * (24 * w + ps.length) + 5 ≤ i → K 164 i = J 164 i) ∧ ∀ k, (0 ≤ K 164 k ∧ K 164 k < 8) ∨ (16 ≤ K 164 k ∧ K 164 k < 32))
          (fun res => ∃ J', res = some (1, hp u J' L) ∧ RQ w J' (ps ++ [(o, ch (J 174) a b)]) ∧ FQ w J J' ∧ J' 174 = J 174 ∧ J' 161 = J 161) by
        obtain ⟨J', e, q⟩ := key (b - a) n a (gx_u (gx_u J 162 (24 * w + ps.length) (o : Int)) 163 (24 * w + ps.length) ((b : Int) - (a : Int))) (by omega) (by omega) ⟨Nat.le_refl _, Fr.rf, fun i q1 q2 => absurd q2 (by omega), fun i _ => by rw [gu_ne (by decide), gu_ne (by decide)], fun k => by rw [gu_ne (by decide), gu_ne (by decide)]; exact h.1.2.2.2.2.1 k⟩
        refine ⟨_, J', ead, ?_, q⟩
        rw [← e]
        simp (disch := omega) only [f_X12_adds, ↓dhi_M, ↓dhG_M_0, ↓dhG_M_1, ↓dhG_M_2, ↓dhG_M_3, ↓dhG_M_4, ↓dhG_M_5, ↓dhG_M_6, ↓dhG_M_7, ↓dhG_M_8, ↓dhg_M_9, ↓dhq_M_9, ↓dhG_M_10, ↓dhG_M_11, ↓dhG_M_12, ↓dhg_M_13, ↓dhq_M_13, ↓dhG_M_14, ↓dhg_M_15, ↓dhq_M_15, ↓dhG_M_16, ↓dhg_M_17, ↓dhq_M_17, ↓dhg_M_18, ↓dhq_M_18, ↓dhG_M_19, ↓dhG_M_20, ↓dhG_M_21, ↓dhG_M_22, ↓dhG_M_23, ↓dhG_M_24, ↓dhg_M_25, ↓dhq_M_25, ↓dhG_M_26, ↓dhG_M_27, ↓dhG_M_28, ↓dhg_M_29, ↓dhq_M_29, ↓dhG_M_30, ↓dhG_M_31, ↓dhg_M_32, ↓dhq_M_32, ↓dhg_M_33, ↓dhq_M_33, ↓dhg_M_34, ↓dhq_M_34, ↓dhg_M_35, ↓dhq_M_35, ↓dhG_M_36, ↓dhG_M_37, ↓dhg_M_38, ↓dhq_M_38, ↓dhg_M_39, ↓dhq_M_39, ↓dhG_M_40, ↓dhG_M_41, ↓dhG_M_42, ↓dhG_M_43, ↓dhg_M_44, ↓dhq_M_44, ↓dha_162, ↓dhs_162, ↓dhl_162, ↓dha_163, ↓dhs_163, ↓dhl_163, ↓dha_165, ↓dhs_165, ↓dhl_165, Option.bind_some, ↓nm_eq, ↓sm_inl, ↓sm_inr, ↓dzo_0, ↓dzo_1, ↓drg_ok, ↓if_pos, ↓if_neg, if_pos, if_neg, if_true, if_false, Int.toNat_natCast, rg_ok, h9, h1, eat, eat2]
      refine zlp ?_ ?_
      · rintro f k K hk ⟨hak, hF, h2, h3, h4⟩
        right
        have e174 : K 174 k = J 174 k := by rw [hF 174 (by decide), gu_ne (by decide), gu_ne (by decide)]
        have ei : (5 * ((24 * w + ps.length : Nat) : Int) + (k : Int) - (a : Int)).toNat = 5 * (24 * w + ps.length) + (k - a) := by omega
        have ek : (k : Int) + 1 = ((k + 1 : Nat) : Int) := by omega
        have hsk := hs k hak hk
        refine ⟨gx_u K 164 (5 * (24 * w + ps.length) + (k - a)) (J 174 k), ?_, by omega, hF.wr (by decide), fun i q1 q2 => ?_, fun i hi => ?_, fun i => ?_⟩
        · simp (disch := omega) only [l_X12_adds_63, b_X12_adds_63, ↓dhi_M, ↓dhG_M_0, ↓dhG_M_1, ↓dhG_M_2, ↓dhG_M_3, ↓dhG_M_4, ↓dhG_M_5, ↓dhG_M_6, ↓dhG_M_7, ↓dhG_M_8, ↓dhg_M_9, ↓dhq_M_9, ↓dhG_M_10, ↓dhG_M_11, ↓dhG_M_12, ↓dhg_M_13, ↓dhq_M_13, ↓dhG_M_14, ↓dhg_M_15, ↓dhq_M_15, ↓dhG_M_16, ↓dhg_M_17, ↓dhq_M_17, ↓dhg_M_18, ↓dhq_M_18, ↓dhG_M_19, ↓dhG_M_20, ↓dhG_M_21, ↓dhG_M_22, ↓dhG_M_23, ↓dhG_M_24, ↓dhg_M_25, ↓dhq_M_25, ↓dhG_M_26, ↓dhG_M_27, ↓dhG_M_28, ↓dhg_M_29, ↓dhq_M_29, ↓dhG_M_30, ↓dhG_M_31, ↓dhg_M_32, ↓dhq_M_32, ↓dhg_M_33, ↓dhq_M_33, ↓dhg_M_34, ↓dhq_M_34, ↓dhg_M_35, ↓dhq_M_35, ↓dhG_M_36, ↓dhG_M_37, ↓dhg_M_38, ↓dhq_M_38, ↓dhg_M_39, ↓dhq_M_39, ↓dhG_M_40, ↓dhG_M_41, ↓dhG_M_42, ↓dhG_M_43, ↓dhg_M_44, ↓dhq_M_44, ↓dha_164, ↓dhs_164, ↓dhl_164, ↓dha_174, ↓dhs_174, ↓dhl_174, Option.bind_some, ↓nm_eq, ↓sm_inl, ↓sm_inr, ↓dzo_0, ↓dzo_1, ↓drg_ok, ↓if_pos, ↓if_neg, if_pos, if_neg, if_true, if_false, Int.toNat_natCast, rg_ok, ei, ek, e174]
        · by_cases e : i = k
          · rw [e, gu_at_eq rfl]
          · rw [gu_at_ne (by omega)]; exact h2 i q1 (by omega)
        · rw [gu_at_ne (by omega)]; exact h3 i hi
        · rw [gu_at]; split
          · unfold sgd at hsk; omega
          · exact h4 i
      · rintro f K ⟨hak, hF, h2, h3, h4⟩
        have q1 : K 161 = J 161 := by rw [hF 161 (by decide), n1]
        have q5 : K 165 = J 165 := by rw [hF 165 (by decide), gu_ne (by decide), gu_ne (by decide)]
        have q5' : K 165 w = (ps.length : Int) := by rw [q5]; exact h1
        have q9 : K 161 9 = (w : Int) := by rw [q1]; exact h9
        have q0 : K 170 = J 170 := by rw [hF 170 (by decide), gu_ne (by decide), gu_ne (by decide)]
        have q2 : ∀ k, K 162 k = if k = 24 * w + ps.length then (o : Int) else J 162 k := fun k => by rw [hF 162 (by decide), gu_ne (by decide), gu_at]
        have q3 : ∀ k, K 163 k = if k = 24 * w + ps.length then (b : Int) - (a : Int) else J 163 k := fun k => by rw [hF 163 (by decide), gu_at, gu_ne (by decide)]
        refine ⟨gx_u K 165 w ((ps.length : Int) + 1), ?_, ⟨⟨?_, fun k => ?_, fun k => ?_, fun k => ?_, fun k => ?_, fun k => ?_⟩, ?_, fun p hp => ?_⟩, ⟨?_, fun k hk => ?_, fun k hk => ?_, fun k hk => ⟨?_, ?_⟩, fun k hk => ?_⟩, ?_, ?_⟩
        · simp (disch := omega) only [l_X12_adds_63, b_X12_adds_63, b_X12_adds_96, ↓dhi_M, ↓dhG_M_0, ↓dhG_M_1, ↓dhG_M_2, ↓dhG_M_3, ↓dhG_M_4, ↓dhG_M_5, ↓dhG_M_6, ↓dhG_M_7, ↓dhG_M_8, ↓dhg_M_9, ↓dhq_M_9, ↓dhG_M_10, ↓dhG_M_11, ↓dhG_M_12, ↓dhg_M_13, ↓dhq_M_13, ↓dhG_M_14, ↓dhg_M_15, ↓dhq_M_15, ↓dhG_M_16, ↓dhg_M_17, ↓dhq_M_17, ↓dhg_M_18, ↓dhq_M_18, ↓dhG_M_19, ↓dhG_M_20, ↓dhG_M_21, ↓dhG_M_22, ↓dhG_M_23, ↓dhG_M_24, ↓dhg_M_25, ↓dhq_M_25, ↓dhG_M_26, ↓dhG_M_27, ↓dhG_M_28, ↓dhg_M_29, ↓dhq_M_29, ↓dhG_M_30, ↓dhG_M_31, ↓dhg_M_32, ↓dhq_M_32, ↓dhg_M_33, ↓dhq_M_33, ↓dhg_M_34, ↓dhq_M_34, ↓dhg_M_35, ↓dhq_M_35, ↓dhG_M_36, ↓dhG_M_37, ↓dhg_M_38, ↓dhq_M_38, ↓dhg_M_39, ↓dhq_M_39, ↓dhG_M_40, ↓dhG_M_41, ↓dhG_M_42, ↓dhG_M_43, ↓dhg_M_44, ↓dhq_M_44, ↓dha_165, ↓dhs_165, ↓dhl_165, Option.bind_some, ↓nm_eq, ↓sm_inl, ↓sm_inr, ↓dzo_0, ↓dzo_1, ↓drg_ok, ↓if_pos, ↓if_neg, if_pos, if_neg, if_true, if_false, Int.toNat_natCast, rg_ok, q9, q5']
        · rw [gu_ne (by decide), q1]; exact h.1.1
        · rw [gu_at, q5]; have := h.1.2.1 k; split <;> omega
        · rw [gu_ne (by decide), q3]; have := h.1.2.2.1 k; split <;> omega
        · rw [gu_ne (by decide), q2]; have := h.1.2.2.2.1 k; split <;> omega
        · rw [gu_ne (by decide)]; exact h4 k
        · rw [gu_ne (by decide), q0]; exact h.1.2.2.2.2.2 k
        · rw [gu_at_eq rfl, List.length_append]; rfl
        · rw [List.length_append, List.length_singleton] at hp
          rw [gu_ne (a := 165) (b := 162) (by decide), gu_ne (a := 165) (b := 163) (by decide), gu_ne (a := 165) (b := 164) (by decide), q2, q3]
          by_cases e : p = ps.length
          · rw [e, gD_m, if_pos rfl, if_pos rfl]
            refine ⟨rfl, by rw [ch_len]; omega, fun k hk => ?_⟩
            rw [ch_len] at hk
            have h7 := h2 (a + k) (by omega) (by omega)
            rw [show a + k - a = k by omega] at h7
            have hsk := hs (a + k) (by omega) (by omega)
            have e8 : (ch (J 174) a b).getD k 0 = (J 174 (a + k)).toNat := by
              unfold ch; simp [List.getD_eq_getElem?_getD, hk]
            rw [h7, e8]; unfold sgd at hsk; omega
          · have hp' : p < ps.length := by omega
            have h8 := h.2.2 p hp'
            rw [gD_l hp', if_neg (by omega), if_neg (by omega)]
            refine ⟨h8.1, h8.2.1, fun k hk => ?_⟩
            have hl5 := (h.po.2 p hp').2.1
            rw [h3 _ (by omega)]; exact h8.2.2 k hk
        · exact ((((Fr.rf.wr (by simp)).wr (by simp)).tr (hF.up (by simp))).wr (by simp))
        · rw [gu_ne (by decide), q1]
        · rw [gu_at_ne hk, q5]
        · rw [gu_ne (by decide), q2, if_neg (by omega)]
        · rw [gu_ne (by decide), q3, if_neg (by omega)]
        · rw [gu_ne (by decide), h3 k (by omega)]
        · rw [gu_ne (by decide), hF 174 (by decide), gu_ne (by decide), gu_ne (by decide)]
        · rw [gu_ne (by decide), q1]
    · right
      refine ⟨if_neg (fun z => c2 z.2), ?_⟩
      simp (disch := omega) only [f_X12_adds, ↓dhi_M, ↓dhG_M_0, ↓dhG_M_1, ↓dhG_M_2, ↓dhG_M_3, ↓dhG_M_4, ↓dhG_M_5, ↓dhG_M_6, ↓dhG_M_7, ↓dhG_M_8, ↓dhg_M_9, ↓dhq_M_9, ↓dhG_M_10, ↓dhG_M_11, ↓dhG_M_12, ↓dhg_M_13, ↓dhq_M_13, ↓dhG_M_14, ↓dhg_M_15, ↓dhq_M_15, ↓dhG_M_16, ↓dhg_M_17, ↓dhq_M_17, ↓dhg_M_18, ↓dhq_M_18, ↓dhG_M_19, ↓dhG_M_20, ↓dhG_M_21, ↓dhG_M_22, ↓dhG_M_23, ↓dhG_M_24, ↓dhg_M_25, ↓dhq_M_25, ↓dhG_M_26, ↓dhG_M_27, ↓dhG_M_28, ↓dhg_M_29, ↓dhq_M_29, ↓dhG_M_30, ↓dhG_M_31, ↓dhg_M_32, ↓dhq_M_32, ↓dhg_M_33, ↓dhq_M_33, ↓dhg_M_34, ↓dhq_M_34, ↓dhg_M_35, ↓dhq_M_35, ↓dhG_M_36, ↓dhG_M_37, ↓dhg_M_38, ↓dhq_M_38, ↓dhg_M_39, ↓dhq_M_39, ↓dhG_M_40, ↓dhG_M_41, ↓dhG_M_42, ↓dhG_M_43, ↓dhg_M_44, ↓dhq_M_44, ↓dha_165, ↓dhs_165, ↓dhl_165, Option.bind_some, ↓nm_eq, ↓sm_inl, ↓sm_inr, ↓dzo_0, ↓dzo_1, ↓drg_ok, ↓if_pos, ↓if_neg, if_pos, if_neg, if_true, if_false, Int.toNat_natCast, rg_ok, h9, h1]
  · right
    refine ⟨if_neg (fun z => c1 z.1), ?_⟩
    simp (disch := omega) only [f_X12_adds, ↓dhi_M, ↓dhG_M_0, ↓dhG_M_1, ↓dhG_M_2, ↓dhG_M_3, ↓dhG_M_4, ↓dhG_M_5, ↓dhG_M_6, ↓dhG_M_7, ↓dhG_M_8, ↓dhg_M_9, ↓dhq_M_9, ↓dhG_M_10, ↓dhG_M_11, ↓dhG_M_12, ↓dhg_M_13, ↓dhq_M_13, ↓dhG_M_14, ↓dhg_M_15, ↓dhq_M_15, ↓dhG_M_16, ↓dhg_M_17, ↓dhq_M_17, ↓dhg_M_18, ↓dhq_M_18, ↓dhG_M_19, ↓dhG_M_20, ↓dhG_M_21, ↓dhG_M_22, ↓dhG_M_23, ↓dhG_M_24, ↓dhg_M_25, ↓dhq_M_25, ↓dhG_M_26, ↓dhG_M_27, ↓dhG_M_28, ↓dhg_M_29, ↓dhq_M_29, ↓dhG_M_30, ↓dhG_M_31, ↓dhg_M_32, ↓dhq_M_32, ↓dhg_M_33, ↓dhq_M_33, ↓dhg_M_34, ↓dhq_M_34, ↓dhg_M_35, ↓dhq_M_35, ↓dhG_M_36, ↓dhG_M_37, ↓dhg_M_38, ↓dhq_M_38, ↓dhg_M_39, ↓dhq_M_39, ↓dhG_M_40, ↓dhG_M_41, ↓dhG_M_42, ↓dhG_M_43, ↓dhg_M_44, ↓dhq_M_44, ↓dha_165, ↓dhs_165, ↓dhl_165, Option.bind_some, ↓nm_eq, ↓sm_inl, ↓sm_inr, ↓dzo_0, ↓dzo_1, ↓drg_ok, ↓if_pos, ↓if_neg, if_pos, if_neg, if_true, if_false, Int.toNat_natCast, rg_ok, h9, h1]
theorem X12_helper (hn : 1000000000000000000000000000000 ≤ n) {w : Nat} {J : Nat → Nat → Int} {ps : List (Nat × List Nat)} (h : RQ w J ps) (h9 : J 161 9 = (w : Int)) : f_X12_helper n 161 (hp u J L) = some (match fH ps with | none => -1 | some x => (x : Int)) := by
  have hw2 : w < 2 := by have := h.1.1; omega
  have hpo := h.po
  have h24 := hpo.1
  have h1 := h.2.1
  have inn : ∀ (r3 : Nat → Int → gi_H → Option Int) (r13 : Nat → Int → Int → Int → gi_H → Option Int) (i p : Nat), i < 16 → p < ps.length → zLP (ps.getD p (0, [])).2.length (fun f k (y : Int) => l_X12_helper_61 n r3 r13 f 161 (i : Int) y (p : Int) ((24 * w + p : Nat) : Int) (k : Int) (hp u J L))
      (fun k y => (y = 0 ∨ y = 1) ∧ (y = 1 ↔ (∃ p', p' < p ∧ uo (gtp ps 0) p' i) ∨ (ps.getD p (0, [])).1 = i ∨ ∃ k', k' < k ∧ (ps.getD p (0, [])).2.getD k' 0 = 16 + i))
      (fun r => ∃ y, r = r13 161 (i : Int) y ((p + 1 : Nat) : Int) (hp u J L) ∧ (y = 0 ∨ y = 1) ∧ (y = 1 ↔ ∃ p', p' < p + 1 ∧ uo (gtp ps 0) p' i)) := by
    intro r3 r13 i p hi hp1
    have h5 := (hpo.2 p hp1).2.1
    have h2 := h.2.2 p hp1
    refine zlp ?_ ?_
    · rintro f k y hk ⟨hy1, hy2⟩
      right
      have ek : (k : Int) + 1 = ((k + 1 : Nat) : Int) := by omega
      have ei : (5 * ((24 * w + p : Nat) : Int) + (k : Int)).toNat = 5 * (24 * w + p) + k := by omega
      have h6 := h2.2.2 k hk
      have h7 := (hpo.2 p hp1).2.2 k hk
      by_cases c : y = 1
      · refine ⟨1, ?_, Or.inr rfl, ⟨fun _ => ?_, fun _ => rfl⟩⟩
        · simp (disch := omega) only [l_X12_helper_61, b_X12_helper_61, b_X12_helper_96, b_X12_helper_101, ↓dhi_M, ↓dhG_M_0, ↓dhG_M_1, ↓dhG_M_2, ↓dhG_M_3, ↓dhG_M_4, ↓dhG_M_5, ↓dhG_M_6, ↓dhG_M_7, ↓dhG_M_8, ↓dhg_M_9, ↓dhq_M_9, ↓dhG_M_10, ↓dhG_M_11, ↓dhG_M_12, ↓dhg_M_13, ↓dhq_M_13, ↓dhG_M_14, ↓dhg_M_15, ↓dhq_M_15, ↓dhG_M_16, ↓dhg_M_17, ↓dhq_M_17, ↓dhg_M_18, ↓dhq_M_18, ↓dhG_M_19, ↓dhG_M_20, ↓dhG_M_21, ↓dhG_M_22, ↓dhG_M_23, ↓dhG_M_24, ↓dhg_M_25, ↓dhq_M_25, ↓dhG_M_26, ↓dhG_M_27, ↓dhG_M_28, ↓dhg_M_29, ↓dhq_M_29, ↓dhG_M_30, ↓dhG_M_31, ↓dhg_M_32, ↓dhq_M_32, ↓dhg_M_33, ↓dhq_M_33, ↓dhg_M_34, ↓dhq_M_34, ↓dhg_M_35, ↓dhq_M_35, ↓dhG_M_36, ↓dhG_M_37, ↓dhg_M_38, ↓dhq_M_38, ↓dhg_M_39, ↓dhq_M_39, ↓dhG_M_40, ↓dhG_M_41, ↓dhG_M_42, ↓dhG_M_43, ↓dhg_M_44, ↓dhq_M_44, ↓dha_163, ↓dhs_163, ↓dhl_163, ↓dha_164, ↓dhs_164, ↓dhl_164, Option.bind_some, ↓nm_eq, ↓sm_inl, ↓sm_inr, ↓dzo_0, ↓dzo_1, ↓drg_ok, ↓if_pos, ↓if_neg, if_pos, if_neg, if_true, if_false, Int.toNat_natCast, rg_ok, h2.2.1, ek]
        · rcases hy2.mp c with z | z | ⟨k', z1, z2⟩
          · exact Or.inl z
          · exact Or.inr (Or.inl z)
          · exact Or.inr (Or.inr ⟨k', by omega, z2⟩)
      · by_cases c2 : (ps.getD p (0, [])).2.getD k 0 = 16 + i
        · refine ⟨1, ?_, Or.inr rfl, ⟨fun _ => Or.inr (Or.inr ⟨k, by omega, c2⟩), fun _ => rfl⟩⟩
          simp (disch := omega) only [l_X12_helper_61, b_X12_helper_61, b_X12_helper_96, b_X12_helper_101, ↓dhi_M, ↓dhG_M_0, ↓dhG_M_1, ↓dhG_M_2, ↓dhG_M_3, ↓dhG_M_4, ↓dhG_M_5, ↓dhG_M_6, ↓dhG_M_7, ↓dhG_M_8, ↓dhg_M_9, ↓dhq_M_9, ↓dhG_M_10, ↓dhG_M_11, ↓dhG_M_12, ↓dhg_M_13, ↓dhq_M_13, ↓dhG_M_14, ↓dhg_M_15, ↓dhq_M_15, ↓dhG_M_16, ↓dhg_M_17, ↓dhq_M_17, ↓dhg_M_18, ↓dhq_M_18, ↓dhG_M_19, ↓dhG_M_20, ↓dhG_M_21, ↓dhG_M_22, ↓dhG_M_23, ↓dhG_M_24, ↓dhg_M_25, ↓dhq_M_25, ↓dhG_M_26, ↓dhG_M_27, ↓dhG_M_28, ↓dhg_M_29, ↓dhq_M_29, ↓dhG_M_30, ↓dhG_M_31, ↓dhg_M_32, ↓dhq_M_32, ↓dhg_M_33, ↓dhq_M_33, ↓dhg_M_34, ↓dhq_M_34, ↓dhg_M_35, ↓dhq_M_35, ↓dhG_M_36, ↓dhG_M_37, ↓dhg_M_38, ↓dhq_M_38, ↓dhg_M_39, ↓dhq_M_39, ↓dhG_M_40, ↓dhG_M_41, ↓dhG_M_42, ↓dhG_M_43, ↓dhg_M_44, ↓dhq_M_44, ↓dha_163, ↓dhs_163, ↓dhl_163, ↓dha_164, ↓dhs_164, ↓dhl_164, Option.bind_some, ↓nm_eq, ↓sm_inl, ↓sm_inr, ↓dzo_0, ↓dzo_1, ↓drg_ok, ↓if_pos, ↓if_neg, if_pos, if_neg, if_true, if_false, Int.toNat_natCast, rg_ok, h2.2.1, ei, h6, ek]
        · refine ⟨0, ?_, Or.inl rfl, ⟨fun z => absurd z (by decide), fun z => ?_⟩⟩
          · simp (disch := omega) only [l_X12_helper_61, b_X12_helper_61, b_X12_helper_96, b_X12_helper_101, ↓dhi_M, ↓dhG_M_0, ↓dhG_M_1, ↓dhG_M_2, ↓dhG_M_3, ↓dhG_M_4, ↓dhG_M_5, ↓dhG_M_6, ↓dhG_M_7, ↓dhG_M_8, ↓dhg_M_9, ↓dhq_M_9, ↓dhG_M_10, ↓dhG_M_11, ↓dhG_M_12, ↓dhg_M_13, ↓dhq_M_13, ↓dhG_M_14, ↓dhg_M_15, ↓dhq_M_15, ↓dhG_M_16, ↓dhg_M_17, ↓dhq_M_17, ↓dhg_M_18, ↓dhq_M_18, ↓dhG_M_19, ↓dhG_M_20, ↓dhG_M_21, ↓dhG_M_22, ↓dhG_M_23, ↓dhG_M_24, ↓dhg_M_25, ↓dhq_M_25, ↓dhG_M_26, ↓dhG_M_27, ↓dhG_M_28, ↓dhg_M_29, ↓dhq_M_29, ↓dhG_M_30, ↓dhG_M_31, ↓dhg_M_32, ↓dhq_M_32, ↓dhg_M_33, ↓dhq_M_33, ↓dhg_M_34, ↓dhq_M_34, ↓dhg_M_35, ↓dhq_M_35, ↓dhG_M_36, ↓dhG_M_37, ↓dhg_M_38, ↓dhq_M_38, ↓dhg_M_39, ↓dhq_M_39, ↓dhG_M_40, ↓dhG_M_41, ↓dhG_M_42, ↓dhG_M_43, ↓dhg_M_44, ↓dhq_M_44, ↓dha_163, ↓dhs_163, ↓dhl_163, ↓dha_164, ↓dhs_164, ↓dhl_164, Option.bind_some, ↓nm_eq, ↓sm_inl, ↓sm_inr, ↓dzo_0, ↓dzo_1, ↓drg_ok, ↓if_pos, ↓if_neg, if_pos, if_neg, if_true, if_false, Int.toNat_natCast, rg_ok, h2.2.1, ei, h6, ek]
          · exfalso
            apply c
            rw [hy2]
            rcases z with z | z | ⟨k', z1, z2⟩
            · exact Or.inl z
            · exact Or.inr (Or.inl z)
            · by_cases e : k' = k
              · rw [e] at z2; exact absurd z2 c2
              · exact Or.inr (Or.inr ⟨k', by omega, z2⟩)
    · rintro f y ⟨hy1, hy2⟩
      refine ⟨y, ?_, hy1, hy2.trans ?_⟩
      · simp (disch := omega) only [l_X12_helper_61, b_X12_helper_61, b_X12_helper_108, ↓dhi_M, ↓dhG_M_0, ↓dhG_M_1, ↓dhG_M_2, ↓dhG_M_3, ↓dhG_M_4, ↓dhG_M_5, ↓dhG_M_6, ↓dhG_M_7, ↓dhG_M_8, ↓dhg_M_9, ↓dhq_M_9, ↓dhG_M_10, ↓dhG_M_11, ↓dhG_M_12, ↓dhg_M_13, ↓dhq_M_13, ↓dhG_M_14, ↓dhg_M_15, ↓dhq_M_15, ↓dhG_M_16, ↓dhg_M_17, ↓dhq_M_17, ↓dhg_M_18, ↓dhq_M_18, ↓dhG_M_19, ↓dhG_M_20, ↓dhG_M_21, ↓dhG_M_22, ↓dhG_M_23, ↓dhG_M_24, ↓dhg_M_25, ↓dhq_M_25, ↓dhG_M_26, ↓dhG_M_27, ↓dhG_M_28, ↓dhg_M_29, ↓dhq_M_29, ↓dhG_M_30, ↓dhG_M_31, ↓dhg_M_32, ↓dhq_M_32, ↓dhg_M_33, ↓dhq_M_33, ↓dhg_M_34, ↓dhq_M_34, ↓dhg_M_35, ↓dhq_M_35, ↓dhG_M_36, ↓dhG_M_37, ↓dhg_M_38, ↓dhq_M_38, ↓dhg_M_39, ↓dhq_M_39, ↓dhG_M_40, ↓dhG_M_41, ↓dhG_M_42, ↓dhG_M_43, ↓dhg_M_44, ↓dhq_M_44, ↓dha_163, ↓dhs_163, ↓dhl_163, ↓dha_164, ↓dhs_164, ↓dhl_164, Option.bind_some, ↓nm_eq, ↓sm_inl, ↓sm_inr, ↓dzo_0, ↓dzo_1, ↓drg_ok, ↓if_pos, ↓if_neg, if_pos, if_neg, if_true, if_false, Int.toNat_natCast, rg_ok, h2.2.1]
        rw [show (p : Int) + 1 = ((p + 1 : Nat) : Int) by omega]
      · constructor
        · rintro (⟨p', z1, z2⟩ | z | ⟨k', z1, z2⟩)
          · exact ⟨p', by omega, z2⟩
          · exact ⟨p, by omega, Or.inl z⟩
          · exact ⟨p, by omega, Or.inr ⟨k', z1, z2⟩⟩
        · rintro ⟨p', z1, z2⟩
          by_cases e : p' = p
          · subst e
            rcases z2 with z2 | ⟨k', z3, z4⟩
            · exact Or.inr (Or.inl z2)
            · exact Or.inr (Or.inr ⟨k', z3, z4⟩)
          · exact Or.inl ⟨p', by omega, z2⟩
  have mid : ∀ (r3 : Nat → Int → gi_H → Option Int) (i : Nat), i < 16 → zLP ps.length (fun f p (y : Int) => l_X12_helper_13 n r3 f 161 (i : Int) y (p : Int) (hp u J L)) (fun p y => (y = 0 ∨ y = 1) ∧ (y = 1 ↔ ∃ p', p' < p ∧ uo (gtp ps 0) p' i))
      (fun r => r = if pU ps i then r3 161 ((i + 1 : Nat) : Int) (hp u J L) else some (i : Int)) := by
    intro r3 i hi
    refine zlp ?_ ?_
    · rintro f p y hp1 ⟨hy1, hy2⟩
      right
      have h2 := h.2.2 p hp1
      have h5 := hpo.2 p hp1
      have eat : 24 * (w : Int) + (p : Int) = ((24 * w + p : Nat) : Int) := by omega
      obtain ⟨y', e, q1, q2⟩ := inn r3 (l_X12_helper_13 n r3 f) i p hi hp1 (ps.getD p (0, [])).2.length n 0 (if y = 1 ∨ (ps.getD p (0, [])).1 = i then 1 else 0) (by omega) (by omega) ⟨by split <;> simp, by
        split
        · next c => exact ⟨fun _ => c.elim (fun z => Or.inl (hy2.mp z)) (fun z => Or.inr (Or.inl z)), fun _ => rfl⟩
        · next c => exact ⟨fun z => absurd z (by decide), fun z => absurd (z.elim (fun z => Or.inl (hy2.mpr z)) (fun z => z.elim Or.inr (fun ⟨k', z1, _⟩ => absurd z1 (by omega)))) c⟩⟩
      refine ⟨y', ?_, q1, q2⟩
      have e' : l_X12_helper_61 n r3 (l_X12_helper_13 n r3 f) n 161 (i : Int) (if y = 1 ∨ (ps.getD p (0, [])).1 = i then 1 else 0) (p : Int) ((24 * w + p : Nat) : Int) 0 (hp u J L) = l_X12_helper_13 n r3 f 161 (i : Int) y' ((p + 1 : Nat) : Int) (hp u J L) := e
      rw [← e']
      by_cases c : y = 1
      · rw [if_pos (Or.inl c)]
        simp (disch := omega) only [l_X12_helper_13, b_X12_helper_13, b_X12_helper_52, b_X12_helper_57, ↓dhi_M, ↓dhG_M_0, ↓dhG_M_1, ↓dhG_M_2, ↓dhG_M_3, ↓dhG_M_4, ↓dhG_M_5, ↓dhG_M_6, ↓dhG_M_7, ↓dhG_M_8, ↓dhg_M_9, ↓dhq_M_9, ↓dhG_M_10, ↓dhG_M_11, ↓dhG_M_12, ↓dhg_M_13, ↓dhq_M_13, ↓dhG_M_14, ↓dhg_M_15, ↓dhq_M_15, ↓dhG_M_16, ↓dhg_M_17, ↓dhq_M_17, ↓dhg_M_18, ↓dhq_M_18, ↓dhG_M_19, ↓dhG_M_20, ↓dhG_M_21, ↓dhG_M_22, ↓dhG_M_23, ↓dhG_M_24, ↓dhg_M_25, ↓dhq_M_25, ↓dhG_M_26, ↓dhG_M_27, ↓dhG_M_28, ↓dhg_M_29, ↓dhq_M_29, ↓dhG_M_30, ↓dhG_M_31, ↓dhg_M_32, ↓dhq_M_32, ↓dhg_M_33, ↓dhq_M_33, ↓dhg_M_34, ↓dhq_M_34, ↓dhg_M_35, ↓dhq_M_35, ↓dhG_M_36, ↓dhG_M_37, ↓dhg_M_38, ↓dhq_M_38, ↓dhg_M_39, ↓dhq_M_39, ↓dhG_M_40, ↓dhG_M_41, ↓dhG_M_42, ↓dhG_M_43, ↓dhg_M_44, ↓dhq_M_44, ↓dha_165, ↓dhs_165, ↓dhl_165, ↓dha_162, ↓dhs_162, ↓dhl_162, Option.bind_some, ↓nm_eq, ↓sm_inl, ↓sm_inr, ↓dzo_0, ↓dzo_1, ↓drg_ok, ↓if_pos, ↓if_neg, if_pos, if_neg, if_true, if_false, Int.toNat_natCast, rg_ok, h9, h1, eat]
      · have y0 : y = 0 := hy1.elim id (fun z => absurd z c)
        by_cases c2 : (ps.getD p (0, [])).1 = i
        · rw [if_pos (Or.inr c2)]
          simp (disch := omega) only [l_X12_helper_13, b_X12_helper_13, b_X12_helper_52, b_X12_helper_57, ↓dhi_M, ↓dhG_M_0, ↓dhG_M_1, ↓dhG_M_2, ↓dhG_M_3, ↓dhG_M_4, ↓dhG_M_5, ↓dhG_M_6, ↓dhG_M_7, ↓dhG_M_8, ↓dhg_M_9, ↓dhq_M_9, ↓dhG_M_10, ↓dhG_M_11, ↓dhG_M_12, ↓dhg_M_13, ↓dhq_M_13, ↓dhG_M_14, ↓dhg_M_15, ↓dhq_M_15, ↓dhG_M_16, ↓dhg_M_17, ↓dhq_M_17, ↓dhg_M_18, ↓dhq_M_18, ↓dhG_M_19, ↓dhG_M_20, ↓dhG_M_21, ↓dhG_M_22, ↓dhG_M_23, ↓dhG_M_24, ↓dhg_M_25, ↓dhq_M_25, ↓dhG_M_26, ↓dhG_M_27, ↓dhG_M_28, ↓dhg_M_29, ↓dhq_M_29, ↓dhG_M_30, ↓dhG_M_31, ↓dhg_M_32, ↓dhq_M_32, ↓dhg_M_33, ↓dhq_M_33, ↓dhg_M_34, ↓dhq_M_34, ↓dhg_M_35, ↓dhq_M_35, ↓dhG_M_36, ↓dhG_M_37, ↓dhg_M_38, ↓dhq_M_38, ↓dhg_M_39, ↓dhq_M_39, ↓dhG_M_40, ↓dhG_M_41, ↓dhG_M_42, ↓dhG_M_43, ↓dhg_M_44, ↓dhq_M_44, ↓dha_165, ↓dhs_165, ↓dhl_165, ↓dha_162, ↓dhs_162, ↓dhl_162, Option.bind_some, ↓nm_eq, ↓sm_inl, ↓sm_inr, ↓dzo_0, ↓dzo_1, ↓drg_ok, ↓if_pos, ↓if_neg, if_pos, if_neg, if_true, if_false, Int.toNat_natCast, rg_ok, h9, h1, eat, h2.1, y0]
        · rw [if_neg (fun z => z.elim c c2)]
          simp (disch := omega) only [l_X12_helper_13, b_X12_helper_13, b_X12_helper_52, b_X12_helper_57, ↓dhi_M, ↓dhG_M_0, ↓dhG_M_1, ↓dhG_M_2, ↓dhG_M_3, ↓dhG_M_4, ↓dhG_M_5, ↓dhG_M_6, ↓dhG_M_7, ↓dhG_M_8, ↓dhg_M_9, ↓dhq_M_9, ↓dhG_M_10, ↓dhG_M_11, ↓dhG_M_12, ↓dhg_M_13, ↓dhq_M_13, ↓dhG_M_14, ↓dhg_M_15, ↓dhq_M_15, ↓dhG_M_16, ↓dhg_M_17, ↓dhq_M_17, ↓dhg_M_18, ↓dhq_M_18, ↓dhG_M_19, ↓dhG_M_20, ↓dhG_M_21, ↓dhG_M_22, ↓dhG_M_23, ↓dhG_M_24, ↓dhg_M_25, ↓dhq_M_25, ↓dhG_M_26, ↓dhG_M_27, ↓dhG_M_28, ↓dhg_M_29, ↓dhq_M_29, ↓dhG_M_30, ↓dhG_M_31, ↓dhg_M_32, ↓dhq_M_32, ↓dhg_M_33, ↓dhq_M_33, ↓dhg_M_34, ↓dhq_M_34, ↓dhg_M_35, ↓dhq_M_35, ↓dhG_M_36, ↓dhG_M_37, ↓dhg_M_38, ↓dhq_M_38, ↓dhg_M_39, ↓dhq_M_39, ↓dhG_M_40, ↓dhG_M_41, ↓dhG_M_42, ↓dhG_M_43, ↓dhg_M_44, ↓dhq_M_44, ↓dha_165, ↓dhs_165, ↓dhl_165, ↓dha_162, ↓dhs_162, ↓dhl_162, Option.bind_some, ↓nm_eq, ↓sm_inl, ↓sm_inr, ↓dzo_0, ↓dzo_1, ↓drg_ok, ↓if_pos, ↓if_neg, if_pos, if_neg, if_true, if_false, Int.toNat_natCast, rg_ok, h9, h1, eat, h2.1, y0]
    · rintro f y ⟨hy1, hy2⟩
      have hpu : y = 1 ↔ pU ps i = true := hy2.trans pU_iff.symm
      have ei : (i : Int) + 1 = ((i + 1 : Nat) : Int) := by omega
      by_cases c : pU ps i = true
      · rw [if_pos c]
        have := hpu.mpr c
        simp (disch := omega) only [l_X12_helper_13, b_X12_helper_13, b_X12_helper_114, ↓dhi_M, ↓dhG_M_0, ↓dhG_M_1, ↓dhG_M_2, ↓dhG_M_3, ↓dhG_M_4, ↓dhG_M_5, ↓dhG_M_6, ↓dhG_M_7, ↓dhG_M_8, ↓dhg_M_9, ↓dhq_M_9, ↓dhG_M_10, ↓dhG_M_11, ↓dhG_M_12, ↓dhg_M_13, ↓dhq_M_13, ↓dhG_M_14, ↓dhg_M_15, ↓dhq_M_15, ↓dhG_M_16, ↓dhg_M_17, ↓dhq_M_17, ↓dhg_M_18, ↓dhq_M_18, ↓dhG_M_19, ↓dhG_M_20, ↓dhG_M_21, ↓dhG_M_22, ↓dhG_M_23, ↓dhG_M_24, ↓dhg_M_25, ↓dhq_M_25, ↓dhG_M_26, ↓dhG_M_27, ↓dhG_M_28, ↓dhg_M_29, ↓dhq_M_29, ↓dhG_M_30, ↓dhG_M_31, ↓dhg_M_32, ↓dhq_M_32, ↓dhg_M_33, ↓dhq_M_33, ↓dhg_M_34, ↓dhq_M_34, ↓dhg_M_35, ↓dhq_M_35, ↓dhG_M_36, ↓dhG_M_37, ↓dhg_M_38, ↓dhq_M_38, ↓dhg_M_39, ↓dhq_M_39, ↓dhG_M_40, ↓dhG_M_41, ↓dhG_M_42, ↓dhG_M_43, ↓dhg_M_44, ↓dhq_M_44, ↓dha_165, ↓dhs_165, ↓dhl_165, Option.bind_some, ↓nm_eq, ↓sm_inl, ↓sm_inr, ↓dzo_0, ↓dzo_1, ↓drg_ok, ↓if_pos, ↓if_neg, if_pos, if_neg, if_true, if_false, Int.toNat_natCast, rg_ok, h9, h1, ei]
      · rw [if_neg c]
        have := mt hpu.mp c
        simp (disch := omega) only [l_X12_helper_13, b_X12_helper_13, b_X12_helper_114, ↓dhi_M, ↓dhG_M_0, ↓dhG_M_1, ↓dhG_M_2, ↓dhG_M_3, ↓dhG_M_4, ↓dhG_M_5, ↓dhG_M_6, ↓dhG_M_7, ↓dhG_M_8, ↓dhg_M_9, ↓dhq_M_9, ↓dhG_M_10, ↓dhG_M_11, ↓dhG_M_12, ↓dhg_M_13, ↓dhq_M_13, ↓dhG_M_14, ↓dhg_M_15, ↓dhq_M_15, ↓dhG_M_16, ↓dhg_M_17, ↓dhq_M_17, ↓dhg_M_18, ↓dhq_M_18, ↓dhG_M_19, ↓dhG_M_20, ↓dhG_M_21, ↓dhG_M_22, ↓dhG_M_23, ↓dhG_M_24, ↓dhg_M_25, ↓dhq_M_25, ↓dhG_M_26, ↓dhG_M_27, ↓dhG_M_28, ↓dhg_M_29, ↓dhq_M_29, ↓dhG_M_30, ↓dhG_M_31, ↓dhg_M_32, ↓dhq_M_32, ↓dhg_M_33, ↓dhq_M_33, ↓dhg_M_34, ↓dhq_M_34, ↓dhg_M_35, ↓dhq_M_35, ↓dhG_M_36, ↓dhG_M_37, ↓dhg_M_38, ↓dhq_M_38, ↓dhg_M_39, ↓dhq_M_39, ↓dhG_M_40, ↓dhG_M_41, ↓dhG_M_42, ↓dhG_M_43, ↓dhg_M_44, ↓dhq_M_44, ↓dha_165, ↓dhs_165, ↓dhl_165, Option.bind_some, ↓nm_eq, ↓sm_inl, ↓sm_inr, ↓dzo_0, ↓dzo_1, ↓drg_ok, ↓if_pos, ↓if_neg, if_pos, if_neg, if_true, if_false, Int.toNat_natCast, rg_ok, h9, h1]
  have fin : ∀ (m f k : Nat), 16 = k + m → m < f → l_X12_helper_3 n f 161 (k : Int) (hp u J L) = some (match fHs ps m k with | none => -1 | some x => (x : Int)) := by
    intro m
    induction m with
    | zero =>
      intro f k hm hf
      obtain ⟨f', rfl⟩ : ∃ f', f = f' + 1 := ⟨f - 1, by omega⟩
      simp (disch := omega) only [l_X12_helper_3, b_X12_helper_3, Option.bind_some, ↓nm_eq, ↓sm_inl, ↓sm_inr, ↓dzo_0, ↓dzo_1, ↓drg_ok, ↓if_pos, ↓if_neg, if_pos, if_neg, if_true, if_false, Int.toNat_natCast, rg_ok, fHs]
    | succ m ih =>
      intro f k hm hf
      obtain ⟨f', rfl⟩ : ∃ f', f = f' + 1 := ⟨f - 1, by omega⟩
      have e := mid (l_X12_helper_3 n f') k (by omega) ps.length n 0 0 (by omega) (by omega) ⟨Or.inl rfl, ⟨fun z => absurd z (by decide), fun ⟨p', z, _⟩ => absurd z (by omega)⟩⟩
      have e' : l_X12_helper_13 n (l_X12_helper_3 n f') n 161 (k : Int) 0 0 (hp u J L) = if pU ps k then l_X12_helper_3 n f' 161 ((k + 1 : Nat) : Int) (hp u J L) else some (k : Int) := e
      simp (disch := omega) only [l_X12_helper_3, b_X12_helper_3, Option.bind_some, ↓nm_eq, ↓sm_inl, ↓sm_inr, ↓dzo_0, ↓dzo_1, ↓drg_ok, ↓if_pos, ↓if_neg, if_pos, if_neg, if_true, if_false, Int.toNat_natCast, rg_ok, e', fHs]
      by_cases q : pU ps k = true
      · rw [if_pos q, if_pos q]; exact ih f' (k + 1) (by omega) (by omega)
      · rw [if_neg q, if_neg q]
  exact fin 8 n 8 (by omega) (by omega)
end QA
