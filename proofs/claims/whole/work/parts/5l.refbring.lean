/-! ===== the reference: a rule entered, rules brought, the last one taken away ===== -/
theorem RQ.cut {w : Nat} {J : Nat → Nat → Int} {ps : List (Nat × List Nat)} {c : Nat} (h : RQ w J ps) (hc : c ≤ ps.length) : RQ w (gx_u J 165 w (c : Int)) (ps.take c) := by
  obtain ⟨r, h1, h2⟩ := h
  have r5 := r.2.1 w
  have hl : (ps.take c).length = c := by simp; omega
  refine ⟨⟨?_, fun k => ?_, fun k => ?_, fun k => ?_, fun k => ?_, fun k => ?_⟩, ?_, fun p hp => ?_⟩
  · rw [gu_ne (by decide)]; exact r.1
  · rw [gu_at]; have := r.2.1 k; split <;> omega
  · rw [gu_ne (by decide)]; exact r.2.2.1 k
  · rw [gu_ne (by decide)]; exact r.2.2.2.1 k
  · rw [gu_ne (by decide)]; exact r.2.2.2.2.1 k
  · rw [gu_ne (by decide)]; exact r.2.2.2.2.2 k
  · rw [gu_at_eq rfl, hl]
  · rw [hl] at hp
    rw [gD_t hp, gu_ne (a := 165) (b := 162) (by decide), gu_ne (a := 165) (b := 163) (by decide), gu_ne (a := 165) (b := 164) (by decide)]
    exact h2 p (by omega)
theorem FR.many {w : Nat} {J : Nat → Nat → Int} {x : Int} : FR w J (gx_u J 165 w x) := ⟨Fr.rf.wr (by simp), fun k _ _ _ _ => by rw [gu_ne (by decide)], fun k hk => ⟨gu_at_ne hk, by rw [gu_ne (by decide)]⟩, fun k _ => ⟨by rw [gu_ne (by decide)], by rw [gu_ne (by decide)], by rw [gu_ne (by decide)], by rw [gu_ne (by decide)]⟩, fun k _ => by rw [gu_ne (by decide)], fun k _ => by rw [gu_ne (by decide)]⟩
theorem FR.rules {w : Nat} {J : Nat → Nat → Int} {x : Int} : FR w J (gx_u J 166 w x) := ⟨Fr.rf.wr (by simp), fun k _ _ _ _ => by rw [gu_ne (by decide)], fun k hk => ⟨by rw [gu_ne (by decide)], gu_at_ne hk⟩, fun k _ => ⟨by rw [gu_ne (by decide)], by rw [gu_ne (by decide)], by rw [gu_ne (by decide)], by rw [gu_ne (by decide)]⟩, fun k _ => by rw [gu_ne (by decide)], fun k _ => by rw [gu_ne (by decide)]⟩
theorem FR.ff {w : Nat} {J : Nat → Nat → Int} {x : Int} {f : Nat} (h : f = 15 ∨ f = 33 ∨ f = 34 ∨ f = 35) : FR w J (gx_u J 161 f x) := ⟨Fr.rf.wr (by simp), fun k h1 h2 h3 h4 => gu_at_ne (by omega), fun k hk => ⟨by rw [gu_ne (by decide)], by rw [gu_ne (by decide)]⟩, fun k _ => ⟨by rw [gu_ne (by decide)], by rw [gu_ne (by decide)], by rw [gu_ne (by decide)], by rw [gu_ne (by decide)]⟩, fun k _ => by rw [gu_ne (by decide)], fun k _ => by rw [gu_ne (by decide)]⟩
/-- what is found and built is forgotten -/
def chg (J : Nat → Nat → Int) : Nat → Nat → Int := gx_u (gx_u (gx_u J 161 33 0) 161 34 0) 161 35 0
theorem chg_ne {J : Nat → Nat → Int} {a : Nat} (h : a ≠ 161) : chg J a = J a := by unfold chg; rw [gu_ne h, gu_ne h, gu_ne h]
theorem chg_k {J : Nat → Nat → Int} {k : Nat} (h : k ≠ 33 ∧ k ≠ 34 ∧ k ≠ 35) : chg J 161 k = J 161 k := by unfold chg; rw [gu_at_ne h.2.2, gu_at_ne h.2.1, gu_at_ne h.1]
theorem chg_0 {J : Nat → Nat → Int} : chg J 161 33 = 0 ∧ chg J 161 34 = 0 ∧ chg J 161 35 = 0 := by
  unfold chg
  refine ⟨?_, ?_, gu_same _ _ _ _⟩
  · rw [gu_at_ne (by decide), gu_at_ne (by decide), gu_same]
  · rw [gu_at_ne (by decide), gu_same]
theorem FR.chg {w : Nat} {J : Nat → Nat → Int} : FR w J (chg J) := (FR.ff (by omega)).tr ((FR.ff (by omega)).tr (FR.ff (by omega)))
theorem chg_fr {J : Nat → Nat → Int} : Fr [161] J (chg J) := fun a h => chg_ne (by simpa using h)
theorem RG.fr {w : Nat} {J K : Nat → Nat → Int} {ps : List (Nat × List Nat)} {rs : List (Nat × List Int)} (h : RG w J ps rs) {l : List Nat} (f : Fr l J K) (h9 : K 161 9 = J 161 9) (q : (162 ∉ l ∧ 163 ∉ l ∧ 164 ∉ l ∧ 165 ∉ l ∧ 170 ∉ l) ∧ 166 ∉ l ∧ 167 ∉ l ∧ 168 ∉ l ∧ 169 ∉ l) : RG w K ps rs := by
  refine ⟨h.1.fr f h9 q.1, ?_, ?_⟩
  · rw [f 166 q.2.1]; exact h.2.1
  · rw [f 167 q.2.2.1, f 168 q.2.2.2.1, f 169 q.2.2.2.2]; exact h.2.2
theorem RG.chg {w : Nat} {J : Nat → Nat → Int} {ps : List (Nat × List Nat)} {rs : List (Nat × List Int)} (h : RG w J ps rs) : RG w (chg J) ps rs := h.fr chg_fr (chg_k (by decide)) (by decide)
theorem RG.cut {w : Nat} {J : Nat → Nat → Int} {ps : List (Nat × List Nat)} {rs : List (Nat × List Int)} (h : RG w J ps rs) {c r : Nat} (hc : c ≤ ps.length) (hr : r ≤ rs.length) : RG w (gx_u (gx_u J 166 w (r : Int)) 165 w (c : Int)) (ps.take c) (rs.take r) := by
  have hl : (rs.take r).length = r := by simp; omega
  have h2 : RQ w (gx_u J 166 w (r : Int)) ps := h.1.fr (l := [166]) (Fr.rf.wr (by simp)) (by rw [gu_ne (by decide)]) (by decide)
  refine ⟨h2.cut hc, ?_, fun i hi => ?_⟩
  · rw [gu_ne (by decide), gu_at_eq rfl, hl]
  · rw [hl] at hi
    rw [gD_t hi, gu_ne (a := 165) (b := 167) (by decide), gu_ne (a := 166) (b := 167) (by decide), gu_ne (a := 165) (b := 168) (by decide), gu_ne (a := 166) (b := 168) (by decide), gu_ne (a := 165) (b := 169) (by decide), gu_ne (a := 166) (b := 169) (by decide)]
    exact h.2.2 i (by omega)
section QD
variable {u : Nat} {n : Nat} {L : Nat → Nat → Int}
theorem X12_changed {J : Nat → Nat → Int} : f_X12_changed 161 (hp u J L) = some (hp u (chg J) L) := by
  simp (disch := omega) only [f_X12_changed, ↓dhi_M, ↓dhG_M_0, ↓dhG_M_1, ↓dhG_M_2, ↓dhG_M_3, ↓dhG_M_4, ↓dhG_M_5, ↓dhG_M_6, ↓dhG_M_7, ↓dhG_M_8, ↓dhg_M_9, ↓dhq_M_9, ↓dhG_M_10, ↓dhG_M_11, ↓dhG_M_12, ↓dhg_M_13, ↓dhq_M_13, ↓dhG_M_14, ↓dhg_M_15, ↓dhq_M_15, ↓dhG_M_16, ↓dhg_M_17, ↓dhq_M_17, ↓dhg_M_18, ↓dhq_M_18, ↓dhG_M_19, ↓dhG_M_20, ↓dhG_M_21, ↓dhG_M_22, ↓dhG_M_23, ↓dhG_M_24, ↓dhg_M_25, ↓dhq_M_25, ↓dhG_M_26, ↓dhG_M_27, ↓dhG_M_28, ↓dhg_M_29, ↓dhq_M_29, ↓dhG_M_30, ↓dhG_M_31, ↓dhg_M_32, ↓dhq_M_32, ↓dhg_M_33, ↓dhq_M_33, ↓dhg_M_34, ↓dhq_M_34, ↓dhg_M_35, ↓dhq_M_35, ↓dhG_M_36, ↓dhG_M_37, ↓dhg_M_38, ↓dhq_M_38, ↓dhg_M_39, ↓dhq_M_39, ↓dhG_M_40, ↓dhG_M_41, ↓dhG_M_42, ↓dhG_M_43, ↓dhg_M_44, ↓dhq_M_44, Option.bind_some, ↓nm_eq, ↓sm_inl, ↓sm_inr, ↓dzo_0, ↓dzo_1, ↓drg_ok, ↓if_pos, ↓if_neg, if_pos, if_neg, if_true, if_false, Int.toNat_natCast, rg_ok]
  rfl
theorem X12_enters (hn : 1000000000000000000000000000000 ≤ n) {w : Nat} {J : Nat → Nat → Int} {ps : List (Nat × List Nat)} {rs : List (Nat × List Int)} (h : RG w J ps rs) (h9 : J 161 9 = (w : Int)) (ha : AO ps rs) {t : List Int} (hT : RT J t) (hv : vld t) :
    (∃ ps' J', rd0 t ps = some ps' ∧ f_X12_enters n 161 (hp u J L) = some (1, hp u J' L) ∧ RG w J' ps' (rs ++ [(ps.length, t)]) ∧ FR w J J' ∧ J' 161 33 = 0 ∧ J' 161 34 = 0 ∧ J' 161 35 = 0) ∨
    (rd0 t ps = none ∧ ∃ J', f_X12_enters n 161 (hp u J L) = some (0, hp u J' L) ∧ RG w J' ps rs ∧ FR w J J' ∧ ∀ k, k ≠ 15 → J' 161 k = J 161 k) := by
  have hw2 : w < 2 := by have := h.1.1.1; omega
  have h24 := h.1.po.1
  have hlt := ha.lt
  have h1 := h.1.2.1
  rcases X12_reads (u := u) (L := L) hn h.1 h9 hT hv with ⟨ps', J1, a1, a2, a3, a4⟩ | ⟨a1, J1, psx, a2, a3, a4, a5⟩
  · left
    have hpx := rd0_px a1
    have hpo' := a3.po.1
    have hR24 : rs.length < 24 := by omega
    have g9 : J1 161 9 = (w : Int) := by rw [a4.2.1 9 (by decide)]; exact h9
    have g6 : J1 166 = J 166 := a4.1 166 (by decide)
    have g6' : J1 166 w = (rs.length : Int) := by rw [g6]; exact h.2.1
    have g13 : J1 161 13 = (t.length : Int) := by rw [a4.2.1 13 (by decide)]; exact hT.1
    have g173 : J1 173 = J 173 := a4.1 173 (by decide)
    have g7 : J1 167 = J 167 := a4.1 167 (by decide)
    have g8 : J1 168 = J 168 := a4.1 168 (by decide)
    have g69 : J1 169 = J 169 := a4.1 169 (by decide)
    have eat : 24 * (w : Int) + (rs.length : Int) = ((24 * w + rs.length : Nat) : Int) := by omega
    have hN24 := hT.2.2.1
    have hM : ∃ J2 : Nat → Nat → Int, J2 = gx_u (gx_u J1 167 (24 * w + rs.length) (ps.length : Int)) 168 (24 * w + rs.length) (t.length : Int) := ⟨_, rfl⟩
    obtain ⟨J2, hJ2⟩ := hM
    have f2 : Fr [167, 168] J1 J2 := by rw [hJ2]; exact (Fr.rf.wr (by simp)).wr (by simp)
    have m13 : J2 161 13 = (t.length : Int) := by rw [f2 161 (by decide)]; exact g13
    have key : zLP t.length (fun f k (K : Nat → Nat → Int) => l_X12_enters_66 n f 161 ((24 * w + rs.length : Nat) : Int) (k : Int) (hp u K L))
        (fun k K => Fr [169] J2 K ∧ (∀ j, j < k → K 169 (24 * (24 * w + rs.length) + j) = tl t j) ∧ ∀ i, i < 24 * (24 * w + rs.length) ∨ 24 * (24 * w + rs.length) + 24 ≤ i → K 169 i = J 169 i)
        (fun res => ∃ K, res = some (1, hp u (chg (gx_u K 166 w ((rs.length : Int) + 1))) L) ∧ Fr [169] J2 K ∧ (∀ j, j < t.length → K 169 (24 * (24 * w + rs.length) + j) = tl t j) ∧ ∀ i, i < 24 * (24 * w + rs.length) ∨ 24 * (24 * w + rs.length) + 24 ≤ i → K 169 i = J 169 i) := by
      refine zlp ?_ ?_
      · rintro f k K hk ⟨q1, q2, q3⟩
        right
        have e13 : K 161 13 = (t.length : Int) := by rw [q1 161 (by decide)]; exact m13
        have e3 : K 173 k = tl t k := by rw [q1 173 (by decide), f2 173 (by decide), g173]; exact hT.2.1 k hk
        have ei : (24 * ((24 * w + rs.length : Nat) : Int) + (k : Int)).toNat = 24 * (24 * w + rs.length) + k := by omega
        have ek : (k : Int) + 1 = ((k + 1 : Nat) : Int) := by omega
        refine ⟨gx_u K 169 (24 * (24 * w + rs.length) + k) (tl t k), ?_, q1.wr (by simp), fun j hj => ?_, fun i hi => ?_⟩
        · simp (disch := omega) only [l_X12_enters_66, b_X12_enters_66, ↓dhi_M, ↓dhG_M_0, ↓dhG_M_1, ↓dhG_M_2, ↓dhG_M_3, ↓dhG_M_4, ↓dhG_M_5, ↓dhG_M_6, ↓dhG_M_7, ↓dhG_M_8, ↓dhg_M_9, ↓dhq_M_9, ↓dhG_M_10, ↓dhG_M_11, ↓dhG_M_12, ↓dhg_M_13, ↓dhq_M_13, ↓dhG_M_14, ↓dhg_M_15, ↓dhq_M_15, ↓dhG_M_16, ↓dhg_M_17, ↓dhq_M_17, ↓dhg_M_18, ↓dhq_M_18, ↓dhG_M_19, ↓dhG_M_20, ↓dhG_M_21, ↓dhG_M_22, ↓dhG_M_23, ↓dhG_M_24, ↓dhg_M_25, ↓dhq_M_25, ↓dhG_M_26, ↓dhG_M_27, ↓dhG_M_28, ↓dhg_M_29, ↓dhq_M_29, ↓dhG_M_30, ↓dhG_M_31, ↓dhg_M_32, ↓dhq_M_32, ↓dhg_M_33, ↓dhq_M_33, ↓dhg_M_34, ↓dhq_M_34, ↓dhg_M_35, ↓dhq_M_35, ↓dhG_M_36, ↓dhG_M_37, ↓dhg_M_38, ↓dhq_M_38, ↓dhg_M_39, ↓dhq_M_39, ↓dhG_M_40, ↓dhG_M_41, ↓dhG_M_42, ↓dhG_M_43, ↓dhg_M_44, ↓dhq_M_44, ↓dha_173, ↓dhs_173, ↓dhl_173, ↓dha_169, ↓dhs_169, ↓dhl_169, Option.bind_some, ↓nm_eq, ↓sm_inl, ↓sm_inr, ↓dzo_0, ↓dzo_1, ↓drg_ok, ↓if_pos, ↓if_neg, if_pos, if_neg, if_true, if_false, Int.toNat_natCast, rg_ok, e13, e3, ei, ek]
        · by_cases e : j = k
          · rw [e, gu_at_eq rfl]
          · rw [gu_at_ne (by omega)]; exact q2 j (by omega)
        · rw [gu_at_ne (by omega)]; exact q3 i hi
      · rintro f K ⟨q1, q2, q3⟩
        have e13 : K 161 13 = (t.length : Int) := by rw [q1 161 (by decide)]; exact m13
        have e9 : K 161 9 = (w : Int) := by rw [q1 161 (by decide), f2 161 (by decide)]; exact g9
        have e6 : K 166 w = (rs.length : Int) := by rw [q1 166 (by decide), f2 166 (by decide)]; exact g6'
        refine ⟨K, ?_, q1, q2, q3⟩
        simp (disch := omega) only [l_X12_enters_66, b_X12_enters_66, b_X12_enters_97, ↓dhi_M, ↓dhG_M_0, ↓dhG_M_1, ↓dhG_M_2, ↓dhG_M_3, ↓dhG_M_4, ↓dhG_M_5, ↓dhG_M_6, ↓dhG_M_7, ↓dhG_M_8, ↓dhg_M_9, ↓dhq_M_9, ↓dhG_M_10, ↓dhG_M_11, ↓dhG_M_12, ↓dhg_M_13, ↓dhq_M_13, ↓dhG_M_14, ↓dhg_M_15, ↓dhq_M_15, ↓dhG_M_16, ↓dhg_M_17, ↓dhq_M_17, ↓dhg_M_18, ↓dhq_M_18, ↓dhG_M_19, ↓dhG_M_20, ↓dhG_M_21, ↓dhG_M_22, ↓dhG_M_23, ↓dhG_M_24, ↓dhg_M_25, ↓dhq_M_25, ↓dhG_M_26, ↓dhG_M_27, ↓dhG_M_28, ↓dhg_M_29, ↓dhq_M_29, ↓dhG_M_30, ↓dhG_M_31, ↓dhg_M_32, ↓dhq_M_32, ↓dhg_M_33, ↓dhq_M_33, ↓dhg_M_34, ↓dhq_M_34, ↓dhg_M_35, ↓dhq_M_35, ↓dhG_M_36, ↓dhG_M_37, ↓dhg_M_38, ↓dhq_M_38, ↓dhg_M_39, ↓dhq_M_39, ↓dhG_M_40, ↓dhG_M_41, ↓dhG_M_42, ↓dhG_M_43, ↓dhg_M_44, ↓dhq_M_44, ↓dha_166, ↓dhs_166, ↓dhl_166, Option.bind_some, ↓nm_eq, ↓sm_inl, ↓sm_inr, ↓dzo_0, ↓dzo_1, ↓drg_ok, ↓if_pos, ↓if_neg, if_pos, if_neg, if_true, if_false, Int.toNat_natCast, rg_ok, e13, e9, e6, ↓bnd X12_changed]
    obtain ⟨K, e, k1, k2, k3⟩ := key t.length n 0 J2 (by omega) (by omega) ⟨Fr.rf, fun j hj => absurd hj (by omega), fun i _ => by rw [f2 169 (by decide), g69]⟩
    have e' : l_X12_enters_66 n n 161 ((24 * w + rs.length : Nat) : Int) 0 (hp u J2 L) = some (1, hp u (chg (gx_u K 166 w ((rs.length : Int) + 1))) L) := e
    have kfr : Fr [167, 168, 169] J1 K := (f2.up (fun a q => by simp at q ⊢; omega)).tr (k1.up (fun a q => by simp at q ⊢; omega))
    have k7 : ∀ i, K 167 i = if i = 24 * w + rs.length then (ps.length : Int) else J 167 i := fun i => by rw [k1 167 (by decide), hJ2, gu_ne (by decide), gu_at, g7]
    have k8 : ∀ i, K 168 i = if i = 24 * w + rs.length then (t.length : Int) else J 168 i := fun i => by rw [k1 168 (by decide), hJ2, gu_at, gu_ne (by decide), g8]
    have kR : RQ w (gx_u K 166 w ((rs.length : Int) + 1)) ps' := a3.fr (l := [166, 167, 168, 169]) ((kfr.up (fun a q => by simp at q ⊢; omega)).wr (by simp)) (by rw [gu_ne (by decide), kfr 161 (by decide)]) (by decide)
    refine ⟨ps', chg (gx_u K 166 w ((rs.length : Int) + 1)), a1, ?_, RG.chg ⟨kR, ?_, fun i hi => ?_⟩, ?_, chg_0⟩
    · simp (disch := omega) only [f_X12_enters, ↓dhi_M, ↓dhG_M_0, ↓dhG_M_1, ↓dhG_M_2, ↓dhG_M_3, ↓dhG_M_4, ↓dhG_M_5, ↓dhG_M_6, ↓dhG_M_7, ↓dhG_M_8, ↓dhg_M_9, ↓dhq_M_9, ↓dhG_M_10, ↓dhG_M_11, ↓dhG_M_12, ↓dhg_M_13, ↓dhq_M_13, ↓dhG_M_14, ↓dhg_M_15, ↓dhq_M_15, ↓dhG_M_16, ↓dhg_M_17, ↓dhq_M_17, ↓dhg_M_18, ↓dhq_M_18, ↓dhG_M_19, ↓dhG_M_20, ↓dhG_M_21, ↓dhG_M_22, ↓dhG_M_23, ↓dhG_M_24, ↓dhg_M_25, ↓dhq_M_25, ↓dhG_M_26, ↓dhG_M_27, ↓dhG_M_28, ↓dhg_M_29, ↓dhq_M_29, ↓dhG_M_30, ↓dhG_M_31, ↓dhg_M_32, ↓dhq_M_32, ↓dhg_M_33, ↓dhq_M_33, ↓dhg_M_34, ↓dhq_M_34, ↓dhg_M_35, ↓dhq_M_35, ↓dhG_M_36, ↓dhG_M_37, ↓dhg_M_38, ↓dhq_M_38, ↓dhg_M_39, ↓dhq_M_39, ↓dhG_M_40, ↓dhG_M_41, ↓dhG_M_42, ↓dhG_M_43, ↓dhg_M_44, ↓dhq_M_44, ↓dha_165, ↓dhs_165, ↓dhl_165, ↓dha_166, ↓dhs_166, ↓dhl_166, ↓dha_167, ↓dhs_167, ↓dhl_167, ↓dha_168, ↓dhs_168, ↓dhl_168, Option.bind_some, ↓nm_eq, ↓sm_inl, ↓sm_inr, ↓dzo_0, ↓dzo_1, ↓drg_ok, ↓if_pos, ↓if_neg, if_pos, if_neg, if_true, if_false, Int.toNat_natCast, rg_ok, ↓bnd a2, h9, h1, g9, g6', eat, g13, gu_ne (show (161 : Nat) ≠ 167 by decide), ← hJ2]
      exact e'
    · rw [gu_at_eq rfl, List.length_append]; rfl
    · rw [List.length_append, List.length_singleton] at hi
      rw [gu_ne (a := 166) (b := 167) (by decide), gu_ne (a := 166) (b := 168) (by decide), gu_ne (a := 166) (b := 169) (by decide), k7, k8]
      by_cases e : i = rs.length
      · rw [e, gD_m, if_pos rfl, if_pos rfl]
        exact ⟨rfl, rfl, k2, hN24, hT.2.2.2⟩
      · have hi' : i < rs.length := by omega
        have h5 := h.2.2 i hi'
        rw [gD_l hi', if_neg (by omega), if_neg (by omega)]
        refine ⟨h5.1, h5.2.1, fun j hj => ?_, h5.2.2.2⟩
        have := h5.2.2.2.1
        rw [k3 _ (by omega)]; exact h5.2.2.1 j hj
    · refine (a4.r.tr ?_).tr (FR.rules.tr FR.chg)
      refine ⟨kfr.up (fun a q => by simp at q ⊢; omega), fun k _ _ _ _ => by rw [kfr 161 (by decide)], fun k _ => ⟨by rw [kfr 165 (by decide)], by rw [kfr 166 (by decide)]⟩, fun k hk => ⟨by rw [kfr 162 (by decide)], by rw [kfr 163 (by decide)], ?_, ?_⟩, fun k _ => by rw [kfr 164 (by decide)], fun k hk => ?_⟩
      · rw [k7, if_neg (by omega), g7]
      · rw [k8, if_neg (by omega), g8]
      · rw [k3 k (by omega), g69]
  · right
    have g9 : J1 161 9 = (w : Int) := by rw [a5.2.1 9 (by decide)]; exact h9
    refine ⟨a1, gx_u J1 165 w (ps.length : Int), ?_, ⟨?_, ?_, fun i hi => ?_⟩, a5.r.tr FR.many, fun k hk => ?_⟩
    · simp (disch := omega) only [f_X12_enters, ↓dhi_M, ↓dhG_M_0, ↓dhG_M_1, ↓dhG_M_2, ↓dhG_M_3, ↓dhG_M_4, ↓dhG_M_5, ↓dhG_M_6, ↓dhG_M_7, ↓dhG_M_8, ↓dhg_M_9, ↓dhq_M_9, ↓dhG_M_10, ↓dhG_M_11, ↓dhG_M_12, ↓dhg_M_13, ↓dhq_M_13, ↓dhG_M_14, ↓dhg_M_15, ↓dhq_M_15, ↓dhG_M_16, ↓dhg_M_17, ↓dhq_M_17, ↓dhg_M_18, ↓dhq_M_18, ↓dhG_M_19, ↓dhG_M_20, ↓dhG_M_21, ↓dhG_M_22, ↓dhG_M_23, ↓dhG_M_24, ↓dhg_M_25, ↓dhq_M_25, ↓dhG_M_26, ↓dhG_M_27, ↓dhG_M_28, ↓dhg_M_29, ↓dhq_M_29, ↓dhG_M_30, ↓dhG_M_31, ↓dhg_M_32, ↓dhq_M_32, ↓dhg_M_33, ↓dhq_M_33, ↓dhg_M_34, ↓dhq_M_34, ↓dhg_M_35, ↓dhq_M_35, ↓dhG_M_36, ↓dhG_M_37, ↓dhg_M_38, ↓dhq_M_38, ↓dhg_M_39, ↓dhq_M_39, ↓dhG_M_40, ↓dhG_M_41, ↓dhG_M_42, ↓dhG_M_43, ↓dhg_M_44, ↓dhq_M_44, ↓dha_165, ↓dhs_165, ↓dhl_165, Option.bind_some, ↓nm_eq, ↓sm_inl, ↓sm_inr, ↓dzo_0, ↓dzo_1, ↓drg_ok, ↓if_pos, ↓if_neg, if_pos, if_neg, if_true, if_false, Int.toNat_natCast, rg_ok, ↓bnd a2, h9, h1, g9]
    · have := a4.cut (c := ps.length) a3.len
      rwa [take_px a3] at this
    · rw [gu_ne (by decide), a5.1 166 (by decide)]; exact h.2.1
    · rw [gu_ne (a := 165) (b := 167) (by decide), gu_ne (a := 165) (b := 168) (by decide), gu_ne (a := 165) (b := 169) (by decide), a5.1 167 (by decide), a5.1 168 (by decide), a5.1 169 (by decide)]
      exact h.2.2 i hi
    · rw [gu_ne (by decide), a5.2.1 k hk]
theorem X12_brings (hn : 1000000000000000000000000000000 ≤ n) {J : Nat → Nat → Int} {i : Nat} (hi : i < 48) {t : List Int} (h8 : J 168 i = (t.length : Int)) (h69 : ∀ j, j < t.length → J 169 (24 * i + j) = tl t j) (h24 : t.length ≤ 24) (htk : ∀ j, j < t.length → tk (tl t j) ≠ 8) {sh : Int} (hs : 0 ≤ sh ∧ sh ≤ 7) :
    ∃ J', f_X12_brings n 161 (i : Int) sh (hp u J L) = some (hp u J' L) ∧ RT J' (t.map (rn sh)) ∧ Fr [161, 173] J J' ∧ ∀ k, k ≠ 13 → J' 161 k = J 161 k := by
  suffices key : zLP t.length (fun f k (K : Nat → Nat → Int) => l_X12_brings_12 n f 161 (i : Int) sh (k : Int) (hp u K L)) (fun k K => Fr [161, 173] J K ∧ (∀ k, k ≠ 13 → K 161 k = J 161 k) ∧ K 161 13 = (t.length : Int) ∧ ∀ j, j < k → K 173 j = rn sh (tl t j))
      (fun res => ∃ J', res = some (hp u J' L) ∧ RT J' (t.map (rn sh)) ∧ Fr [161, 173] J J' ∧ ∀ k, k ≠ 13 → J' 161 k = J 161 k) by
    obtain ⟨J', e, q⟩ := key t.length n 0 (gx_u J 161 13 (t.length : Int)) (by omega) (by omega) ⟨Fr.rf.wr (by simp), fun k hk => gu_at_ne hk, gu_same _ _ _ _, fun j hj => absurd hj (by omega)⟩
    refine ⟨J', ?_, q⟩
    rw [← e]
    simp (disch := omega) only [f_X12_brings, ↓dhi_M, ↓dhG_M_0, ↓dhG_M_1, ↓dhG_M_2, ↓dhG_M_3, ↓dhG_M_4, ↓dhG_M_5, ↓dhG_M_6, ↓dhG_M_7, ↓dhG_M_8, ↓dhg_M_9, ↓dhq_M_9, ↓dhG_M_10, ↓dhG_M_11, ↓dhG_M_12, ↓dhg_M_13, ↓dhq_M_13, ↓dhG_M_14, ↓dhg_M_15, ↓dhq_M_15, ↓dhG_M_16, ↓dhg_M_17, ↓dhq_M_17, ↓dhg_M_18, ↓dhq_M_18, ↓dhG_M_19, ↓dhG_M_20, ↓dhG_M_21, ↓dhG_M_22, ↓dhG_M_23, ↓dhG_M_24, ↓dhg_M_25, ↓dhq_M_25, ↓dhG_M_26, ↓dhG_M_27, ↓dhG_M_28, ↓dhg_M_29, ↓dhq_M_29, ↓dhG_M_30, ↓dhG_M_31, ↓dhg_M_32, ↓dhq_M_32, ↓dhg_M_33, ↓dhq_M_33, ↓dhg_M_34, ↓dhq_M_34, ↓dhg_M_35, ↓dhq_M_35, ↓dhG_M_36, ↓dhG_M_37, ↓dhg_M_38, ↓dhq_M_38, ↓dhg_M_39, ↓dhq_M_39, ↓dhG_M_40, ↓dhG_M_41, ↓dhG_M_42, ↓dhG_M_43, ↓dhg_M_44, ↓dhq_M_44, ↓dha_168, ↓dhs_168, ↓dhl_168, Option.bind_some, ↓nm_eq, ↓sm_inl, ↓sm_inr, ↓dzo_0, ↓dzo_1, ↓drg_ok, ↓if_pos, ↓if_neg, if_pos, if_neg, if_true, if_false, Int.toNat_natCast, rg_ok, h8]
    rfl
  refine zlp ?_ ?_
  · rintro f k K hk ⟨q1, q2, q3, q4⟩
    right
    have e69 : K 169 (24 * i + k) = tl t k := by rw [q1 169 (by decide)]; exact h69 k hk
    have ei : (24 * (i : Int) + (k : Int)).toNat = 24 * i + k := by omega
    have ek : (k : Int) + 1 = ((k + 1 : Nat) : Int) := by omega
    have hc := tk_cases (tl t k)
    have hr := tk_rg (htk k hk)
    refine ⟨gx_u K 173 k (rn sh (tl t k)), ?_, q1.wr (by simp), fun j hj => by rw [gu_ne (by decide)]; exact q2 j hj, by rw [gu_ne (by decide)]; exact q3, fun j hj => ?_⟩
    · by_cases c1 : tk (tl t k) = 1
      · have e1 : rn sh (tl t k) = 65 + (tl t k - 65 + sh) % 8 := if_pos c1
        simp (disch := omega) only [l_X12_brings_12, b_X12_brings_12, b_X12_brings_64, f_X12_isName, b_X12_isName_16, ↓dhi_M, ↓dhG_M_0, ↓dhG_M_1, ↓dhG_M_2, ↓dhG_M_3, ↓dhG_M_4, ↓dhG_M_5, ↓dhG_M_6, ↓dhG_M_7, ↓dhG_M_8, ↓dhg_M_9, ↓dhq_M_9, ↓dhG_M_10, ↓dhG_M_11, ↓dhG_M_12, ↓dhg_M_13, ↓dhq_M_13, ↓dhG_M_14, ↓dhg_M_15, ↓dhq_M_15, ↓dhG_M_16, ↓dhg_M_17, ↓dhq_M_17, ↓dhg_M_18, ↓dhq_M_18, ↓dhG_M_19, ↓dhG_M_20, ↓dhG_M_21, ↓dhG_M_22, ↓dhG_M_23, ↓dhG_M_24, ↓dhg_M_25, ↓dhq_M_25, ↓dhG_M_26, ↓dhG_M_27, ↓dhG_M_28, ↓dhg_M_29, ↓dhq_M_29, ↓dhG_M_30, ↓dhG_M_31, ↓dhg_M_32, ↓dhq_M_32, ↓dhg_M_33, ↓dhq_M_33, ↓dhg_M_34, ↓dhq_M_34, ↓dhg_M_35, ↓dhq_M_35, ↓dhG_M_36, ↓dhG_M_37, ↓dhg_M_38, ↓dhq_M_38, ↓dhg_M_39, ↓dhq_M_39, ↓dhG_M_40, ↓dhG_M_41, ↓dhG_M_42, ↓dhG_M_43, ↓dhg_M_44, ↓dhq_M_44, ↓dha_169, ↓dhs_169, ↓dhl_169, ↓dha_173, ↓dhs_173, ↓dhl_173, Option.bind_some, ↓nm_eq, ↓sm_inl, ↓sm_inr, ↓dzo_0, ↓dzo_1, ↓drg_ok, ↓if_pos, ↓if_neg, if_pos, if_neg, if_true, if_false, Int.toNat_natCast, rg_ok, q3, ei, e69, ek, ↓ddg_ok, e1]
      · have e1 : rn sh (tl t k) = tl t k := if_neg c1
        rw [e1]
        by_cases c2 : tl t k < 65
        · simp (disch := omega) only [l_X12_brings_12, b_X12_brings_12, b_X12_brings_64, f_X12_isName, b_X12_isName_16, ↓dhi_M, ↓dhG_M_0, ↓dhG_M_1, ↓dhG_M_2, ↓dhG_M_3, ↓dhG_M_4, ↓dhG_M_5, ↓dhG_M_6, ↓dhG_M_7, ↓dhG_M_8, ↓dhg_M_9, ↓dhq_M_9, ↓dhG_M_10, ↓dhG_M_11, ↓dhG_M_12, ↓dhg_M_13, ↓dhq_M_13, ↓dhG_M_14, ↓dhg_M_15, ↓dhq_M_15, ↓dhG_M_16, ↓dhg_M_17, ↓dhq_M_17, ↓dhg_M_18, ↓dhq_M_18, ↓dhG_M_19, ↓dhG_M_20, ↓dhG_M_21, ↓dhG_M_22, ↓dhG_M_23, ↓dhG_M_24, ↓dhg_M_25, ↓dhq_M_25, ↓dhG_M_26, ↓dhG_M_27, ↓dhG_M_28, ↓dhg_M_29, ↓dhq_M_29, ↓dhG_M_30, ↓dhG_M_31, ↓dhg_M_32, ↓dhq_M_32, ↓dhg_M_33, ↓dhq_M_33, ↓dhg_M_34, ↓dhq_M_34, ↓dhg_M_35, ↓dhq_M_35, ↓dhG_M_36, ↓dhG_M_37, ↓dhg_M_38, ↓dhq_M_38, ↓dhg_M_39, ↓dhq_M_39, ↓dhG_M_40, ↓dhG_M_41, ↓dhG_M_42, ↓dhG_M_43, ↓dhg_M_44, ↓dhq_M_44, ↓dha_169, ↓dhs_169, ↓dhl_169, ↓dha_173, ↓dhs_173, ↓dhl_173, Option.bind_some, ↓nm_eq, ↓sm_inl, ↓sm_inr, ↓dzo_0, ↓dzo_1, ↓drg_ok, ↓if_pos, ↓if_neg, if_pos, if_neg, if_true, if_false, Int.toNat_natCast, rg_ok, q3, ei, e69, ek]
        · simp (disch := omega) only [l_X12_brings_12, b_X12_brings_12, b_X12_brings_64, f_X12_isName, b_X12_isName_16, ↓dhi_M, ↓dhG_M_0, ↓dhG_M_1, ↓dhG_M_2, ↓dhG_M_3, ↓dhG_M_4, ↓dhG_M_5, ↓dhG_M_6, ↓dhG_M_7, ↓dhG_M_8, ↓dhg_M_9, ↓dhq_M_9, ↓dhG_M_10, ↓dhG_M_11, ↓dhG_M_12, ↓dhg_M_13, ↓dhq_M_13, ↓dhG_M_14, ↓dhg_M_15, ↓dhq_M_15, ↓dhG_M_16, ↓dhg_M_17, ↓dhq_M_17, ↓dhg_M_18, ↓dhq_M_18, ↓dhG_M_19, ↓dhG_M_20, ↓dhG_M_21, ↓dhG_M_22, ↓dhG_M_23, ↓dhG_M_24, ↓dhg_M_25, ↓dhq_M_25, ↓dhG_M_26, ↓dhG_M_27, ↓dhG_M_28, ↓dhg_M_29, ↓dhq_M_29, ↓dhG_M_30, ↓dhG_M_31, ↓dhg_M_32, ↓dhq_M_32, ↓dhg_M_33, ↓dhq_M_33, ↓dhg_M_34, ↓dhq_M_34, ↓dhg_M_35, ↓dhq_M_35, ↓dhG_M_36, ↓dhG_M_37, ↓dhg_M_38, ↓dhq_M_38, ↓dhg_M_39, ↓dhq_M_39, ↓dhG_M_40, ↓dhG_M_41, ↓dhG_M_42, ↓dhG_M_43, ↓dhg_M_44, ↓dhq_M_44, ↓dha_169, ↓dhs_169, ↓dhl_169, ↓dha_173, ↓dhs_173, ↓dhl_173, Option.bind_some, ↓nm_eq, ↓sm_inl, ↓sm_inr, ↓dzo_0, ↓dzo_1, ↓drg_ok, ↓if_pos, ↓if_neg, if_pos, if_neg, if_true, if_false, Int.toNat_natCast, rg_ok, q3, ei, e69, ek]
    · by_cases e : j = k
      · rw [e, gu_at_eq rfl]
      · rw [gu_at_ne e]; exact q4 j (by omega)
  · rintro f K ⟨q1, q2, q3, q4⟩
    refine ⟨K, ?_, ⟨by rw [List.length_map]; exact q3, fun j hj => ?_, by rw [List.length_map]; exact h24, fun j hj => ?_⟩, q1, q2⟩
    · simp (disch := omega) only [l_X12_brings_12, b_X12_brings_12, ↓dhi_M, ↓dhG_M_0, ↓dhG_M_1, ↓dhG_M_2, ↓dhG_M_3, ↓dhG_M_4, ↓dhG_M_5, ↓dhG_M_6, ↓dhG_M_7, ↓dhG_M_8, ↓dhg_M_9, ↓dhq_M_9, ↓dhG_M_10, ↓dhG_M_11, ↓dhG_M_12, ↓dhg_M_13, ↓dhq_M_13, ↓dhG_M_14, ↓dhg_M_15, ↓dhq_M_15, ↓dhG_M_16, ↓dhg_M_17, ↓dhq_M_17, ↓dhg_M_18, ↓dhq_M_18, ↓dhG_M_19, ↓dhG_M_20, ↓dhG_M_21, ↓dhG_M_22, ↓dhG_M_23, ↓dhG_M_24, ↓dhg_M_25, ↓dhq_M_25, ↓dhG_M_26, ↓dhG_M_27, ↓dhG_M_28, ↓dhg_M_29, ↓dhq_M_29, ↓dhG_M_30, ↓dhG_M_31, ↓dhg_M_32, ↓dhq_M_32, ↓dhg_M_33, ↓dhq_M_33, ↓dhg_M_34, ↓dhq_M_34, ↓dhg_M_35, ↓dhq_M_35, ↓dhG_M_36, ↓dhG_M_37, ↓dhg_M_38, ↓dhq_M_38, ↓dhg_M_39, ↓dhq_M_39, ↓dhG_M_40, ↓dhG_M_41, ↓dhG_M_42, ↓dhG_M_43, ↓dhg_M_44, ↓dhq_M_44, Option.bind_some, ↓nm_eq, ↓sm_inl, ↓sm_inr, ↓dzo_0, ↓dzo_1, ↓drg_ok, ↓if_pos, ↓if_neg, if_pos, if_neg, if_true, if_false, Int.toNat_natCast, rg_ok, q3]
    · rw [List.length_map] at hj
      rw [tl_map hj]; exact q4 j hj
    · rw [List.length_map] at hj
      rw [tl_map hj, rn_tk]; exact htk j hj
theorem X12_bringsAll (hn : 1000000000000000000000000000000 ≤ n) {w : Nat} {J0 : Nat → Nat → Int} {ps : List (Nat × List Nat)} {rs : List (Nat × List Int)} (h : RG w J0 ps rs) (h9 : J0 161 9 = (w : Int)) (ha : AO ps rs) {ps1 : List (Nat × List Nat)} {rs1 : List (Nat × List Int)} (h1 : RG (1 - w) J0 ps1 rs1) (ha1 : AO ps1 rs1) {sh : Int} (hs : 0 ≤ sh ∧ sh ≤ 7) :
    (∃ q J', brl sh rs1 ps rs = some q ∧ f_X12_bringsAll n 161 sh (hp u J0 L) = some (1, hp u J' L) ∧ RG w J' q.1 q.2 ∧ AO q.1 q.2 ∧ RG (1 - w) J' ps1 rs1 ∧ Fr [161, 162, 163, 164, 165, 166, 167, 168, 169, 173, 174] J0 J' ∧ (∀ k, k ≠ 13 → k ≠ 15 → k ≠ 33 → k ≠ 34 → k ≠ 35 → J' 161 k = J0 161 k) ∧ J' 161 33 = 0 ∧ J' 161 34 = 0 ∧ J' 161 35 = 0) ∨
    (brl sh rs1 ps rs = none ∧ ∃ J', f_X12_bringsAll n 161 sh (hp u J0 L) = some (0, hp u J' L) ∧ RG w J' ps rs ∧ RG (1 - w) J' ps1 rs1 ∧ Fr [161, 162, 163, 164, 165, 166, 167, 168, 169, 173, 174] J0 J' ∧ (∀ k, k ≠ 13 → k ≠ 15 → k ≠ 33 → k ≠ 34 → k ≠ 35 → J' 161 k = J0 161 k) ∧ J' 161 33 = 0 ∧ J' 161 34 = 0 ∧ J' 161 35 = 0) := by
  have hw2 : w < 2 := by have := h.1.1.1; omega
  have hlt1 := ha1.lt
  have h241 := h1.1.po.1
  have hne : 1 - w ≠ w := by omega
  have e1w : (1 : Int) - (w : Int) = ((1 - w : Nat) : Int) := by omega
  suffices key : ∀ R, zLP (rs1.length + 1) (fun f k (s : Int × (Nat → Nat → Int)) => l_X12_bringsAll_26 n f 161 sh (rs.length : Int) (ps.length : Int) s.1 (k : Int) (hp u s.2 L))
      (fun k s => Fr [161, 162, 163, 164, 165, 166, 167, 168, 169, 173, 174] J0 s.2 ∧ (∀ k, k ≠ 13 → k ≠ 15 → k ≠ 33 → k ≠ 34 → k ≠ 35 → s.2 161 k = J0 161 k) ∧ RG (1 - w) s.2 ps1 rs1 ∧ ((s.1 = 1 ∧ k ≤ rs1.length ∧ ∃ psk rsk, PX ps psk ∧ (∃ e, rsk = rs ++ e) ∧ RG w s.2 psk rsk ∧ AO psk rsk ∧ brl sh (rs1.drop k) psk rsk = R) ∨ (s.1 = 0 ∧ R = none ∧ ∃ psk rsk, PX ps psk ∧ (∃ e, rsk = rs ++ e) ∧ RG w s.2 psk rsk)))
      (fun res => (∃ q J', R = some q ∧ res = some (1, hp u J' L) ∧ RG w J' q.1 q.2 ∧ AO q.1 q.2 ∧ RG (1 - w) J' ps1 rs1 ∧ Fr [161, 162, 163, 164, 165, 166, 167, 168, 169, 173, 174] J0 J' ∧ (∀ k, k ≠ 13 → k ≠ 15 → k ≠ 33 → k ≠ 34 → k ≠ 35 → J' 161 k = J0 161 k) ∧ J' 161 33 = 0 ∧ J' 161 34 = 0 ∧ J' 161 35 = 0) ∨
        (R = none ∧ ∃ J', res = some (0, hp u J' L) ∧ RG w J' ps rs ∧ RG (1 - w) J' ps1 rs1 ∧ Fr [161, 162, 163, 164, 165, 166, 167, 168, 169, 173, 174] J0 J' ∧ (∀ k, k ≠ 13 → k ≠ 15 → k ≠ 33 → k ≠ 34 → k ≠ 35 → J' 161 k = J0 161 k) ∧ J' 161 33 = 0 ∧ J' 161 34 = 0 ∧ J' 161 35 = 0)) by
    have e := key (brl sh rs1 ps rs) (rs1.length + 1) n 0 (1, J0) (by omega) (by omega) ⟨Fr.rf, fun _ _ _ _ _ _ => rfl, h1, Or.inl ⟨rfl, Nat.zero_le _, ps, rs, PX.rf, ⟨[], by simp⟩, h, ha, rfl⟩⟩
    have e2 : f_X12_bringsAll n 161 sh (hp u J0 L) = l_X12_bringsAll_26 n n 161 sh (rs.length : Int) (ps.length : Int) 1 0 (hp u J0 L) := by
      simp (disch := omega) only [f_X12_bringsAll, ↓dhi_M, ↓dhG_M_0, ↓dhG_M_1, ↓dhG_M_2, ↓dhG_M_3, ↓dhG_M_4, ↓dhG_M_5, ↓dhG_M_6, ↓dhG_M_7, ↓dhG_M_8, ↓dhg_M_9, ↓dhq_M_9, ↓dhG_M_10, ↓dhG_M_11, ↓dhG_M_12, ↓dhg_M_13, ↓dhq_M_13, ↓dhG_M_14, ↓dhg_M_15, ↓dhq_M_15, ↓dhG_M_16, ↓dhg_M_17, ↓dhq_M_17, ↓dhg_M_18, ↓dhq_M_18, ↓dhG_M_19, ↓dhG_M_20, ↓dhG_M_21, ↓dhG_M_22, ↓dhG_M_23, ↓dhG_M_24, ↓dhg_M_25, ↓dhq_M_25, ↓dhG_M_26, ↓dhG_M_27, ↓dhG_M_28, ↓dhg_M_29, ↓dhq_M_29, ↓dhG_M_30, ↓dhG_M_31, ↓dhg_M_32, ↓dhq_M_32, ↓dhg_M_33, ↓dhq_M_33, ↓dhg_M_34, ↓dhq_M_34, ↓dhg_M_35, ↓dhq_M_35, ↓dhG_M_36, ↓dhG_M_37, ↓dhg_M_38, ↓dhq_M_38, ↓dhg_M_39, ↓dhq_M_39, ↓dhG_M_40, ↓dhG_M_41, ↓dhG_M_42, ↓dhG_M_43, ↓dhg_M_44, ↓dhq_M_44, ↓dha_165, ↓dhs_165, ↓dhl_165, ↓dha_166, ↓dhs_166, ↓dhl_166, Option.bind_some, ↓nm_eq, ↓sm_inl, ↓sm_inr, ↓dzo_0, ↓dzo_1, ↓drg_ok, ↓if_pos, ↓if_neg, if_pos, if_neg, if_true, if_false, Int.toNat_natCast, rg_ok, h9, h.1.2.1, h.2.1]
    rw [e2]; exact e
  intro R
  -- the end, with and without luck
  have fin : ∀ (J : Nat → Nat → Int) (psk : List (Nat × List Nat)) (rsk : List (Nat × List Int)), Fr [161, 162, 163, 164, 165, 166, 167, 168, 169, 173, 174] J0 J → (∀ k, k ≠ 13 → k ≠ 15 → k ≠ 33 → k ≠ 34 → k ≠ 35 → J 161 k = J0 161 k) → RG (1 - w) J ps1 rs1 → PX ps psk → (∃ e, rsk = rs ++ e) → RG w J psk rsk →
      (b_X12_bringsAll_76 n 161 (rs.length : Int) (ps.length : Int) 1 (hp u J L) = some (1, hp u (chg J) L)) ∧
      ∃ J', b_X12_bringsAll_76 n 161 (rs.length : Int) (ps.length : Int) 0 (hp u J L) = some (0, hp u J' L) ∧ RG w J' ps rs ∧ RG (1 - w) J' ps1 rs1 ∧ Fr [161, 162, 163, 164, 165, 166, 167, 168, 169, 173, 174] J0 J' ∧ (∀ k, k ≠ 13 → k ≠ 15 → k ≠ 33 → k ≠ 34 → k ≠ 35 → J' 161 k = J0 161 k) ∧ J' 161 33 = 0 ∧ J' 161 34 = 0 ∧ J' 161 35 = 0 := by
    intro J psk rsk hF hK hR1 hpx ⟨ex, hex⟩ hR
    have g9 : J 161 9 = (w : Int) := by rw [hK 9 (by decide) (by decide) (by decide) (by decide) (by decide)]; exact h9
    have c9 : ∀ x : Int, gx_u J 166 w x 161 9 = (w : Int) := fun x => by rw [gu_ne (by decide)]; exact g9
    refine ⟨?_, chg (gx_u (gx_u J 166 w (rs.length : Int)) 165 w (ps.length : Int)), ?_, ?_, ?_, ?_, fun k a b c d e => ?_, chg_0⟩
    · simp (disch := omega) only [b_X12_bringsAll_76, b_X12_bringsAll_102, b_X12_bringsAll_129, ↓dhi_M, ↓dhG_M_0, ↓dhG_M_1, ↓dhG_M_2, ↓dhG_M_3, ↓dhG_M_4, ↓dhG_M_5, ↓dhG_M_6, ↓dhG_M_7, ↓dhG_M_8, ↓dhg_M_9, ↓dhq_M_9, ↓dhG_M_10, ↓dhG_M_11, ↓dhG_M_12, ↓dhg_M_13, ↓dhq_M_13, ↓dhG_M_14, ↓dhg_M_15, ↓dhq_M_15, ↓dhG_M_16, ↓dhg_M_17, ↓dhq_M_17, ↓dhg_M_18, ↓dhq_M_18, ↓dhG_M_19, ↓dhG_M_20, ↓dhG_M_21, ↓dhG_M_22, ↓dhG_M_23, ↓dhG_M_24, ↓dhg_M_25, ↓dhq_M_25, ↓dhG_M_26, ↓dhG_M_27, ↓dhG_M_28, ↓dhg_M_29, ↓dhq_M_29, ↓dhG_M_30, ↓dhG_M_31, ↓dhg_M_32, ↓dhq_M_32, ↓dhg_M_33, ↓dhq_M_33, ↓dhg_M_34, ↓dhq_M_34, ↓dhg_M_35, ↓dhq_M_35, ↓dhG_M_36, ↓dhG_M_37, ↓dhg_M_38, ↓dhq_M_38, ↓dhg_M_39, ↓dhq_M_39, ↓dhG_M_40, ↓dhG_M_41, ↓dhG_M_42, ↓dhG_M_43, ↓dhg_M_44, ↓dhq_M_44, ↓dha_165, ↓dhs_165, ↓dhl_165, ↓dha_166, ↓dhs_166, ↓dhl_166, Option.bind_some, ↓nm_eq, ↓sm_inl, ↓sm_inr, ↓dzo_0, ↓dzo_1, ↓drg_ok, ↓if_pos, ↓if_neg, if_pos, if_neg, if_true, if_false, Int.toNat_natCast, rg_ok, g9, gu_id, ↓bnd X12_changed]
    · simp (disch := omega) only [b_X12_bringsAll_76, b_X12_bringsAll_102, b_X12_bringsAll_129, ↓dhi_M, ↓dhG_M_0, ↓dhG_M_1, ↓dhG_M_2, ↓dhG_M_3, ↓dhG_M_4, ↓dhG_M_5, ↓dhG_M_6, ↓dhG_M_7, ↓dhG_M_8, ↓dhg_M_9, ↓dhq_M_9, ↓dhG_M_10, ↓dhG_M_11, ↓dhG_M_12, ↓dhg_M_13, ↓dhq_M_13, ↓dhG_M_14, ↓dhg_M_15, ↓dhq_M_15, ↓dhG_M_16, ↓dhg_M_17, ↓dhq_M_17, ↓dhg_M_18, ↓dhq_M_18, ↓dhG_M_19, ↓dhG_M_20, ↓dhG_M_21, ↓dhG_M_22, ↓dhG_M_23, ↓dhG_M_24, ↓dhg_M_25, ↓dhq_M_25, ↓dhG_M_26, ↓dhG_M_27, ↓dhG_M_28, ↓dhg_M_29, ↓dhq_M_29, ↓dhG_M_30, ↓dhG_M_31, ↓dhg_M_32, ↓dhq_M_32, ↓dhg_M_33, ↓dhq_M_33, ↓dhg_M_34, ↓dhq_M_34, ↓dhg_M_35, ↓dhq_M_35, ↓dhG_M_36, ↓dhG_M_37, ↓dhg_M_38, ↓dhq_M_38, ↓dhg_M_39, ↓dhq_M_39, ↓dhG_M_40, ↓dhG_M_41, ↓dhG_M_42, ↓dhG_M_43, ↓dhg_M_44, ↓dhq_M_44, ↓dha_165, ↓dhs_165, ↓dhl_165, ↓dha_166, ↓dhs_166, ↓dhl_166, Option.bind_some, ↓nm_eq, ↓sm_inl, ↓sm_inr, ↓dzo_0, ↓dzo_1, ↓drg_ok, ↓if_pos, ↓if_neg, if_pos, if_neg, if_true, if_false, Int.toNat_natCast, rg_ok, g9, c9, ↓bnd X12_changed]
    · have q1 := hR.cut (c := ps.length) (r := rs.length) hpx.len (by rw [hex]; simp)
      rw [take_px hpx, hex, List.take_left] at q1
      exact q1.chg
    · have hw : RW (gx_u (gx_u J 166 w (rs.length : Int)) 165 w (ps.length : Int)) := (hR.cut (c := ps.length) (r := rs.length) hpx.len (by rw [hex]; simp)).1.1
      exact (hR1.ot (FR.rules.tr FR.many) hne hw ha1).chg
    · exact ((hF.wr (by simp)).wr (by simp)).tr (chg_fr.up (fun a q => by simp at q ⊢; omega))
    · rw [chg_k ⟨c, d, e⟩, gu_ne (by decide), gu_ne (by decide)]; exact hK k a b c d e
  refine zlp ?_ ?_
  · rintro f k ⟨v4, J⟩ hk ⟨hF, hK, hR1, hc⟩
    dsimp only at hF hK hR1 hc ⊢
    have g9 : J 161 9 = (w : Int) := by rw [hK 9 (by decide) (by decide) (by decide) (by decide) (by decide)]; exact h9
    have g6 : J 166 (1 - w) = (rs1.length : Int) := hR1.2.1
    rcases hc with ⟨c1, ck, psk, rsk, c2, c3, c4, c5, c6⟩ | ⟨c1, c2, psk, rsk, c3, c4, c5⟩
    · by_cases hkl : k < rs1.length
      · right
        have h5 := hR1.2.2 k hkl
        have ei : 24 * ((1 - w : Nat) : Int) + (k : Int) = ((24 * (1 - w) + k : Nat) : Int) := by omega
        obtain ⟨J2, b1, b2, b3, b4⟩ := X12_brings (u := u) (L := L) hn (J := J) (i := 24 * (1 - w) + k) (by omega) h5.2.1 h5.2.2.1 h5.2.2.2.1 h5.2.2.2.2 hs
        have c42 : RG w J2 psk rsk := c4.fr b3 (b4 9 (by decide)) (by decide)
        have hR12 : RG (1 - w) J2 ps1 rs1 := hR1.fr b3 (b4 9 (by decide)) (by decide)
        have g92 : J2 161 9 = (w : Int) := by rw [b4 9 (by decide)]; exact g9
        have hcons : rs1.drop k = rs1.getD k (0, []) :: rs1.drop (k + 1) := by
          rw [List.drop_eq_getElem_cons hkl]
          simp [List.getD_eq_getElem?_getD, hkl]
        rw [hcons] at c6
        have c6' : (match rd0 ((rs1.getD k (0, [])).2.map (rn sh)) psk with | none => none | some ps' => brl sh (rs1.drop (k + 1)) ps' (rsk ++ [(psk.length, (rs1.getD k (0, [])).2.map (rn sh))])) = R := c6
        have ek : (k : Int) + 1 = ((k + 1 : Nat) : Int) := by omega
        have hv := vld_map (sh := sh) (ha1 k hkl).1
        obtain ⟨ex, hex⟩ := c3
        rcases X12_enters (u := u) (L := L) hn c42 g92 c5 b2 hv with ⟨ps', J3, d1, d2, d3, d4, d5⟩ | ⟨d1, J3, d2, d3, d4, d5⟩
        · rw [d1] at c6'
          refine ⟨(1, J3), ?_, (hF.tr (b3.up (fun a q => by simp at q ⊢; omega))).tr (d4.1.up (fun a q => by simp at q ⊢; omega)), fun j q1 q2 q3 q4 q5 => ?_, hR12.ot d4 hne d3.1.1 ha1, Or.inl ⟨rfl, hkl, ps', _, c2.tr (rd0_px d1).1, ⟨ex ++ [(psk.length, (rs1.getD k (0, [])).2.map (rn sh))], by rw [hex]; simp⟩, d3, c5.add hv (rd0_px d1).2, c6'⟩⟩
          · simp (disch := omega) only [l_X12_bringsAll_26, b_X12_bringsAll_26, ↓dhi_M, ↓dhG_M_0, ↓dhG_M_1, ↓dhG_M_2, ↓dhG_M_3, ↓dhG_M_4, ↓dhG_M_5, ↓dhG_M_6, ↓dhG_M_7, ↓dhG_M_8, ↓dhg_M_9, ↓dhq_M_9, ↓dhG_M_10, ↓dhG_M_11, ↓dhG_M_12, ↓dhg_M_13, ↓dhq_M_13, ↓dhG_M_14, ↓dhg_M_15, ↓dhq_M_15, ↓dhG_M_16, ↓dhg_M_17, ↓dhq_M_17, ↓dhg_M_18, ↓dhq_M_18, ↓dhG_M_19, ↓dhG_M_20, ↓dhG_M_21, ↓dhG_M_22, ↓dhG_M_23, ↓dhG_M_24, ↓dhg_M_25, ↓dhq_M_25, ↓dhG_M_26, ↓dhG_M_27, ↓dhG_M_28, ↓dhg_M_29, ↓dhq_M_29, ↓dhG_M_30, ↓dhG_M_31, ↓dhg_M_32, ↓dhq_M_32, ↓dhg_M_33, ↓dhq_M_33, ↓dhg_M_34, ↓dhq_M_34, ↓dhg_M_35, ↓dhq_M_35, ↓dhG_M_36, ↓dhG_M_37, ↓dhg_M_38, ↓dhq_M_38, ↓dhg_M_39, ↓dhq_M_39, ↓dhG_M_40, ↓dhG_M_41, ↓dhG_M_42, ↓dhG_M_43, ↓dhg_M_44, ↓dhq_M_44, ↓dha_166, ↓dhs_166, ↓dhl_166, Option.bind_some, ↓nm_eq, ↓sm_inl, ↓sm_inr, ↓dzo_0, ↓dzo_1, ↓drg_ok, ↓if_pos, ↓if_neg, if_pos, if_neg, if_true, if_false, Int.toNat_natCast, rg_ok, ↓bnd b1, ↓bnd d2, g9, e1w, g6, c1, ei, ek]
          · dsimp only; rw [d4.2.1 j q2 q3 q4 q5, b4 j q1]; exact hK j q1 q2 q3 q4 q5
        · rw [d1] at c6'
          refine ⟨(0, J3), ?_, (hF.tr (b3.up (fun a q => by simp at q ⊢; omega))).tr (d4.1.up (fun a q => by simp at q ⊢; omega)), fun j q1 q2 q3 q4 q5 => ?_, hR12.ot d4 hne d3.1.1 ha1, Or.inr ⟨rfl, c6'.symm, psk, rsk, c2, ⟨ex, hex⟩, d3⟩⟩
          · simp (disch := omega) only [l_X12_bringsAll_26, b_X12_bringsAll_26, ↓dhi_M, ↓dhG_M_0, ↓dhG_M_1, ↓dhG_M_2, ↓dhG_M_3, ↓dhG_M_4, ↓dhG_M_5, ↓dhG_M_6, ↓dhG_M_7, ↓dhG_M_8, ↓dhg_M_9, ↓dhq_M_9, ↓dhG_M_10, ↓dhG_M_11, ↓dhG_M_12, ↓dhg_M_13, ↓dhq_M_13, ↓dhG_M_14, ↓dhg_M_15, ↓dhq_M_15, ↓dhG_M_16, ↓dhg_M_17, ↓dhq_M_17, ↓dhg_M_18, ↓dhq_M_18, ↓dhG_M_19, ↓dhG_M_20, ↓dhG_M_21, ↓dhG_M_22, ↓dhG_M_23, ↓dhG_M_24, ↓dhg_M_25, ↓dhq_M_25, ↓dhG_M_26, ↓dhG_M_27, ↓dhG_M_28, ↓dhg_M_29, ↓dhq_M_29, ↓dhG_M_30, ↓dhG_M_31, ↓dhg_M_32, ↓dhq_M_32, ↓dhg_M_33, ↓dhq_M_33, ↓dhg_M_34, ↓dhq_M_34, ↓dhg_M_35, ↓dhq_M_35, ↓dhG_M_36, ↓dhG_M_37, ↓dhg_M_38, ↓dhq_M_38, ↓dhg_M_39, ↓dhq_M_39, ↓dhG_M_40, ↓dhG_M_41, ↓dhG_M_42, ↓dhG_M_43, ↓dhg_M_44, ↓dhq_M_44, ↓dha_166, ↓dhs_166, ↓dhl_166, Option.bind_some, ↓nm_eq, ↓sm_inl, ↓sm_inr, ↓dzo_0, ↓dzo_1, ↓drg_ok, ↓if_pos, ↓if_neg, if_pos, if_neg, if_true, if_false, Int.toNat_natCast, rg_ok, ↓bnd b1, ↓bnd d2, g9, e1w, g6, c1, ei, ek]
          · dsimp only; rw [d4.2.1 j q2 q3 q4 q5, b4 j q1]; exact hK j q1 q2 q3 q4 q5
      · left
        have ekl : k = rs1.length := by omega
        rw [ekl, List.drop_length] at c6
        have fe := fin J psk rsk hF hK hR1 c2 c3 c4
        refine Or.inl ⟨(psk, rsk), chg J, c6.symm, ?_, c4.chg, c5, hR1.chg, hF.tr (chg_fr.up (fun a q => by simp at q ⊢; omega)), fun j q1 q2 q3 q4 q5 => by rw [chg_k ⟨q3, q4, q5⟩]; exact hK j q1 q2 q3 q4 q5, chg_0⟩
        simp (disch := omega) only [l_X12_bringsAll_26, b_X12_bringsAll_26, ↓dhi_M, ↓dhG_M_0, ↓dhG_M_1, ↓dhG_M_2, ↓dhG_M_3, ↓dhG_M_4, ↓dhG_M_5, ↓dhG_M_6, ↓dhG_M_7, ↓dhG_M_8, ↓dhg_M_9, ↓dhq_M_9, ↓dhG_M_10, ↓dhG_M_11, ↓dhG_M_12, ↓dhg_M_13, ↓dhq_M_13, ↓dhG_M_14, ↓dhg_M_15, ↓dhq_M_15, ↓dhG_M_16, ↓dhg_M_17, ↓dhq_M_17, ↓dhg_M_18, ↓dhq_M_18, ↓dhG_M_19, ↓dhG_M_20, ↓dhG_M_21, ↓dhG_M_22, ↓dhG_M_23, ↓dhG_M_24, ↓dhg_M_25, ↓dhq_M_25, ↓dhG_M_26, ↓dhG_M_27, ↓dhG_M_28, ↓dhg_M_29, ↓dhq_M_29, ↓dhG_M_30, ↓dhG_M_31, ↓dhg_M_32, ↓dhq_M_32, ↓dhg_M_33, ↓dhq_M_33, ↓dhg_M_34, ↓dhq_M_34, ↓dhg_M_35, ↓dhq_M_35, ↓dhG_M_36, ↓dhG_M_37, ↓dhg_M_38, ↓dhq_M_38, ↓dhg_M_39, ↓dhq_M_39, ↓dhG_M_40, ↓dhG_M_41, ↓dhG_M_42, ↓dhG_M_43, ↓dhg_M_44, ↓dhq_M_44, ↓dha_166, ↓dhs_166, ↓dhl_166, Option.bind_some, ↓nm_eq, ↓sm_inl, ↓sm_inr, ↓dzo_0, ↓dzo_1, ↓drg_ok, ↓if_pos, ↓if_neg, if_pos, if_neg, if_true, if_false, Int.toNat_natCast, rg_ok, g9, e1w, g6, c1, fe.1]
    · left
      obtain ⟨-, J', z1, z2⟩ := fin J psk rsk hF hK hR1 c3 c4 c5
      refine Or.inr ⟨c2, J', ?_, z2⟩
      by_cases hkl : k < rs1.length <;> simp (disch := omega) only [l_X12_bringsAll_26, b_X12_bringsAll_26, ↓dhi_M, ↓dhG_M_0, ↓dhG_M_1, ↓dhG_M_2, ↓dhG_M_3, ↓dhG_M_4, ↓dhG_M_5, ↓dhG_M_6, ↓dhG_M_7, ↓dhG_M_8, ↓dhg_M_9, ↓dhq_M_9, ↓dhG_M_10, ↓dhG_M_11, ↓dhG_M_12, ↓dhg_M_13, ↓dhq_M_13, ↓dhG_M_14, ↓dhg_M_15, ↓dhq_M_15, ↓dhG_M_16, ↓dhg_M_17, ↓dhq_M_17, ↓dhg_M_18, ↓dhq_M_18, ↓dhG_M_19, ↓dhG_M_20, ↓dhG_M_21, ↓dhG_M_22, ↓dhG_M_23, ↓dhG_M_24, ↓dhg_M_25, ↓dhq_M_25, ↓dhG_M_26, ↓dhG_M_27, ↓dhG_M_28, ↓dhg_M_29, ↓dhq_M_29, ↓dhG_M_30, ↓dhG_M_31, ↓dhg_M_32, ↓dhq_M_32, ↓dhg_M_33, ↓dhq_M_33, ↓dhg_M_34, ↓dhq_M_34, ↓dhg_M_35, ↓dhq_M_35, ↓dhG_M_36, ↓dhG_M_37, ↓dhg_M_38, ↓dhq_M_38, ↓dhg_M_39, ↓dhq_M_39, ↓dhG_M_40, ↓dhG_M_41, ↓dhG_M_42, ↓dhG_M_43, ↓dhg_M_44, ↓dhq_M_44, ↓dha_166, ↓dhs_166, ↓dhl_166, Option.bind_some, ↓nm_eq, ↓sm_inl, ↓sm_inr, ↓dzo_0, ↓dzo_1, ↓drg_ok, ↓if_pos, ↓if_neg, if_pos, if_neg, if_true, if_false, Int.toNat_natCast, rg_ok, g9, e1w, g6, c1, z1]
  · rintro f ⟨v4, J⟩ ⟨hF, hK, hR1, hc⟩
    dsimp only at hF hK hR1 hc ⊢
    have g9 : J 161 9 = (w : Int) := by rw [hK 9 (by decide) (by decide) (by decide) (by decide) (by decide)]; exact h9
    have g6 : J 166 (1 - w) = (rs1.length : Int) := hR1.2.1
    rcases hc with ⟨c1, ck, -⟩ | ⟨c1, c2, psk, rsk, c3, c4, c5⟩
    · omega
    · obtain ⟨-, J', z1, z2⟩ := fin J psk rsk hF hK hR1 c3 c4 c5
      refine Or.inr ⟨c2, J', ?_, z2⟩
      simp (disch := omega) only [l_X12_bringsAll_26, b_X12_bringsAll_26, ↓dhi_M, ↓dhG_M_0, ↓dhG_M_1, ↓dhG_M_2, ↓dhG_M_3, ↓dhG_M_4, ↓dhG_M_5, ↓dhG_M_6, ↓dhG_M_7, ↓dhG_M_8, ↓dhg_M_9, ↓dhq_M_9, ↓dhG_M_10, ↓dhG_M_11, ↓dhG_M_12, ↓dhg_M_13, ↓dhq_M_13, ↓dhG_M_14, ↓dhg_M_15, ↓dhq_M_15, ↓dhG_M_16, ↓dhg_M_17, ↓dhq_M_17, ↓dhg_M_18, ↓dhq_M_18, ↓dhG_M_19, ↓dhG_M_20, ↓dhG_M_21, ↓dhG_M_22, ↓dhG_M_23, ↓dhG_M_24, ↓dhg_M_25, ↓dhq_M_25, ↓dhG_M_26, ↓dhG_M_27, ↓dhG_M_28, ↓dhg_M_29, ↓dhq_M_29, ↓dhG_M_30, ↓dhG_M_31, ↓dhg_M_32, ↓dhq_M_32, ↓dhg_M_33, ↓dhq_M_33, ↓dhg_M_34, ↓dhq_M_34, ↓dhg_M_35, ↓dhq_M_35, ↓dhG_M_36, ↓dhG_M_37, ↓dhg_M_38, ↓dhq_M_38, ↓dhg_M_39, ↓dhq_M_39, ↓dhG_M_40, ↓dhG_M_41, ↓dhG_M_42, ↓dhG_M_43, ↓dhg_M_44, ↓dhq_M_44, ↓dha_166, ↓dhs_166, ↓dhl_166, Option.bind_some, ↓nm_eq, ↓sm_inl, ↓sm_inr, ↓dzo_0, ↓dzo_1, ↓drg_ok, ↓if_pos, ↓if_neg, if_pos, if_neg, if_true, if_false, Int.toNat_natCast, rg_ok, g9, e1w, g6, c1, z1]
end QD
