/-! ===== calls: the start and the grammar that is used ===== -/
theorem CG.top {v : Nat} {J : Nat → Nat → Int} {ps : List (Nat × List Nat)} {rs : List (Nat × List Int)} (h : CG v J ps rs) {x : Int} (hx : 0 ≤ x ∧ x ≤ 7) : CG v (gx_u J v 7 x) ps rs := by
  obtain ⟨⟨⟨w1, w2, w3, w4, w5, w6⟩, h2, h3⟩, h4, h5⟩ := h
  have en : ∀ a, a ≠ v → gx_u J v 7 x a = J a := fun a ha => gu_ne ha
  have ek : ∀ k, k ≠ 7 → gx_u J v 7 x v k = J v k := fun k hk => gu_at_ne hk
  refine ⟨⟨⟨?_, ?_, ?_, ?_, ?_, ?_⟩, ?_, ?_⟩, ?_, fun i hi => ⟨?_, ?_⟩⟩
  · rw [ek 3 (by decide)]; exact w1
  · rw [ek 6 (by decide)]; exact w2
  · rw [gu_same]; exact hx
  · rw [en (v + 3) (by omega)]; exact w4
  · rw [en (v + 1) (by omega)]; exact w5
  · rw [en (v + 2) (by omega)]; exact w6
  · rw [ek 3 (by decide)]; exact h2
  · rw [en (v + 1) (by omega), en (v + 3) (by omega), en (v + 2) (by omega)]; exact h3
  · rw [ek 6 (by decide)]; exact h4
  · rw [en (v + 5) (by omega)]; exact (h5 i hi).1
  · exact (h5 i hi).2.fr (en _ (by omega)) (en _ (by omega))
theorem RG.top {v : Nat} {J : Nat → Nat → Int} {ps : List (Nat × List Nat)} {rs : List (Nat × List Int)} (h : RG v J ps rs) {k : Nat} {x : Int} (hx : 0 ≤ x ∧ x ≤ 7) : RG v (gx_u J 170 k x) ps rs := by
  obtain ⟨⟨⟨w1, w2, w3, w4, w5, w6⟩, h2⟩, h4⟩ := h
  have en : ∀ a, a ≠ 170 → gx_u J 170 k x a = J a := fun a ha => gu_ne ha
  refine ⟨⟨⟨?_, ?_, ?_, ?_, ?_, fun j => ?_⟩, ?_⟩, ?_⟩
  · rw [en 161 (by decide)]; exact w1
  · rw [en 165 (by decide)]; exact w2
  · rw [en 163 (by decide)]; exact w3
  · rw [en 162 (by decide)]; exact w4
  · rw [en 164 (by decide)]; exact w5
  · by_cases c : j = k
    · subst c; rw [gu_same]; exact hx
    · rw [gu_at_ne c]; exact w6 j
  · rw [en 165 (by decide), en 162 (by decide), en 163 (by decide), en 164 (by decide)]; exact h2
  · rw [en 166 (by decide), en 167 (by decide), en 168 (by decide), en 169 (by decide)]; exact h4
theorem RG.use {v : Nat} {J J' : Nat → Nat → Int} {ps : List (Nat × List Nat)} {rs : List (Nat × List Int)} (h : RG v J ps rs) (e : ∀ a, 162 ≤ a → a ≤ 170 → J' a = J a) (e9 : J' 161 9 = 0 ∨ J' 161 9 = 1) : RG v J' ps rs := by
  obtain ⟨⟨⟨w1, w2, w3, w4, w5, w6⟩, h2⟩, h4⟩ := h
  refine ⟨⟨⟨e9, ?_, ?_, ?_, ?_, ?_⟩, ?_⟩, ?_⟩
  · rw [e 165 (by decide) (by decide)]; exact w2
  · rw [e 163 (by decide) (by decide)]; exact w3
  · rw [e 162 (by decide) (by decide)]; exact w4
  · rw [e 164 (by decide) (by decide)]; exact w5
  · rw [e 170 (by decide) (by decide)]; exact w6
  · rw [e 165 (by decide) (by decide), e 162 (by decide) (by decide), e 163 (by decide) (by decide), e 164 (by decide) (by decide)]; exact h2
  · rw [e 166 (by decide) (by decide), e 167 (by decide) (by decide), e 168 (by decide) (by decide), e 169 (by decide) (by decide)]; exact h4
theorem fgt_k {J : Nat → Nat → Int} {a k : Nat} (h : ¬ (a = 64 ∧ k = 1)) (h2 : ¬ (a = 73 ∧ k = 2)) (h3 : ¬ (a = 79 ∧ k = 2)) : fgt J a k = J a k := by
  have one : ∀ (I : Nat → Nat → Int) (b j : Nat) (x : Int), ¬ (a = b ∧ k = j) → gx_u I b j x a k = I a k := fun I b j x hb => by
    by_cases c : a = b
    · rw [c]; exact gu_at_ne (fun z => hb ⟨c, z⟩)
    · rw [gu_ne c]
  unfold fgt
  rw [one _ _ _ _ h3, one _ _ _ _ h2, one _ _ _ _ h]
theorem fgt_a {J : Nat → Nat → Int} {a : Nat} (h : a ≠ 64 ∧ a ≠ 73 ∧ a ≠ 79) : fgt J a = J a := by
  unfold fgt
  rw [gu_ne h.2.2, gu_ne h.2.1, gu_ne h.1]
theorem op_start {n : Nat} {x : Int} (hx : gi_ok x) : OPK (fun h => f_L_start 0 x 193 h) (fun h => f_X12_start 161 x h) := by
  intro u J L hI
  have hI0 := hI
  obtain ⟨ps, rs, ps1, rs1, t, lv, sd, w, nw, tp, tq, h⟩ := hI
  obtain ⟨hx1, hx2⟩ := id hx
  obtain ⟨hg3, hgm, hw, hcg, hE⟩ := h.gm
  have hu : u < 2 := h.1.1
  by_cases c : x < 0 ∨ 8 ≤ x
  · refine k_out hI0 ?_ ?_
    · by_cases c1 : x < 0
      · simp (disch := omega) only [f_L_start, f_X11_start, b_X11_start_10, ↓dhi_X, ↓dhG_X_0, ↓dhG_X_1, ↓dhG_X_2, ↓dhg_X_3, ↓dhq_X_3, ↓dhG_X_4, ↓dhG_X_5, ↓dhG_X_6, ↓dhg_X_7, ↓dhq_X_7, ↓dhG_X_8, ↓dhG_X_9, ↓dhG_X_10, ↓dhG_X_11, ↓dhG_X_12, ↓dhG_X_13, ↓dhG_X_14, ↓dhG_X_15, ↓dhG_X_16, ↓dhi_G hgm, ↓dhG_G_0 hgm, ↓dhG_G_1 hgm, ↓dhG_G_2 hgm, ↓dhg_G_3 hgm, ↓dhq_G_3 hgm, ↓dhG_G_4 hgm, ↓dhG_G_5 hgm, ↓dhg_G_6 hgm, ↓dhq_G_6 hgm, ↓dhg_G_7 hgm, ↓dhq_G_7 hgm, ↓dhG_G_8 hgm, ↓dhG_G_9 hgm, ↓dha_G_1 hgm, ↓dhs_G_1 hgm, ↓dhl_G_1 hgm, ↓dha_G_2 hgm, ↓dhs_G_2 hgm, ↓dhl_G_2 hgm, ↓dha_G_3 hgm, ↓dhs_G_3 hgm, ↓dhl_G_3 hgm, ↓dha_G_4 hgm, ↓dhl_G_4 hgm, ↓dha_G_5 hgm, ↓dhs_G_5 hgm, ↓dhl_G_5 hgm, Option.bind_some, ↓nm_eq, ↓sm_inl, ↓sm_inr, ↓dzo_0, ↓dzo_1, ↓drg_ok, ↓if_pos, ↓if_neg, if_pos, if_neg, if_true, if_false, Int.toNat_natCast, rg_ok, xI1, if_true]
      · simp (disch := omega) only [f_L_start, f_X11_start, b_X11_start_10, ↓dhi_X, ↓dhG_X_0, ↓dhG_X_1, ↓dhG_X_2, ↓dhg_X_3, ↓dhq_X_3, ↓dhG_X_4, ↓dhG_X_5, ↓dhG_X_6, ↓dhg_X_7, ↓dhq_X_7, ↓dhG_X_8, ↓dhG_X_9, ↓dhG_X_10, ↓dhG_X_11, ↓dhG_X_12, ↓dhG_X_13, ↓dhG_X_14, ↓dhG_X_15, ↓dhG_X_16, ↓dhi_G hgm, ↓dhG_G_0 hgm, ↓dhG_G_1 hgm, ↓dhG_G_2 hgm, ↓dhg_G_3 hgm, ↓dhq_G_3 hgm, ↓dhG_G_4 hgm, ↓dhG_G_5 hgm, ↓dhg_G_6 hgm, ↓dhq_G_6 hgm, ↓dhg_G_7 hgm, ↓dhq_G_7 hgm, ↓dhG_G_8 hgm, ↓dhG_G_9 hgm, ↓dha_G_1 hgm, ↓dhs_G_1 hgm, ↓dhl_G_1 hgm, ↓dha_G_2 hgm, ↓dhs_G_2 hgm, ↓dhl_G_2 hgm, ↓dha_G_3 hgm, ↓dhs_G_3 hgm, ↓dhl_G_3 hgm, ↓dha_G_4 hgm, ↓dhl_G_4 hgm, ↓dha_G_5 hgm, ↓dhs_G_5 hgm, ↓dhl_G_5 hgm, Option.bind_some, ↓nm_eq, ↓sm_inl, ↓sm_inr, ↓dzo_0, ↓dzo_1, ↓drg_ok, ↓if_pos, ↓if_neg, if_pos, if_neg, if_true, if_false, Int.toNat_natCast, rg_ok, xI1, if_true]
    · simp (disch := omega) only [f_X12_start, ↓dhi_M, ↓dhG_M_0, ↓dhG_M_1, ↓dhG_M_2, ↓dhG_M_3, ↓dhG_M_4, ↓dhG_M_5, ↓dhG_M_6, ↓dhG_M_7, ↓dhG_M_8, ↓dhg_M_9, ↓dhq_M_9, ↓dhG_M_10, ↓dhG_M_11, ↓dhG_M_12, ↓dhg_M_13, ↓dhq_M_13, ↓dhG_M_14, ↓dhg_M_15, ↓dhq_M_15, ↓dhG_M_16, ↓dhg_M_17, ↓dhq_M_17, ↓dhg_M_18, ↓dhq_M_18, ↓dhG_M_19, ↓dhG_M_20, ↓dhG_M_21, ↓dhG_M_22, ↓dhG_M_23, ↓dhG_M_24, ↓dhg_M_25, ↓dhq_M_25, ↓dhG_M_26, ↓dhG_M_27, ↓dhG_M_28, ↓dhg_M_29, ↓dhq_M_29, ↓dhG_M_30, ↓dhG_M_31, ↓dhg_M_32, ↓dhq_M_32, ↓dhg_M_33, ↓dhq_M_33, ↓dhg_M_34, ↓dhq_M_34, ↓dhg_M_35, ↓dhq_M_35, ↓dhG_M_36, ↓dhG_M_37, ↓dhg_M_38, ↓dhq_M_38, ↓dhg_M_39, ↓dhq_M_39, ↓dhG_M_40, ↓dhG_M_41, ↓dhG_M_42, ↓dhG_M_43, ↓dhg_M_44, ↓dhq_M_44, Option.bind_some, ↓nm_eq, ↓sm_inl, ↓sm_inr, ↓dzo_0, ↓dzo_1, ↓drg_ok, ↓if_pos, ↓if_neg, if_pos, if_neg, if_true, if_false, Int.toNat_natCast, rg_ok, ↓bnd (isB_0 (m := 8) c hx (by omega) _), ↓bnd (goes_1 1 1)]
  · obtain ⟨s, rfl⟩ : ∃ a : Nat, x = (a : Int) := ⟨x.toNat, by omega⟩
    have hs : s < 8 := by omega
    have ht8 := h.1.2.2.2.2.1
    have e1 := X4_top (u := u) (L := L) hgm hw
    rw [hcg] at e1
    have et : ((Gt (gtp ps tp) : Nat) : Int) = (tp : Int) := rfl
    rw [et] at e1
    have e2 := X4_setTop (u := u) (I := J) (L := L) hgm (s : Int)
    obtain ⟨J1, hJ1⟩ : ∃ J1, J1 = fgt (gx_u J (gU u) 7 (s : Int)) := ⟨_, rfl⟩
    have e3 := X11_forget (u := u) (I := gx_u J (gU u) 7 (s : Int)) (L := L)
    rw [← hJ1] at e3
    have f1 : ∀ a, a ≠ gU u → a ≠ 64 → a ≠ 73 → a ≠ 79 → J1 a = J a := fun a h1 h2 h3 h4 => by rw [hJ1, fgt_a ⟨h2, h3, h4⟩, gu_ne h1]
    have n161 : gU u ≠ 161 ∧ gU u ≠ 170 ∧ gU u ≠ 64 ∧ gU u ≠ 73 ∧ gU u ≠ 79 := by omega
    have j161 : J1 161 = J 161 := f1 161 (by omega) (by decide) (by decide) (by decide)
    have j170 : J1 170 = J 170 := f1 170 (by omega) (by decide) (by decide) (by decide)
    have e9 : gx_u J1 161 44 0 161 9 = (u : Int) := by rw [gu_at_ne (by decide), j161]; exact h.2.2.1.2.2.1
    have e170 : gx_u J1 161 44 0 170 u = (tp : Int) := by rw [gu_ne (by decide), j170]; exact h.2.2.1.2.2.2.1
    obtain ⟨J3, hJ3⟩ : ∃ J3, J3 = gx_u (gx_u J1 161 44 0) 170 u (s : Int) := ⟨_, rfl⟩
    have e4 := X12_changed (u := u) (L := gx_u L 193 0 (tp : Int)) (J := J3)
    have f3 : ∀ a, a ≠ 161 → a ≠ 170 → chg J3 a = J1 a := fun a h1 h2 => by rw [chg_ne h1, hJ3, gu_ne h2, gu_ne h1]
    have m3 : ∀ k, k ≠ 33 → k ≠ 34 → k ≠ 35 → k ≠ 44 → chg J3 161 k = J 161 k := fun k h1 h2 h3 h4 => by rw [chg_k ⟨h1, h2, h3⟩, hJ3, gu_ne (by decide), gu_at_ne h4, j161]
    refine ⟨0, u, J1, gx_u L 193 0 (tp : Int), (tp : Int), chg J3, gx_u L 193 0 (tp : Int), ?_, ?_, ?_, Or.inl rfl, ⟨by omega, by omega⟩, fun _ => gu_same _ _ _ _, ps, rs, ps1, rs1, t, lv, sd, w, nw, s, tq, ?_⟩
    · simp (disch := omega) only [f_L_start, f_X11_start, b_X11_start_10, ↓dhi_X, ↓dhG_X_0, ↓dhG_X_1, ↓dhG_X_2, ↓dhg_X_3, ↓dhq_X_3, ↓dhG_X_4, ↓dhG_X_5, ↓dhG_X_6, ↓dhg_X_7, ↓dhq_X_7, ↓dhG_X_8, ↓dhG_X_9, ↓dhG_X_10, ↓dhG_X_11, ↓dhG_X_12, ↓dhG_X_13, ↓dhG_X_14, ↓dhG_X_15, ↓dhG_X_16, ↓dhi_G hgm, ↓dhG_G_0 hgm, ↓dhG_G_1 hgm, ↓dhG_G_2 hgm, ↓dhg_G_3 hgm, ↓dhq_G_3 hgm, ↓dhG_G_4 hgm, ↓dhG_G_5 hgm, ↓dhg_G_6 hgm, ↓dhq_G_6 hgm, ↓dhg_G_7 hgm, ↓dhq_G_7 hgm, ↓dhG_G_8 hgm, ↓dhG_G_9 hgm, ↓dha_G_1 hgm, ↓dhs_G_1 hgm, ↓dhl_G_1 hgm, ↓dha_G_2 hgm, ↓dhs_G_2 hgm, ↓dhl_G_2 hgm, ↓dha_G_3 hgm, ↓dhs_G_3 hgm, ↓dhl_G_3 hgm, ↓dha_G_4 hgm, ↓dhl_G_4 hgm, ↓dha_G_5 hgm, ↓dhs_G_5 hgm, ↓dhl_G_5 hgm, ↓dha_193, ↓dhs_193, ↓dhl_193, Option.bind_some, ↓nm_eq, ↓sm_inl, ↓sm_inr, ↓dzo_0, ↓dzo_1, ↓drg_ok, ↓if_pos, ↓if_neg, if_pos, if_neg, if_true, if_false, Int.toNat_natCast, rg_ok, ↓bnd e1, ↓bnd e2, ↓bnd e3] <;> rfl
    · rw [hJ3] at e4 ⊢
      simp (disch := omega) only [f_X12_start, ↓dhi_M, ↓dhG_M_0, ↓dhG_M_1, ↓dhG_M_2, ↓dhG_M_3, ↓dhG_M_4, ↓dhG_M_5, ↓dhG_M_6, ↓dhG_M_7, ↓dhG_M_8, ↓dhg_M_9, ↓dhq_M_9, ↓dhG_M_10, ↓dhG_M_11, ↓dhG_M_12, ↓dhg_M_13, ↓dhq_M_13, ↓dhG_M_14, ↓dhg_M_15, ↓dhq_M_15, ↓dhG_M_16, ↓dhg_M_17, ↓dhq_M_17, ↓dhg_M_18, ↓dhq_M_18, ↓dhG_M_19, ↓dhG_M_20, ↓dhG_M_21, ↓dhG_M_22, ↓dhG_M_23, ↓dhG_M_24, ↓dhg_M_25, ↓dhq_M_25, ↓dhG_M_26, ↓dhG_M_27, ↓dhG_M_28, ↓dhg_M_29, ↓dhq_M_29, ↓dhG_M_30, ↓dhG_M_31, ↓dhg_M_32, ↓dhq_M_32, ↓dhg_M_33, ↓dhq_M_33, ↓dhg_M_34, ↓dhq_M_34, ↓dhg_M_35, ↓dhq_M_35, ↓dhG_M_36, ↓dhG_M_37, ↓dhg_M_38, ↓dhq_M_38, ↓dhg_M_39, ↓dhq_M_39, ↓dhG_M_40, ↓dhG_M_41, ↓dhG_M_42, ↓dhG_M_43, ↓dhg_M_44, ↓dhq_M_44, ↓dha_170, ↓dhs_170, ↓dhl_170, Option.bind_some, ↓nm_eq, ↓sm_inl, ↓sm_inr, ↓dzo_0, ↓dzo_1, ↓drg_ok, ↓if_pos, ↓if_neg, if_pos, if_neg, if_true, if_false, Int.toNat_natCast, rg_ok, ↓bnd (isB_1 (x := (s : Int)) (m := 8) (by omega) (by omega) _), ↓bnd goes_0, e9, e170, ↓bnd e4]
    · rw [chg_k ⟨by decide, by decide, by decide⟩, hJ3, gu_ne (by decide), gu_same]
    · have hr : RG u (gx_u J 170 u (s : Int)) ps rs := h.2.2.1.1.top (by omega)
      have hr1 : RG (1 - u) (gx_u J 170 u (s : Int)) ps1 rs1 := h.2.2.1.2.1.top (by omega)
      have hrc : ∀ a, 162 ≤ a → a ≤ 170 → chg J3 a = gx_u J 170 u (s : Int) a := fun a h1 h2 => by
        rw [chg_ne (by omega), hJ3]
        by_cases c : a = 170
        · subst c
          funext k
          by_cases ck : k = u
          · subst ck; rw [gu_same, gu_same]
          · rw [gu_at_ne ck, gu_at_ne ck, gu_ne (by decide), j170]
        · rw [gu_ne c, gu_ne c, gu_ne (by omega), f1 a (by omega) (by omega) (by omega) (by omega)]
      have h9 : chg J3 161 9 = (u : Int) := (m3 9 (by decide) (by decide) (by decide) (by decide)).trans h.2.2.1.2.2.1
      have hg1 : CG (gU u) (gx_u J (gU u) 7 (s : Int)) ps rs := h.2.1.1.top (by omega)
      have hfv : ∀ v, v = gU u ∨ v = gO u → ∀ a, v ≤ a → a < v + 58 → chg J3 a = gx_u J (gU u) 7 (s : Int) a := fun v hv a h1 h2 => by
        rw [f3 a (by rcases gUO u with ⟨q1, q2⟩ | ⟨q1, q2⟩ <;> rcases hv with z | z <;> omega) (by rcases gUO u with ⟨q1, q2⟩ | ⟨q1, q2⟩ <;> rcases hv with z | z <;> omega), hJ1, fgt_a (by rcases gUO u with ⟨q1, q2⟩ | ⟨q1, q2⟩ <;> rcases hv with z | z <;> omega)]
      have hgo : gO u ≠ gU u := by rcases gUO u with ⟨q1, q2⟩ | ⟨q1, q2⟩ <;> omega
      have hgo2 : ∀ a, gO u ≤ a → a < gO u + 58 → a ≠ gU u := fun a h1 h2 => by rcases gUO u with ⟨q1, q2⟩ | ⟨q1, q2⟩ <;> omega
      have fO : ∀ a, gO u ≤ a → a < gO u + 58 → chg J3 a = J a := fun a h1 h2 => by rw [hfv _ (Or.inr rfl) a h1 h2, gu_ne (hgo2 a h1 h2)]
      have h24 := h.r24
      have fz : ∀ a, a ≠ gU u → a ≠ 64 → a ≠ 73 → a ≠ 79 → a ≠ 161 → a ≠ 170 → chg J3 a = J a := fun a h1 h2 h3 h4 h5 h6 => by rw [f3 a h5 h6, f1 a h1 h2 h3 h4]
      have fj : chg J3 64 1 = 0 ∧ chg J3 73 2 = 0 ∧ chg J3 79 2 = 0 := by rw [f3 64 (by decide) (by decide), f3 73 (by decide) (by decide), f3 79 (by decide) (by decide), hJ1]; exact fgt_0
      refine h.forgot hu h.1.2.1 h.1.2.2.1 hs h.1.2.2.2.2.2 (hg1.eq h24.1 (hfv _ (Or.inl rfl))) (h.2.1.2.1.eq h24.2.1 fO) ?_ ?_ (fun a ha => fz a (by simp at ha; omega) (by simp at ha; omega) (by simp at ha; omega) (by simp at ha; omega) (by simp at ha; omega) (by simp at ha; omega)) ?_ ?_ (hr.use hrc (by rw [h9]; omega)) (hr1.use hrc (by rw [h9]; omega)) h9 ?_ ?_ ?_ (m3 17 (by decide) (by decide) (by decide) (by decide)) fj ?_ chg_0
      · rw [hfv _ (Or.inl rfl) _ (Nat.le_refl _) (by omega), gu_same]
      · rw [fO _ (Nat.le_refl _) (by omega)]; exact h.2.1.2.2.2.1
      · rw [fz 0 (by omega) (by decide) (by decide) (by decide) (by decide) (by decide)]
      · rw [fz 0 (by omega) (by decide) (by decide) (by decide) (by decide) (by decide)]; exact h.2.1.2.2.2.2.2.2.2.2
      · rw [hrc 170 (by decide) (by decide), gu_same]
      · rw [hrc 170 (by decide) (by decide), gu_at_ne (by omega)]; exact h.2.2.1.2.2.2.2.1
      · have := h.2.2.1.2.2.2.2.2.1; unfold RT at *; rw [fz 173 (by omega) (by decide) (by decide) (by decide) (by decide) (by decide), m3 13 (by decide) (by decide) (by decide) (by decide)]; exact this
      · have k1 : ∀ a k, a ≠ gU u → a ≠ 161 → a ≠ 170 → (a ≠ 64 ∧ (a = 73 → k ≠ 2) ∧ (a = 79 → k ≠ 2)) → chg J3 a k = J a k := fun a k h1 h2 h3 h4 => by
          rw [f3 a h2 h3, hJ1, fgt_k (fun z => h4.1 z.1) (fun z => h4.2.1 z.1 z.2) (fun z => h4.2.2 z.1 z.2), gu_ne h1]
        exact ⟨k1 73 1 (by omega) (by decide) (by decide) (by decide), k1 79 1 (by omega) (by decide) (by decide) (by decide), k1 148 2 (by omega) (by decide) (by decide) (by decide), k1 151 2 (by omega) (by decide) (by decide) (by decide), k1 154 2 (by omega) (by decide) (by decide) (by decide)⟩
