/-! ===== calls: a rule is entered ===== -/
theorem vld_of {t : List Int} {J : Nat → Nat → Int} (hT : TL 1 J t) : tf (J (1 + 1)) (J 1 1).toNat (J 1 1).toNat 0 0 0 = -1 ↔ vld t := by
  unfold vld
  rw [hT.1, Int.toNat_natCast]
  have e : tf (J (1 + 1)) t.length t.length 0 0 0 = tf (tl t) t.length t.length 0 0 0 := tf_congr _ _ _ _ (fun j _ hj => hT.2.1 j (by omega))
  rw [e]
theorem vld_ofR {t : List Int} {J : Nat → Nat → Int} (hT : RT J t) : tf (J 173) (J 161 13).toNat (J 161 13).toNat 0 0 0 = -1 ↔ vld t := by
  unfold vld
  rw [hT.1, Int.toNat_natCast]
  have e : tf (J 173) t.length t.length 0 0 0 = tf (tl t) t.length t.length 0 0 0 := tf_congr _ _ _ _ (fun j _ hj => hT.2.1 j (by omega))
  rw [e]
theorem RT.fr {J J' : Nat → Nat → Int} {t : List Int} (h : RT J t) (e1 : J' 161 13 = J 161 13) (e2 : J' 173 = J 173) : RT J' t := by unfold RT at *; rw [e1, e2]; exact h
theorem RG.n165 {u : Nat} {J : Nat → Nat → Int} {ps : List (Nat × List Nat)} {rs : List (Nat × List Int)} (h : RG u J ps rs) : J 165 u = (ps.length : Int) := h.1.2.1
theorem op_enter {n : Nat} (hn : 1000000000000000000000000000000 ≤ n) : OPK (fun h => f_L_enter n 0 193 h) (fun h => f_X12_enter n 161 h) := by
  intro u J L hI
  have hI0 := hI
  obtain ⟨ps, rs, ps1, rs1, t, lv, sd, w, nw, tp, tq, h⟩ := hI
  have hgm := gU_mem u
  have hu : u < 2 := h.1.1
  have hAO := h.1.2.1
  have h24 := h.r24
  have h1T : (1 : Nat) ∈ gTX := by decide
  have hT := h.2.1.2.2.2.2.1
  have rT := h.2.2.1.2.2.2.2.2.1
  have e9 : J 161 9 = (u : Int) := h.2.2.1.2.2.1
  have hRG := h.2.2.1.1
  have eF := X8_firstFault (u := u) (L := L) h1T hT.tk hn
  have hr := tf_rg (t := J (1 + 1)) (n := (J 1 1).toNat) (J 1 1).toNat 0 0 0 (by omega)
  have hT24 := hT.tk.1
  obtain ⟨q, hq⟩ : ∃ q, q = tf (J (1 + 1)) (J 1 1).toNat (J 1 1).toNat 0 0 0 := ⟨_, rfl⟩
  have hv := vld_of hT
  rw [← hq] at eF hr hv
  have hq24 : -1 ≤ q ∧ q ≤ 24 := by omega
  by_cases c : q = -1
  · have hvl := hv.mp c
    rw [c] at eF
    have n161 : ∀ a, 161 ≤ a → a < gU u ∨ gU u + 58 ≤ a := fun a ha => by rcases gUO u with ⟨q1, q2⟩ | ⟨q1, q2⟩ <;> omega
    rcases X4_admit (u := u) (L := L) hn hgm h.2.1.1 hAO (Or.inl rfl) hT hvl with ⟨ps', J1, hrd, ea, hf, -, -, hc⟩ | ⟨hrd, J1, ea, hf, -, -, hc⟩
    · have hA := hAO.add hvl (rd0_px hrd).2
      have hl24 := hc.1.po.1
      have hl24r := hA.lt
      have hj : ∀ a, 161 ≤ a → fgt J1 a = J a := fun a ha => by rw [fgt_a (by omega), hf.1 a (n161 a ha)]
      have ef := X11_forget (u := u) (I := J1) (L := L)
      have ec := CG.cnt (u := u) (L := L) (fgt_cg hgm hc (by omega))
      obtain ⟨Jf, hJf⟩ : ∃ Jf, Jf = fgt J1 := ⟨_, rfl⟩
      rw [← hJf] at ef ec
      have hj' : ∀ a, 161 ≤ a → Jf a = J a := fun a ha => by rw [hJf]; exact hj a ha
      have rT2 : RT Jf t := rT.fr (by rw [hj' 161 (by decide)]) (hj' 173 (by decide))
      have rG2 : RG u Jf ps rs := hRG.use (fun a h1 h2 => hj' a (by omega)) (by rw [hj' 161 (by decide), e9]; omega)
      have rO2 : RG (1 - u) Jf ps1 rs1 := h.2.2.1.2.1.use (fun a h1 h2 => hj' a (by omega)) (by rw [hj' 161 (by decide), e9]; omega)
      have e9f : Jf 161 9 = (u : Int) := by rw [hj' 161 (by decide)]; exact e9
      obtain ⟨N, hN⟩ : ∃ N : Int, N = (ps'.length : Int) := ⟨_, rfl⟩
      have hN24 : 0 ≤ N ∧ N ≤ 24 := by omega
      have eF2 := X12_faultOf (u := u) (L := gx_u L 193 0 N) rT2.k hn
      rw [(vld_ofR rT2).mpr hvl] at eF2
      rcases X12_enters (u := u) (L := gx_u L 193 0 N) hn rG2 e9f hAO rT2 hvl with ⟨ps2, J2, hrd2, ee, rg, fr, g33⟩ | ⟨hrd2, -⟩
      · have hps : ps2 = ps' := Option.some.inj (hrd2.symm.trans hrd)
        subst hps
        have e165 : gx_u J2 161 44 0 165 u = N := by rw [gu_ne (by decide), hN]; exact rg.n165
        have e9g : gx_u J2 161 44 0 161 9 = (u : Int) := by rw [gu_at_ne (by decide), fr.2.1 9 (by decide) (by decide) (by decide) (by decide)]; exact e9f
        rw [← hN] at ec
        refine ⟨0, u, Jf, gx_u L 193 0 N, N, gx_u J2 161 44 0, gx_u L 193 0 N, ?_, ?_, gu_same _ _ _ _, Or.inl rfl, ⟨by omega, by omega⟩, fun _ => gu_same _ _ _ _, ps2, rs ++ [(ps.length, t)], ps1, rs1, t, lv, sd, w, nw, tp, tq, ?_⟩
        · simp (disch := omega) only [f_L_enter, f_X11_enter, ↓dhi_X, ↓dhG_X_0, ↓dhG_X_1, ↓dhG_X_2, ↓dhg_X_3, ↓dhq_X_3, ↓dhG_X_4, ↓dhG_X_5, ↓dhG_X_6, ↓dhg_X_7, ↓dhq_X_7, ↓dhG_X_8, ↓dhG_X_9, ↓dhG_X_10, ↓dhG_X_11, ↓dhG_X_12, ↓dhG_X_13, ↓dhG_X_14, ↓dhG_X_15, ↓dhG_X_16, ↓dhi_T h1T, ↓dhG_T_0 h1T, ↓dhg_T_1 h1T, ↓dhq_T_1 h1T, ↓dha_T_1 h1T, ↓dhs_T_1 h1T, ↓dhl_T_1 h1T, ↓dhi_G hgm, ↓dhG_G_0 hgm, ↓dhG_G_1 hgm, ↓dhG_G_2 hgm, ↓dhg_G_3 hgm, ↓dhq_G_3 hgm, ↓dhG_G_4 hgm, ↓dhG_G_5 hgm, ↓dhg_G_6 hgm, ↓dhq_G_6 hgm, ↓dhg_G_7 hgm, ↓dhq_G_7 hgm, ↓dhG_G_8 hgm, ↓dhG_G_9 hgm, ↓dha_G_1 hgm, ↓dhs_G_1 hgm, ↓dhl_G_1 hgm, ↓dha_G_2 hgm, ↓dhs_G_2 hgm, ↓dhl_G_2 hgm, ↓dha_G_3 hgm, ↓dhs_G_3 hgm, ↓dhl_G_3 hgm, ↓dha_G_4 hgm, ↓dhl_G_4 hgm, ↓dha_G_5 hgm, ↓dhs_G_5 hgm, ↓dhl_G_5 hgm, ↓dha_193, ↓dhs_193, ↓dhl_193, Option.bind_some, ↓nm_eq, ↓sm_inl, ↓sm_inr, ↓dzo_0, ↓dzo_1, ↓drg_ok, ↓if_pos, ↓if_neg, if_pos, if_neg, if_true, if_false, Int.toNat_natCast, rg_ok, ↓bnd eF, ↓bnd ea, ↓bnd ef, ↓bnd ec] <;> rfl
        · simp (disch := omega) only [f_X12_enter, b_X12_enter_13, b_X12_enter_31, b_X12_enter_32, ↓dhi_M, ↓dhG_M_0, ↓dhG_M_1, ↓dhG_M_2, ↓dhG_M_3, ↓dhG_M_4, ↓dhG_M_5, ↓dhG_M_6, ↓dhG_M_7, ↓dhG_M_8, ↓dhg_M_9, ↓dhq_M_9, ↓dhG_M_10, ↓dhG_M_11, ↓dhG_M_12, ↓dhg_M_13, ↓dhq_M_13, ↓dhG_M_14, ↓dhg_M_15, ↓dhq_M_15, ↓dhG_M_16, ↓dhg_M_17, ↓dhq_M_17, ↓dhg_M_18, ↓dhq_M_18, ↓dhG_M_19, ↓dhG_M_20, ↓dhG_M_21, ↓dhG_M_22, ↓dhG_M_23, ↓dhG_M_24, ↓dhg_M_25, ↓dhq_M_25, ↓dhG_M_26, ↓dhG_M_27, ↓dhG_M_28, ↓dhg_M_29, ↓dhq_M_29, ↓dhG_M_30, ↓dhG_M_31, ↓dhg_M_32, ↓dhq_M_32, ↓dhg_M_33, ↓dhq_M_33, ↓dhg_M_34, ↓dhq_M_34, ↓dhg_M_35, ↓dhq_M_35, ↓dhG_M_36, ↓dhG_M_37, ↓dhg_M_38, ↓dhq_M_38, ↓dhg_M_39, ↓dhq_M_39, ↓dhG_M_40, ↓dhG_M_41, ↓dhG_M_42, ↓dhG_M_43, ↓dhg_M_44, ↓dhq_M_44, ↓dha_165, ↓dhs_165, ↓dhl_165, Option.bind_some, ↓nm_eq, ↓sm_inl, ↓sm_inr, ↓dzo_0, ↓dzo_1, ↓drg_ok, ↓if_pos, ↓if_neg, if_pos, if_neg, if_true, if_false, Int.toNat_natCast, rg_ok, ↓bnd eF2, ↓bnd ee, ↓bnd goes_0, e9g, e165]
        · have rw2 : RW J2 := rg.1.1
          have ro : RG (1 - u) J2 ps1 rs1 := rO2.ot fr (by omega) rw2 h.1.2.2.1
          have fa : ∀ a, 162 ≤ a → a ≤ 170 → gx_u J2 161 44 0 a = J2 a := fun a h1 h2 => gu_ne (by omega)
          have fb : ∀ a, a ∉ [161, 162, 163, 164, 165, 166, 167, 168, 169, 174] → gx_u J2 161 44 0 a = Jf a := fun a ha => by rw [gu_ne (fun z => by simp [z] at ha), fr.1 a ha]
          have m3 : ∀ k, k ≠ 15 → k ≠ 33 → k ≠ 34 → k ≠ 35 → k ≠ 44 → gx_u J2 161 44 0 161 k = J 161 k := fun k h1 h2 h3 h4 h5 => by rw [gu_at_ne h5, fr.2.1 k h1 h2 h3 h4, hj' 161 (by decide)]
          refine h.gram hA hf hc (rg.use fa (by rw [e9g]; omega)) (ro.use fa (by rw [e9g]; omega)) (fun a ha => by rw [fb a (by simp; omega), hJf]) (fun a ha => ?_) (m3 9 (by decide) (by decide) (by decide) (by decide) (by decide)) (m3 17 (by decide) (by decide) (by decide) (by decide) (by decide)) ?_ ?_
          · have z : a = 170 ∨ a = 171 ∨ a = 172 ∨ a = 175 := by simpa using ha
            rw [fb a (by simp; omega), hj' a (by omega)]
          · exact rT.fr (m3 13 (by decide) (by decide) (by decide) (by decide) (by decide)) (by rw [fb 173 (by decide), hj' 173 (by decide)])
          · rw [gu_at_ne (by decide), gu_at_ne (by decide), gu_at_ne (by decide)]; exact g33
      · rw [hrd] at hrd2; exact absurd hrd2 (by simp)
    · -- there is no room
      have hj : ∀ a, 161 ≤ a → J1 a = J a := fun a ha => hf.1 a (n161 a ha)
      have rT2 : RT J1 t := rT.fr (by rw [hj 161 (by decide)]) (hj 173 (by decide))
      have rG2 : RG u J1 ps rs := hRG.use (fun a h1 h2 => hj a (by omega)) (by rw [hj 161 (by decide), e9]; omega)
      have rO2 : RG (1 - u) J1 ps1 rs1 := h.2.2.1.2.1.use (fun a h1 h2 => hj a (by omega)) (by rw [hj 161 (by decide), e9]; omega)
      have e9f : J1 161 9 = (u : Int) := by rw [hj 161 (by decide)]; exact e9
      have eF2 := X12_faultOf (u := u) (L := L) rT2.k hn
      rw [(vld_ofR rT2).mpr hvl] at eF2
      rcases X12_enters (u := u) (L := L) hn rG2 e9f hAO rT2 hvl with ⟨ps2, J2, hrd2, -⟩ | ⟨hrd2, J2, ee, rg, fr, gk⟩
      · rw [hrd] at hrd2; exact absurd hrd2 (by simp)
      · have e9g : gx_u J2 161 44 2 161 9 = (u : Int) := by rw [gu_at_ne (by decide), gk 9 (by decide)]; exact e9f
        refine ⟨2, u, J1, L, 0, gx_u J2 161 44 2, L, ?_, ?_, gu_same _ _ _ _, Or.inr (Or.inr rfl), by decide, fun z => absurd z (by decide), ps, rs, ps1, rs1, t, lv, sd, w, nw, tp, tq, ?_⟩
        · simp (disch := omega) only [f_L_enter, f_X11_enter, ↓dhi_X, ↓dhG_X_0, ↓dhG_X_1, ↓dhG_X_2, ↓dhg_X_3, ↓dhq_X_3, ↓dhG_X_4, ↓dhG_X_5, ↓dhG_X_6, ↓dhg_X_7, ↓dhq_X_7, ↓dhG_X_8, ↓dhG_X_9, ↓dhG_X_10, ↓dhG_X_11, ↓dhG_X_12, ↓dhG_X_13, ↓dhG_X_14, ↓dhG_X_15, ↓dhG_X_16, ↓dhi_T h1T, ↓dhG_T_0 h1T, ↓dhg_T_1 h1T, ↓dhq_T_1 h1T, ↓dha_T_1 h1T, ↓dhs_T_1 h1T, ↓dhl_T_1 h1T, ↓dhi_G hgm, ↓dhG_G_0 hgm, ↓dhG_G_1 hgm, ↓dhG_G_2 hgm, ↓dhg_G_3 hgm, ↓dhq_G_3 hgm, ↓dhG_G_4 hgm, ↓dhG_G_5 hgm, ↓dhg_G_6 hgm, ↓dhq_G_6 hgm, ↓dhg_G_7 hgm, ↓dhq_G_7 hgm, ↓dhG_G_8 hgm, ↓dhG_G_9 hgm, ↓dha_G_1 hgm, ↓dhs_G_1 hgm, ↓dhl_G_1 hgm, ↓dha_G_2 hgm, ↓dhs_G_2 hgm, ↓dhl_G_2 hgm, ↓dha_G_3 hgm, ↓dhs_G_3 hgm, ↓dhl_G_3 hgm, ↓dha_G_4 hgm, ↓dhl_G_4 hgm, ↓dha_G_5 hgm, ↓dhs_G_5 hgm, ↓dhl_G_5 hgm, Option.bind_some, ↓nm_eq, ↓sm_inl, ↓sm_inr, ↓dzo_0, ↓dzo_1, ↓drg_ok, ↓if_pos, ↓if_neg, if_pos, if_neg, if_true, if_false, Int.toNat_natCast, rg_ok, ↓bnd eF, ↓bnd ea, xI4, xI3, if_true, if_false]
        · simp (disch := omega) only [f_X12_enter, b_X12_enter_13, b_X12_enter_31, b_X12_enter_32, ↓dhi_M, ↓dhG_M_0, ↓dhG_M_1, ↓dhG_M_2, ↓dhG_M_3, ↓dhG_M_4, ↓dhG_M_5, ↓dhG_M_6, ↓dhG_M_7, ↓dhG_M_8, ↓dhg_M_9, ↓dhq_M_9, ↓dhG_M_10, ↓dhG_M_11, ↓dhG_M_12, ↓dhg_M_13, ↓dhq_M_13, ↓dhG_M_14, ↓dhg_M_15, ↓dhq_M_15, ↓dhG_M_16, ↓dhg_M_17, ↓dhq_M_17, ↓dhg_M_18, ↓dhq_M_18, ↓dhG_M_19, ↓dhG_M_20, ↓dhG_M_21, ↓dhG_M_22, ↓dhG_M_23, ↓dhG_M_24, ↓dhg_M_25, ↓dhq_M_25, ↓dhG_M_26, ↓dhG_M_27, ↓dhG_M_28, ↓dhg_M_29, ↓dhq_M_29, ↓dhG_M_30, ↓dhG_M_31, ↓dhg_M_32, ↓dhq_M_32, ↓dhg_M_33, ↓dhq_M_33, ↓dhg_M_34, ↓dhq_M_34, ↓dhg_M_35, ↓dhq_M_35, ↓dhG_M_36, ↓dhG_M_37, ↓dhg_M_38, ↓dhq_M_38, ↓dhg_M_39, ↓dhq_M_39, ↓dhG_M_40, ↓dhG_M_41, ↓dhG_M_42, ↓dhG_M_43, ↓dhg_M_44, ↓dhq_M_44, Option.bind_some, ↓nm_eq, ↓sm_inl, ↓sm_inr, ↓dzo_0, ↓dzo_1, ↓drg_ok, ↓if_pos, ↓if_neg, if_pos, if_neg, if_true, if_false, Int.toNat_natCast, rg_ok, ↓bnd eF2, ↓bnd ee, ↓bnd (goes_2 1)]
        · have ro : RG (1 - u) J2 ps1 rs1 := rO2.ot fr (by omega) rg.1.1 h.1.2.2.1
          have fa : ∀ a, 162 ≤ a → a ≤ 170 → gx_u J2 161 44 2 a = J2 a := fun a h1 h2 => gu_ne (by omega)
          have fb : ∀ a, a ∉ [161, 162, 163, 164, 165, 166, 167, 168, 169, 174] → gx_u J2 161 44 2 a = J1 a := fun a ha => by rw [gu_ne (fun z => by simp [z] at ha), fr.1 a ha]
          have m3 : ∀ k, k ≠ 15 → k ≠ 44 → gx_u J2 161 44 2 161 k = J 161 k := fun k h1 h5 => by rw [gu_at_ne h5, gk k h1, hj 161 (by decide)]
          refine h.same (hc.eq h24.1 (fun a h1 h2 => fb a (by have := gUO u; simp; omega))) (fun a h1 h2 => by rw [fb a (by simp; omega), hf.1 a h2]) ?_ (rg.use fa (by rw [e9g]; omega)) (ro.use fa (by rw [e9g]; omega)) (m3 9 (by decide) (by decide)) (m3 17 (by decide) (by decide)) (fun a ha => ?_) (Or.inl (fun k hk => m3 k (by omega) (by omega))) ?_ (fun _ _ => rfl)
          · rw [fb (gU u) (by have := gUO u; simp; omega)]; exact hf.2
          · rw [fb a (by simp at ha ⊢; omega), hj a (by simp at ha; omega)]
          · exact rT.fr (m3 13 (by decide) (by decide)) (by rw [fb 173 (by decide), hj 173 (by decide)])
  · have hnv : ¬ vld t := fun z => c (hv.mpr z)
    have eF2 := X12_faultOf (u := u) (L := L) rT.k hn
    have hr2 := tf_rg (t := J 173) (n := (J 161 13).toNat) (J 161 13).toNat 0 0 0 (by omega)
    have hv2 := vld_ofR rT
    have hl := rT.k.1
    obtain ⟨q2, hq2⟩ : ∃ q, q = tf (J 173) (J 161 13).toNat (J 161 13).toNat 0 0 0 := ⟨_, rfl⟩
    rw [← hq2] at eF2 hr2 hv2
    have c2 : q2 ≠ -1 := fun z => hnv (hv2.mp z)
    refine k_out hI0 ?_ ?_
    · simp (disch := omega) only [f_L_enter, f_X11_enter, ↓dhi_X, ↓dhG_X_0, ↓dhG_X_1, ↓dhG_X_2, ↓dhg_X_3, ↓dhq_X_3, ↓dhG_X_4, ↓dhG_X_5, ↓dhG_X_6, ↓dhg_X_7, ↓dhq_X_7, ↓dhG_X_8, ↓dhG_X_9, ↓dhG_X_10, ↓dhG_X_11, ↓dhG_X_12, ↓dhG_X_13, ↓dhG_X_14, ↓dhG_X_15, ↓dhG_X_16, ↓dhi_T h1T, ↓dhG_T_0 h1T, ↓dhg_T_1 h1T, ↓dhq_T_1 h1T, ↓dha_T_1 h1T, ↓dhs_T_1 h1T, ↓dhl_T_1 h1T, Option.bind_some, ↓nm_eq, ↓sm_inl, ↓sm_inr, ↓dzo_0, ↓dzo_1, ↓drg_ok, ↓if_pos, ↓if_neg, if_pos, if_neg, if_true, if_false, Int.toNat_natCast, rg_ok, ↓bnd eF, xI2, if_true]
    · simp (disch := omega) only [f_X12_enter, b_X12_enter_13, b_X12_enter_31, b_X12_enter_32, ↓dhi_M, ↓dhG_M_0, ↓dhG_M_1, ↓dhG_M_2, ↓dhG_M_3, ↓dhG_M_4, ↓dhG_M_5, ↓dhG_M_6, ↓dhG_M_7, ↓dhG_M_8, ↓dhg_M_9, ↓dhq_M_9, ↓dhG_M_10, ↓dhG_M_11, ↓dhG_M_12, ↓dhg_M_13, ↓dhq_M_13, ↓dhG_M_14, ↓dhg_M_15, ↓dhq_M_15, ↓dhG_M_16, ↓dhg_M_17, ↓dhq_M_17, ↓dhg_M_18, ↓dhq_M_18, ↓dhG_M_19, ↓dhG_M_20, ↓dhG_M_21, ↓dhG_M_22, ↓dhG_M_23, ↓dhG_M_24, ↓dhg_M_25, ↓dhq_M_25, ↓dhG_M_26, ↓dhG_M_27, ↓dhG_M_28, ↓dhg_M_29, ↓dhq_M_29, ↓dhG_M_30, ↓dhG_M_31, ↓dhg_M_32, ↓dhq_M_32, ↓dhg_M_33, ↓dhq_M_33, ↓dhg_M_34, ↓dhq_M_34, ↓dhg_M_35, ↓dhq_M_35, ↓dhG_M_36, ↓dhG_M_37, ↓dhg_M_38, ↓dhq_M_38, ↓dhg_M_39, ↓dhq_M_39, ↓dhG_M_40, ↓dhG_M_41, ↓dhG_M_42, ↓dhG_M_43, ↓dhg_M_44, ↓dhq_M_44, Option.bind_some, ↓nm_eq, ↓sm_inl, ↓sm_inr, ↓dzo_0, ↓dzo_1, ↓drg_ok, ↓if_pos, ↓if_neg, if_pos, if_neg, if_true, if_false, Int.toNat_natCast, rg_ok, ↓bnd eF2, ↓bnd (goes_1 0 1)]
