/-! ===== grammars taken into use, rules entered, taken away, brought ===== -/
section KD
variable {n : Nat} {u : Nat} {ps ps1 : List (Nat × List Nat)} {rs rs1 : List (Nat × List Int)} {t : List Int} {lv sd : Nat → Int} {w : Nat → Nat} {nw tp tq : Nat} {J L : Nat → Nat → Int}
theorem k_use0 (h : JV u ps rs ps1 rs1 t lv sd w nw tp tq J L) : f_L_use 0 (u : Int) (hp u J L) = some ((u : Int), hp u J L) := by
  have hu : u < 2 := h.1.1.1
  have e3 : J 0 3 = (u : Int) := h.2.1.2.2.2.2.2.2.2.2
  simp (disch := omega) only [f_L_use, f_X11_use, b_X11_use_9, ↓dhi_X, ↓dhG_X_0, ↓dhG_X_1, ↓dhG_X_2, ↓dhg_X_3, ↓dhq_X_3, ↓dhG_X_4, ↓dhG_X_5, ↓dhG_X_6, ↓dhg_X_7, ↓dhq_X_7, ↓dhG_X_8, ↓dhG_X_9, ↓dhG_X_10, ↓dhG_X_11, ↓dhG_X_12, ↓dhG_X_13, ↓dhG_X_14, ↓dhG_X_15, ↓dhG_X_16, Option.bind_some, ↓nm_eq, ↓sm_inl, ↓sm_inr, ↓dzo_0, ↓dzo_1, ↓drg_ok, ↓if_pos, ↓if_neg, if_pos, if_neg, if_true, if_false, Int.toNat_natCast, rg_ok, e3] <;> rfl
theorem k_use1 (h : JV u ps rs ps1 rs1 t lv sd w nw tp tq J L) : ∃ J1, f_L_use 0 ((1 - u : Nat) : Int) (hp u J L) = some ((u : Int), hp (1 - u) J1 L) ∧ JV (1 - u) ps1 rs1 ps rs t lv sd w nw tq tp J1 L ∧ J1 161 = J 161 := by
  have hu : u < 2 := h.1.1.1
  obtain ⟨u1, hu1⟩ : ∃ u1, u1 = 1 - u := ⟨_, rfl⟩
  obtain ⟨gu1, gu2⟩ := gU_1 hu
  rw [← hu1] at gu1 gu2 ⊢
  have e3 : J 0 3 = (u : Int) := h.2.1.2.2.2.2.2.2.2.2
  obtain ⟨J0, hJ0⟩ : ∃ J0, J0 = gx_u J 0 3 (u1 : Int) := ⟨_, rfl⟩
  obtain ⟨J1, hJ1⟩ : ∃ J1, J1 = fgt J0 := ⟨_, rfl⟩
  have p1 : gi_pR (hp u J L) 0 9 1 (gO u) = some ((162, S0, J, L, gx_u (hR u) 0 1 (some (gO u))) : gi_H) := hxp rfl (by decide)
  have p2 : gi_pR ((162, S0, J, L, gx_u (hR u) 0 1 (some (gO u))) : gi_H) 0 9 2 (gU u) = some ((162, S0, J, L, Rsw u) : gi_H) := hxp rfl (by decide)
  have p3 : gi_pI ((162, S0, J, L, Rsw u) : gi_H) 0 9 3 (u1 : Int) = some ((162, S0, J0, L, Rsw u) : gi_H) := by rw [hJ0]; exact hxI rfl (by decide)
  have p4 : gi_is ((162, S0, J0, L, Rsw u) : gi_H) 0 9 = some () := hxi rfl (by decide)
  have p5 := forget_sw (u := u) (J := J0) (L := L) hu
  rw [← hJ1, ← hu1] at p5
  have f1 : ∀ a, a ≠ 0 → a ≠ 64 → a ≠ 73 → a ≠ 79 → J1 a = J a := fun a h1 h2 h3 h4 => by rw [hJ1, fgt_a ⟨h2, h3, h4⟩, hJ0, gu_ne h1]
  have h24 := h.r24
  have hy : ∀ v, v = gU u ∨ v = gO u → ∀ a, v ≤ a → a < v + 58 → a ≠ 0 ∧ a ≠ 64 ∧ a ≠ 73 ∧ a ≠ 79 := fun v hv a h1 h2 => by rcases gUO u with ⟨q1, q2⟩ | ⟨q1, q2⟩ <;> rcases hv with z | z <;> omega
  have fv : ∀ v, v = gU u ∨ v = gO u → ∀ a, v ≤ a → a < v + 58 → J1 a = J a := fun v hv a h1 h2 => by obtain ⟨a1, a2, a3, a4⟩ := hy v hv a h1 h2; exact f1 a a1 a2 a3 a4
  refine ⟨J1, ?_, ?_, f1 161 (by decide) (by decide) (by decide) (by decide)⟩
  · simp (disch := omega) only [f_L_use, f_X11_use, b_X11_use_9, ↓dhi_X, ↓dhG_X_0, ↓dhG_X_1, ↓dhG_X_2, ↓dhg_X_3, ↓dhq_X_3, ↓dhG_X_4, ↓dhG_X_5, ↓dhG_X_6, ↓dhg_X_7, ↓dhq_X_7, ↓dhG_X_8, ↓dhG_X_9, ↓dhG_X_10, ↓dhG_X_11, ↓dhG_X_12, ↓dhG_X_13, ↓dhG_X_14, ↓dhG_X_15, ↓dhG_X_16, Option.bind_some, ↓nm_eq, ↓sm_inl, ↓sm_inr, ↓dzo_0, ↓dzo_1, ↓drg_ok, ↓if_pos, ↓if_neg, if_pos, if_neg, if_true, if_false, Int.toNat_natCast, rg_ok, ↓bnd p1, ↓bnd p2, ↓bnd p3, ↓bnd p4, ↓bnd p5, e3] <;> rfl
  · have c1 : CG (gU u1) J1 ps1 rs1 := by rw [gu1]; exact h.2.1.2.1.eq h24.2.1 (fv _ (Or.inr rfl))
    have c2 : CG (gO u1) J1 ps rs := by rw [gu2]; exact h.2.1.1.eq h24.1 (fv _ (Or.inl rfl))
    refine h.forgot (by omega) h.1.1.2.2.1 h.1.1.2.1 h.1.2.2 h.1.2.1 h.1.1.2.2.2.2.2 h.1.1.2.2.2.2.1 c1 c2 ?_ ?_ (fun a ha => ?_) ?_ ?_ (by rw [hJ1]; exact fgt_0) ?_
    · rw [gu1, fv _ (Or.inr rfl) _ (Nat.le_refl _) (by omega)]; exact h.2.1.2.2.2.1
    · rw [gu2, fv _ (Or.inl rfl) _ (Nat.le_refl _) (by omega)]; exact h.2.1.2.2.1
    · have : a = 1 ∨ a = 2 ∨ a = 61 ∨ a = 62 ∨ a = 63 := by simpa using ha
      exact f1 a (by omega) (by omega) (by omega) (by omega)
    · rw [hJ1, fgt_a (by decide), hJ0, gu_at_ne (by decide)]
    · rw [hJ1, fgt_a (by decide), hJ0, gu_same]
    · have k1 : ∀ a k, a ≠ 0 → (a ≠ 64 ∧ (a = 73 → k ≠ 2) ∧ (a = 79 → k ≠ 2)) → J1 a k = J a k := fun a k h1 h4 => by
        rw [hJ1, fgt_k (fun z => h4.1 z.1) (fun z => h4.2.1 z.1 z.2) (fun z => h4.2.2 z.1 z.2), hJ0, gu_ne h1]
      exact ⟨k1 73 1 (by decide) (by decide), k1 79 1 (by decide) (by decide), k1 148 2 (by decide) (by decide), k1 151 2 (by decide) (by decide), k1 154 2 (by decide) (by decide)⟩
theorem k_undo0 (h : JV u ps rs ps1 rs1 t lv sd w nw tp tq J L) (hr : rs = []) : f_L_undo 0 (hp u J L) = some (-103, hp u J L) := by
  have hgm := gU_mem u
  rcases X4_dropLastRule (u := u) (L := L) hgm h.2.1.1 h.1.1.2.1 with ⟨-, ed⟩ | ⟨hr0, -⟩
  · simp (disch := omega) only [f_L_undo, f_X11_undo, ↓dhi_X, ↓dhG_X_0, ↓dhG_X_1, ↓dhG_X_2, ↓dhg_X_3, ↓dhq_X_3, ↓dhG_X_4, ↓dhG_X_5, ↓dhG_X_6, ↓dhg_X_7, ↓dhq_X_7, ↓dhG_X_8, ↓dhG_X_9, ↓dhG_X_10, ↓dhG_X_11, ↓dhG_X_12, ↓dhG_X_13, ↓dhG_X_14, ↓dhG_X_15, ↓dhG_X_16, ↓dhi_G hgm, ↓dhG_G_0 hgm, ↓dhG_G_1 hgm, ↓dhG_G_2 hgm, ↓dhg_G_3 hgm, ↓dhq_G_3 hgm, ↓dhG_G_4 hgm, ↓dhG_G_5 hgm, ↓dhg_G_6 hgm, ↓dhq_G_6 hgm, ↓dhg_G_7 hgm, ↓dhq_G_7 hgm, ↓dhG_G_8 hgm, ↓dhG_G_9 hgm, ↓dha_G_1 hgm, ↓dhs_G_1 hgm, ↓dhl_G_1 hgm, ↓dha_G_2 hgm, ↓dhs_G_2 hgm, ↓dhl_G_2 hgm, ↓dha_G_3 hgm, ↓dhs_G_3 hgm, ↓dhl_G_3 hgm, ↓dha_G_4 hgm, ↓dhl_G_4 hgm, ↓dha_G_5 hgm, ↓dhs_G_5 hgm, ↓dhl_G_5 hgm, Option.bind_some, ↓nm_eq, ↓sm_inl, ↓sm_inr, ↓dzo_0, ↓dzo_1, ↓drg_ok, ↓if_pos, ↓if_neg, if_pos, if_neg, if_true, if_false, Int.toNat_natCast, rg_ok, ↓bnd ed, xI3, if_true]
  · exact absurd hr hr0
theorem k_undo1 (h : JV u ps rs ps1 rs1 t lv sd w nw tp tq J L) (hr : rs ≠ []) : (rs.getD (rs.length - 1) (0, [])).1 < ps.length ∧ ∃ J1, f_L_undo 0 (hp u J L) = some (((rs.getD (rs.length - 1) (0, [])).1 : Int), hp u J1 L) ∧ JV u (ps.take (rs.getD (rs.length - 1) (0, [])).1) (rs.take (rs.length - 1)) ps1 rs1 t lv sd w nw tp tq J1 L ∧ J1 161 = J 161 := by
  have hgm := gU_mem u
  have hAO := h.1.1.2.1
  have h24 := h.r24
  have hl0 : rs.length ≠ 0 := fun z => hr (List.eq_nil_of_length_eq_zero z)
  rcases X4_dropLastRule (u := u) (L := L) hgm h.2.1.1 hAO with ⟨hr0, -⟩ | ⟨-, J1, ed, hf, hc⟩
  · exact absurd hr0 hr
  · have hA := hAO.cut hl0 h24.2.2.1
    have h0 := h.1.2.1.cut hr
    have hcl : (rs.getD (rs.length - 1) (0, [])).1 < ps.length := by
      have := (hAO (rs.length - 1) (by omega)).2
      rw [if_neg (by omega)] at this
      exact this
    obtain ⟨hj1, hj2⟩ := h.gram hA h0 hf hc
    refine ⟨hcl, fgt J1, ?_, hj1, hj2⟩
    have ef := X11_forget (u := u) (I := J1) (L := L)
    have ec := CG.cnt (u := u) (L := L) hj1.2.1.1
    rw [List.length_take, Nat.min_eq_left (by omega)] at ec
    generalize (rs.getD (rs.length - 1) (0, [])).1 = c at *
    simp (disch := omega) only [f_L_undo, f_X11_undo, ↓dhi_X, ↓dhG_X_0, ↓dhG_X_1, ↓dhG_X_2, ↓dhg_X_3, ↓dhq_X_3, ↓dhG_X_4, ↓dhG_X_5, ↓dhG_X_6, ↓dhg_X_7, ↓dhq_X_7, ↓dhG_X_8, ↓dhG_X_9, ↓dhG_X_10, ↓dhG_X_11, ↓dhG_X_12, ↓dhG_X_13, ↓dhG_X_14, ↓dhG_X_15, ↓dhG_X_16, ↓dhi_G hgm, ↓dhG_G_0 hgm, ↓dhG_G_1 hgm, ↓dhG_G_2 hgm, ↓dhg_G_3 hgm, ↓dhq_G_3 hgm, ↓dhG_G_4 hgm, ↓dhG_G_5 hgm, ↓dhg_G_6 hgm, ↓dhq_G_6 hgm, ↓dhg_G_7 hgm, ↓dhq_G_7 hgm, ↓dhG_G_8 hgm, ↓dhG_G_9 hgm, ↓dha_G_1 hgm, ↓dhs_G_1 hgm, ↓dhl_G_1 hgm, ↓dha_G_2 hgm, ↓dhs_G_2 hgm, ↓dhl_G_2 hgm, ↓dha_G_3 hgm, ↓dhs_G_3 hgm, ↓dhl_G_3 hgm, ↓dha_G_4 hgm, ↓dhl_G_4 hgm, ↓dha_G_5 hgm, ↓dhs_G_5 hgm, ↓dhl_G_5 hgm, Option.bind_some, ↓nm_eq, ↓sm_inl, ↓sm_inr, ↓dzo_0, ↓dzo_1, ↓drg_ok, ↓if_pos, ↓if_neg, if_pos, if_neg, if_true, if_false, Int.toNat_natCast, rg_ok, ↓bnd ed, ↓bnd ef, ↓bnd ec] <;> rfl
theorem k_enter0 (hn : 1000000000000000000000000000000 ≤ n) (h : JV u ps rs ps1 rs1 t lv sd w nw tp tq J L) (hv : ¬ vld t) : f_L_enter n 0 (hp u J L) = some (-102, hp u J L) := by
  have h1T : (1 : Nat) ∈ gTX := by decide
  have hT := h.tl
  have eF := X8_firstFault (u := u) (L := L) h1T hT.tk hn
  have hr := tf_rg (t := J (1 + 1)) (n := (J 1 1).toNat) (J 1 1).toNat 0 0 0 (by omega)
  have hT24 := hT.tk.1
  obtain ⟨q, hq⟩ : ∃ q, q = tf (J (1 + 1)) (J 1 1).toNat (J 1 1).toNat 0 0 0 := ⟨_, rfl⟩
  have hv' := vld_of hT
  rw [← hq] at eF hr hv'
  have hq24 : -1 ≤ q ∧ q ≤ 24 := by omega
  have c : q ≠ -1 := fun z => hv (hv'.mp z)
  simp (disch := omega) only [f_L_enter, f_X11_enter, ↓dhi_X, ↓dhG_X_0, ↓dhG_X_1, ↓dhG_X_2, ↓dhg_X_3, ↓dhq_X_3, ↓dhG_X_4, ↓dhG_X_5, ↓dhG_X_6, ↓dhg_X_7, ↓dhq_X_7, ↓dhG_X_8, ↓dhG_X_9, ↓dhG_X_10, ↓dhG_X_11, ↓dhG_X_12, ↓dhG_X_13, ↓dhG_X_14, ↓dhG_X_15, ↓dhG_X_16, ↓dhi_T h1T, ↓dhG_T_0 h1T, ↓dhg_T_1 h1T, ↓dhq_T_1 h1T, ↓dha_T_1 h1T, ↓dhs_T_1 h1T, ↓dhl_T_1 h1T, Option.bind_some, ↓nm_eq, ↓sm_inl, ↓sm_inr, ↓dzo_0, ↓dzo_1, ↓drg_ok, ↓if_pos, ↓if_neg, if_pos, if_neg, if_true, if_false, Int.toNat_natCast, rg_ok, ↓bnd eF, xI2, if_true]
theorem k_enter (hn : 1000000000000000000000000000000 ≤ n) (h : JV u ps rs ps1 rs1 t lv sd w nw tp tq J L) (hv : vld t) :
    (∃ ps' J1, rd0 t ps = some ps' ∧ f_L_enter n 0 (hp u J L) = some ((ps'.length : Int), hp u J1 L) ∧ JV u ps' (rs ++ [(ps.length, t)]) ps1 rs1 t lv sd w nw tp tq J1 L ∧ J1 161 = J 161) ∨
    (rd0 t ps = none ∧ ∃ J1, f_L_enter n 0 (hp u J L) = some (-103, hp u J1 L) ∧ JV u ps rs ps1 rs1 t lv sd w nw tp tq J1 L ∧ J1 161 = J 161) := by
  have hgm := gU_mem u
  have hAO := h.1.1.2.1
  have h24 := h.r24
  have h1T : (1 : Nat) ∈ gTX := by decide
  have hT := h.tl
  have eF := X8_firstFault (u := u) (L := L) h1T hT.tk hn
  have hT24 := hT.tk.1
  rw [(vld_of hT).mpr hv] at eF
  have n161 : ∀ a, 161 ≤ a → a < gU u ∨ gU u + 58 ≤ a := fun a ha => by rcases gUO u with ⟨q1, q2⟩ | ⟨q1, q2⟩ <;> omega
  rcases X4_admit (u := u) (L := L) hn hgm h.2.1.1 hAO (Or.inl rfl) hT hv with ⟨ps', J1, hrd, ea, hf, -, -, hc⟩ | ⟨hrd, J1, ea, hf, -, -, hc⟩
  · left
    have hA := hAO.add hv (rd0_px hrd).2
    obtain ⟨hj1, hj2⟩ := h.gram hA h.1.2.1.add hf hc
    refine ⟨ps', fgt J1, hrd, ?_, hj1, hj2⟩
    have hl24 := hc.1.po.1
    have ef := X11_forget (u := u) (I := J1) (L := L)
    have ec := CG.cnt (u := u) (L := L) hj1.2.1.1
    obtain ⟨N, hN⟩ : ∃ N : Int, N = (ps'.length : Int) := ⟨_, rfl⟩
    have hN24 : 0 ≤ N ∧ N ≤ 24 := by omega
    rw [← hN] at ec ⊢
    simp (disch := omega) only [f_L_enter, f_X11_enter, ↓dhi_X, ↓dhG_X_0, ↓dhG_X_1, ↓dhG_X_2, ↓dhg_X_3, ↓dhq_X_3, ↓dhG_X_4, ↓dhG_X_5, ↓dhG_X_6, ↓dhg_X_7, ↓dhq_X_7, ↓dhG_X_8, ↓dhG_X_9, ↓dhG_X_10, ↓dhG_X_11, ↓dhG_X_12, ↓dhG_X_13, ↓dhG_X_14, ↓dhG_X_15, ↓dhG_X_16, ↓dhi_T h1T, ↓dhG_T_0 h1T, ↓dhg_T_1 h1T, ↓dhq_T_1 h1T, ↓dha_T_1 h1T, ↓dhs_T_1 h1T, ↓dhl_T_1 h1T, ↓dhi_G hgm, ↓dhG_G_0 hgm, ↓dhG_G_1 hgm, ↓dhG_G_2 hgm, ↓dhg_G_3 hgm, ↓dhq_G_3 hgm, ↓dhG_G_4 hgm, ↓dhG_G_5 hgm, ↓dhg_G_6 hgm, ↓dhq_G_6 hgm, ↓dhg_G_7 hgm, ↓dhq_G_7 hgm, ↓dhG_G_8 hgm, ↓dhG_G_9 hgm, ↓dha_G_1 hgm, ↓dhs_G_1 hgm, ↓dhl_G_1 hgm, ↓dha_G_2 hgm, ↓dhs_G_2 hgm, ↓dhl_G_2 hgm, ↓dha_G_3 hgm, ↓dhs_G_3 hgm, ↓dhl_G_3 hgm, ↓dha_G_4 hgm, ↓dhl_G_4 hgm, ↓dha_G_5 hgm, ↓dhs_G_5 hgm, ↓dhl_G_5 hgm, Option.bind_some, ↓nm_eq, ↓sm_inl, ↓sm_inr, ↓dzo_0, ↓dzo_1, ↓drg_ok, ↓if_pos, ↓if_neg, if_pos, if_neg, if_true, if_false, Int.toNat_natCast, rg_ok, ↓bnd eF, ↓bnd ea, ↓bnd ef, ↓bnd ec]
  · right
    refine ⟨hrd, J1, ?_, h.same hc (fun a _ h2 => hf.1 a h2) hf.2 rfl, hf.1 161 (n161 161 (Nat.le_refl _))⟩
    simp (disch := omega) only [f_L_enter, f_X11_enter, ↓dhi_X, ↓dhG_X_0, ↓dhG_X_1, ↓dhG_X_2, ↓dhg_X_3, ↓dhq_X_3, ↓dhG_X_4, ↓dhG_X_5, ↓dhG_X_6, ↓dhg_X_7, ↓dhq_X_7, ↓dhG_X_8, ↓dhG_X_9, ↓dhG_X_10, ↓dhG_X_11, ↓dhG_X_12, ↓dhG_X_13, ↓dhG_X_14, ↓dhG_X_15, ↓dhG_X_16, ↓dhi_T h1T, ↓dhG_T_0 h1T, ↓dhg_T_1 h1T, ↓dhq_T_1 h1T, ↓dha_T_1 h1T, ↓dhs_T_1 h1T, ↓dhl_T_1 h1T, ↓dhi_G hgm, ↓dhG_G_0 hgm, ↓dhG_G_1 hgm, ↓dhG_G_2 hgm, ↓dhg_G_3 hgm, ↓dhq_G_3 hgm, ↓dhG_G_4 hgm, ↓dhG_G_5 hgm, ↓dhg_G_6 hgm, ↓dhq_G_6 hgm, ↓dhg_G_7 hgm, ↓dhq_G_7 hgm, ↓dhG_G_8 hgm, ↓dhG_G_9 hgm, ↓dha_G_1 hgm, ↓dhs_G_1 hgm, ↓dhl_G_1 hgm, ↓dha_G_2 hgm, ↓dhs_G_2 hgm, ↓dhl_G_2 hgm, ↓dha_G_3 hgm, ↓dhs_G_3 hgm, ↓dhl_G_3 hgm, ↓dha_G_4 hgm, ↓dhl_G_4 hgm, ↓dha_G_5 hgm, ↓dhs_G_5 hgm, ↓dhl_G_5 hgm, Option.bind_some, ↓nm_eq, ↓sm_inl, ↓sm_inr, ↓dzo_0, ↓dzo_1, ↓drg_ok, ↓if_pos, ↓if_neg, if_pos, if_neg, if_true, if_false, Int.toNat_natCast, rg_ok, ↓bnd eF, ↓bnd ea, xI4, xI3, if_true, if_false]
theorem k_bring (hn : 1000000000000000000000000000000 ≤ n) (h : JV u ps rs ps1 rs1 t lv sd w nw tp tq J L) {s : Nat} (hs : s < 8) :
    (∃ (q : List (Nat × List Nat) × List (Nat × List Int)) (J1 : Nat → Nat → Int), ps.length + rs1.length ≤ q.1.length ∧ f_L_bring n 0 (s : Int) (hp u J L) = some ((rs1.length : Int), hp u J1 L) ∧ JV u q.1 q.2 ps1 rs1 t lv sd w nw tp tq J1 L ∧ J1 161 = J 161) ∨
    (∃ J1, f_L_bring n 0 (s : Int) (hp u J L) = some (-103, hp u J1 L) ∧ JV u ps rs ps1 rs1 t lv sd w nw tp tq J1 L ∧ J1 161 = J 161) := by
  have hgm := gU_mem u
  have hgo : gO u ∈ [3, 87] := by rcases gUO u with ⟨-, q⟩ | ⟨-, q⟩ <;> rw [q] <;> decide
  have hne : gO u ≠ gU u := by rcases gUO u with ⟨q1, q2⟩ | ⟨q1, q2⟩ <;> omega
  have h24 := h.r24
  have n161 : ∀ a, 161 ≤ a → a < gU u ∨ gU u + 58 ≤ a := fun a ha => by rcases gUO u with ⟨q1, q2⟩ | ⟨q1, q2⟩ <;> omega
  rcases X4_admitAll (u := u) (L := L) hn hgm hgo hne h.2.1.1 h.1.1.2.1 h.2.1.2.1 h.1.1.2.2.1 (sh := (s : Int)) (by omega) with ⟨q, J1, hb, ea, hf, hc, hA⟩ | ⟨hb, J1, ea, hf, hc⟩
  · left
    obtain ⟨h0, hlen⟩ := brl_n _ _ _ hb h.1.2.1
    obtain ⟨hj1, hj2⟩ := h.gram hA h0 hf hc
    refine ⟨q, fgt J1, hlen, ?_, hj1, hj2⟩
    have ef := X11_forget (u := u) (I := J1) (L := L)
    have e6 : fgt J1 (gO u) 6 = (rs1.length : Int) := by
      rw [fgt_a (by rcases gUO u with ⟨q1, q2⟩ | ⟨q1, q2⟩ <;> omega), hf.1 (gO u) (by rcases gUO u with ⟨q1, q2⟩ | ⟨q1, q2⟩ <;> omega)]
      exact h.2.1.2.1.2.1
    have er := X4_rules (u := u) (I := fgt J1) (L := L) hgo
    rw [e6] at er
    simp (disch := omega) only [f_L_bring, f_X11_bring, b_X11_bring_10, ↓dhi_X, ↓dhG_X_0, ↓dhG_X_1, ↓dhG_X_2, ↓dhg_X_3, ↓dhq_X_3, ↓dhG_X_4, ↓dhG_X_5, ↓dhG_X_6, ↓dhg_X_7, ↓dhq_X_7, ↓dhG_X_8, ↓dhG_X_9, ↓dhG_X_10, ↓dhG_X_11, ↓dhG_X_12, ↓dhG_X_13, ↓dhG_X_14, ↓dhG_X_15, ↓dhG_X_16, ↓dhi_G hgm, ↓dhG_G_0 hgm, ↓dhG_G_1 hgm, ↓dhG_G_2 hgm, ↓dhg_G_3 hgm, ↓dhq_G_3 hgm, ↓dhG_G_4 hgm, ↓dhG_G_5 hgm, ↓dhg_G_6 hgm, ↓dhq_G_6 hgm, ↓dhg_G_7 hgm, ↓dhq_G_7 hgm, ↓dhG_G_8 hgm, ↓dhG_G_9 hgm, ↓dha_G_1 hgm, ↓dhs_G_1 hgm, ↓dhl_G_1 hgm, ↓dha_G_2 hgm, ↓dhs_G_2 hgm, ↓dhl_G_2 hgm, ↓dha_G_3 hgm, ↓dhs_G_3 hgm, ↓dhl_G_3 hgm, ↓dha_G_4 hgm, ↓dhl_G_4 hgm, ↓dha_G_5 hgm, ↓dhs_G_5 hgm, ↓dhl_G_5 hgm, Option.bind_some, ↓nm_eq, ↓sm_inl, ↓sm_inr, ↓dzo_0, ↓dzo_1, ↓drg_ok, ↓if_pos, ↓if_neg, if_pos, if_neg, if_true, if_false, Int.toNat_natCast, rg_ok, ↓bnd ea, ↓bnd ef, ↓bnd er, ↓dhi_G hgo] <;> rfl
  · right
    refine ⟨J1, ?_, h.same hc (fun a _ h2 => hf.1 a h2) hf.2 rfl, hf.1 161 (n161 161 (Nat.le_refl _))⟩
    simp (disch := omega) only [f_L_bring, f_X11_bring, b_X11_bring_10, ↓dhi_X, ↓dhG_X_0, ↓dhG_X_1, ↓dhG_X_2, ↓dhg_X_3, ↓dhq_X_3, ↓dhG_X_4, ↓dhG_X_5, ↓dhG_X_6, ↓dhg_X_7, ↓dhq_X_7, ↓dhG_X_8, ↓dhG_X_9, ↓dhG_X_10, ↓dhG_X_11, ↓dhG_X_12, ↓dhG_X_13, ↓dhG_X_14, ↓dhG_X_15, ↓dhG_X_16, ↓dhi_G hgm, ↓dhG_G_0 hgm, ↓dhG_G_1 hgm, ↓dhG_G_2 hgm, ↓dhg_G_3 hgm, ↓dhq_G_3 hgm, ↓dhG_G_4 hgm, ↓dhG_G_5 hgm, ↓dhg_G_6 hgm, ↓dhq_G_6 hgm, ↓dhg_G_7 hgm, ↓dhq_G_7 hgm, ↓dhG_G_8 hgm, ↓dhG_G_9 hgm, ↓dha_G_1 hgm, ↓dhs_G_1 hgm, ↓dhl_G_1 hgm, ↓dha_G_2 hgm, ↓dhs_G_2 hgm, ↓dhl_G_2 hgm, ↓dha_G_3 hgm, ↓dhs_G_3 hgm, ↓dhl_G_3 hgm, ↓dha_G_4 hgm, ↓dhl_G_4 hgm, ↓dha_G_5 hgm, ↓dhs_G_5 hgm, ↓dhl_G_5 hgm, Option.bind_some, ↓nm_eq, ↓sm_inl, ↓sm_inr, ↓dzo_0, ↓dzo_1, ↓drg_ok, ↓if_pos, ↓if_neg, if_pos, if_neg, if_true, if_false, Int.toNat_natCast, rg_ok, ↓bnd ea, xI4, xI3, if_true, if_false]
end KD
