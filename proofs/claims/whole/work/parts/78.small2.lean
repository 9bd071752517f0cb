/-! ===== calls: reading rules, text, levels ===== -/
def OPR (fL : gi_H → Option Int) (fM : gi_H → Option (Int × gi_H)) : Prop := ∀ u J L, IX u J L → ∃ (A : Int) (u1 : Nat) (J2 L2 : Nat → Nat → Int), fL (hp u J L) = some A ∧ fM (hp u J L) = some (A, hp u1 J2 L2) ∧ gi_ok A ∧ IX u1 J2 L2
theorem rg_of {g : GT} {J : Nat → Nat → Int} (h : RE g J) : J 161 9 = ((rw9 J : Nat) : Int) ∧ rw9 J < 2 ∧ J 165 (rw9 J) = (Gn g : Int) ∧ (∀ p, p < Gn g → J 162 (24 * rw9 J + p) = (Go g p : Int)) := by
  obtain ⟨hw, rfl⟩ := h
  exact ⟨(rw9_of hw).1, (rw9_of hw).2, (rG_n hw).symm, fun p hp1 => (rG_o hw hp1).symm⟩
theorem RE.g44 {g : GT} {J : Nat → Nat → Int} (h : RE g J) {x : Int} : RE g (gx_u J 161 44 x) := h.fr (l := [161]) (Fr.rf.wr (by simp)) (gu_at_ne (by decide)) (by decide)
theorem g44_ne {J : Nat → Nat → Int} {x : Int} {a k : Nat} (h : a ≠ 161) : gx_u J 161 44 x a k = J a k := by rw [gu_ne h]
theorem rw9_44 {J : Nat → Nat → Int} {x : Int} : rw9 (gx_u J 161 44 x) = rw9 J := by unfold rw9; rw [gu_at_ne (by decide)]
theorem op_productions {n : Nat} : OPR (fun h => f_X11_productions 0 h) (fun h => f_X12_productions 161 h) := by
  intro u J L hI
  obtain ⟨ps, rs, ps1, rs1, t, lv, sd, w, nw, tp, tq, h⟩ := hI
  obtain ⟨hg3, hgm, hw, hcg, hE⟩ := h.gm
  have hg := h.gr
  have h24 := hg.1
  have e1 := X4_count (u := u) (L := L) hgm hw
  rw [hcg] at e1
  have h2 := h.r ((RQO.rf h.2.2.2.2).thr (x := 0))
  obtain ⟨q1, q2, q3, -⟩ := rg_of (hE.g44 (x := 0))
  refine ⟨(Gn (gtp ps tp) : Int), u, gx_u J 161 44 0, L, ?_, ?_, ⟨by omega, by omega⟩, ps, rs, ps1, rs1, t, lv, sd, w, nw, tp, tq, h2⟩
  · simp (disch := omega) only [f_X11_productions, ↓dhi_X, ↓dhG_X_0, ↓dhG_X_1, ↓dhG_X_2, ↓dhg_X_3, ↓dhq_X_3, ↓dhG_X_4, ↓dhG_X_5, ↓dhG_X_6, ↓dhg_X_7, ↓dhq_X_7, ↓dhG_X_8, ↓dhG_X_9, ↓dhG_X_10, ↓dhG_X_11, ↓dhG_X_12, ↓dhG_X_13, ↓dhG_X_14, ↓dhG_X_15, ↓dhG_X_16, ↓dhi_G hgm, ↓dhG_G_0 hgm, ↓dhG_G_1 hgm, ↓dhG_G_2 hgm, ↓dhg_G_3 hgm, ↓dhq_G_3 hgm, ↓dhG_G_4 hgm, ↓dhG_G_5 hgm, ↓dhg_G_6 hgm, ↓dhq_G_6 hgm, ↓dhg_G_7 hgm, ↓dhq_G_7 hgm, ↓dhG_G_8 hgm, ↓dhG_G_9 hgm, ↓dha_G_1 hgm, ↓dhs_G_1 hgm, ↓dhl_G_1 hgm, ↓dha_G_2 hgm, ↓dhs_G_2 hgm, ↓dhl_G_2 hgm, ↓dha_G_3 hgm, ↓dhs_G_3 hgm, ↓dhl_G_3 hgm, ↓dha_G_4 hgm, ↓dhl_G_4 hgm, ↓dha_G_5 hgm, ↓dhs_G_5 hgm, ↓dhl_G_5 hgm, Option.bind_some, ↓nm_eq, ↓sm_inl, ↓sm_inr, ↓dzo_0, ↓dzo_1, ↓drg_ok, ↓if_pos, ↓if_neg, if_pos, if_neg, if_true, if_false, Int.toNat_natCast, rg_ok, ↓bnd e1]
  · simp (disch := omega) only [f_X12_productions, ↓dhi_M, ↓dhG_M_0, ↓dhG_M_1, ↓dhG_M_2, ↓dhG_M_3, ↓dhG_M_4, ↓dhG_M_5, ↓dhG_M_6, ↓dhG_M_7, ↓dhG_M_8, ↓dhg_M_9, ↓dhq_M_9, ↓dhG_M_10, ↓dhG_M_11, ↓dhG_M_12, ↓dhg_M_13, ↓dhq_M_13, ↓dhG_M_14, ↓dhg_M_15, ↓dhq_M_15, ↓dhG_M_16, ↓dhg_M_17, ↓dhq_M_17, ↓dhg_M_18, ↓dhq_M_18, ↓dhG_M_19, ↓dhG_M_20, ↓dhG_M_21, ↓dhG_M_22, ↓dhG_M_23, ↓dhG_M_24, ↓dhg_M_25, ↓dhq_M_25, ↓dhG_M_26, ↓dhG_M_27, ↓dhG_M_28, ↓dhg_M_29, ↓dhq_M_29, ↓dhG_M_30, ↓dhG_M_31, ↓dhg_M_32, ↓dhq_M_32, ↓dhg_M_33, ↓dhq_M_33, ↓dhg_M_34, ↓dhq_M_34, ↓dhg_M_35, ↓dhq_M_35, ↓dhG_M_36, ↓dhG_M_37, ↓dhg_M_38, ↓dhq_M_38, ↓dhg_M_39, ↓dhq_M_39, ↓dhG_M_40, ↓dhG_M_41, ↓dhG_M_42, ↓dhG_M_43, ↓dhg_M_44, ↓dhq_M_44, ↓dha_165, ↓dhs_165, ↓dhl_165, Option.bind_some, ↓nm_eq, ↓sm_inl, ↓sm_inr, ↓dzo_0, ↓dzo_1, ↓drg_ok, ↓if_pos, ↓if_neg, if_pos, if_neg, if_true, if_false, Int.toNat_natCast, rg_ok, q1, q3]
theorem op_left {n : Nat} {x : Int} (hx : gi_ok x) : OPK (fun h => f_L_left 0 x 193 h) (fun h => f_X12_left 161 x h) := by
  intro u J L hI
  have hI0 := hI
  obtain ⟨ps, rs, ps1, rs1, t, lv, sd, w, nw, tp, tq, h⟩ := hI
  obtain ⟨hx1, hx2⟩ := id hx
  obtain ⟨hg3, hgm, hw, hcg, hE⟩ := h.gm
  have hg := h.gr
  have h24 := hg.1
  have e1 := X4_count (u := u) (L := L) hgm hw
  rw [hcg] at e1
  obtain ⟨q1, q2, q3, q4⟩ := rg_of hE
  by_cases c : x < 0 ∨ (Gn (gtp ps tp) : Int) ≤ x
  · refine k_out hI0 ?_ ?_
    · by_cases c1 : x < 0
      · simp (disch := omega) only [f_L_left, f_X11_left, b_X11_left_15, ↓dhi_X, ↓dhG_X_0, ↓dhG_X_1, ↓dhG_X_2, ↓dhg_X_3, ↓dhq_X_3, ↓dhG_X_4, ↓dhG_X_5, ↓dhG_X_6, ↓dhg_X_7, ↓dhq_X_7, ↓dhG_X_8, ↓dhG_X_9, ↓dhG_X_10, ↓dhG_X_11, ↓dhG_X_12, ↓dhG_X_13, ↓dhG_X_14, ↓dhG_X_15, ↓dhG_X_16, ↓dhi_G hgm, ↓dhG_G_0 hgm, ↓dhG_G_1 hgm, ↓dhG_G_2 hgm, ↓dhg_G_3 hgm, ↓dhq_G_3 hgm, ↓dhG_G_4 hgm, ↓dhG_G_5 hgm, ↓dhg_G_6 hgm, ↓dhq_G_6 hgm, ↓dhg_G_7 hgm, ↓dhq_G_7 hgm, ↓dhG_G_8 hgm, ↓dhG_G_9 hgm, ↓dha_G_1 hgm, ↓dhs_G_1 hgm, ↓dhl_G_1 hgm, ↓dha_G_2 hgm, ↓dhs_G_2 hgm, ↓dhl_G_2 hgm, ↓dha_G_3 hgm, ↓dhs_G_3 hgm, ↓dhl_G_3 hgm, ↓dha_G_4 hgm, ↓dhl_G_4 hgm, ↓dha_G_5 hgm, ↓dhs_G_5 hgm, ↓dhl_G_5 hgm, Option.bind_some, ↓nm_eq, ↓sm_inl, ↓sm_inr, ↓dzo_0, ↓dzo_1, ↓drg_ok, ↓if_pos, ↓if_neg, if_pos, if_neg, if_true, if_false, Int.toNat_natCast, rg_ok, ↓bnd e1, xI1, if_true]
      · simp (disch := omega) only [f_L_left, f_X11_left, b_X11_left_15, ↓dhi_X, ↓dhG_X_0, ↓dhG_X_1, ↓dhG_X_2, ↓dhg_X_3, ↓dhq_X_3, ↓dhG_X_4, ↓dhG_X_5, ↓dhG_X_6, ↓dhg_X_7, ↓dhq_X_7, ↓dhG_X_8, ↓dhG_X_9, ↓dhG_X_10, ↓dhG_X_11, ↓dhG_X_12, ↓dhG_X_13, ↓dhG_X_14, ↓dhG_X_15, ↓dhG_X_16, ↓dhi_G hgm, ↓dhG_G_0 hgm, ↓dhG_G_1 hgm, ↓dhG_G_2 hgm, ↓dhg_G_3 hgm, ↓dhq_G_3 hgm, ↓dhG_G_4 hgm, ↓dhG_G_5 hgm, ↓dhg_G_6 hgm, ↓dhq_G_6 hgm, ↓dhg_G_7 hgm, ↓dhq_G_7 hgm, ↓dhG_G_8 hgm, ↓dhG_G_9 hgm, ↓dha_G_1 hgm, ↓dhs_G_1 hgm, ↓dhl_G_1 hgm, ↓dha_G_2 hgm, ↓dhs_G_2 hgm, ↓dhl_G_2 hgm, ↓dha_G_3 hgm, ↓dhs_G_3 hgm, ↓dhl_G_3 hgm, ↓dha_G_4 hgm, ↓dhl_G_4 hgm, ↓dha_G_5 hgm, ↓dhs_G_5 hgm, ↓dhl_G_5 hgm, Option.bind_some, ↓nm_eq, ↓sm_inl, ↓sm_inr, ↓dzo_0, ↓dzo_1, ↓drg_ok, ↓if_pos, ↓if_neg, if_pos, if_neg, if_true, if_false, Int.toNat_natCast, rg_ok, ↓bnd e1, xI1, if_true]
    · simp (disch := omega) only [f_X12_left, ↓dhi_M, ↓dhG_M_0, ↓dhG_M_1, ↓dhG_M_2, ↓dhG_M_3, ↓dhG_M_4, ↓dhG_M_5, ↓dhG_M_6, ↓dhG_M_7, ↓dhG_M_8, ↓dhg_M_9, ↓dhq_M_9, ↓dhG_M_10, ↓dhG_M_11, ↓dhG_M_12, ↓dhg_M_13, ↓dhq_M_13, ↓dhG_M_14, ↓dhg_M_15, ↓dhq_M_15, ↓dhG_M_16, ↓dhg_M_17, ↓dhq_M_17, ↓dhg_M_18, ↓dhq_M_18, ↓dhG_M_19, ↓dhG_M_20, ↓dhG_M_21, ↓dhG_M_22, ↓dhG_M_23, ↓dhG_M_24, ↓dhg_M_25, ↓dhq_M_25, ↓dhG_M_26, ↓dhG_M_27, ↓dhG_M_28, ↓dhg_M_29, ↓dhq_M_29, ↓dhG_M_30, ↓dhG_M_31, ↓dhg_M_32, ↓dhq_M_32, ↓dhg_M_33, ↓dhq_M_33, ↓dhg_M_34, ↓dhq_M_34, ↓dhg_M_35, ↓dhq_M_35, ↓dhG_M_36, ↓dhG_M_37, ↓dhg_M_38, ↓dhq_M_38, ↓dhg_M_39, ↓dhq_M_39, ↓dhG_M_40, ↓dhG_M_41, ↓dhG_M_42, ↓dhG_M_43, ↓dhg_M_44, ↓dhq_M_44, ↓dha_165, ↓dhs_165, ↓dhl_165, Option.bind_some, ↓nm_eq, ↓sm_inl, ↓sm_inr, ↓dzo_0, ↓dzo_1, ↓drg_ok, ↓if_pos, ↓if_neg, if_pos, if_neg, if_true, if_false, Int.toNat_natCast, rg_ok, q1, q3, ↓bnd (isB_0 (m := (Gn (gtp ps tp) : Int)) c hx (by omega) _), ↓bnd (goes_1 1 1)]
  · obtain ⟨p, rfl⟩ : ∃ a : Nat, x = (a : Int) := ⟨x.toNat, by omega⟩
    have hp1 : p < Gn (gtp ps tp) := by omega
    have e2 := X4_owner (u := u) (L := L) (p := p) hgm hw (by rw [hcg]; exact hp1)
    rw [hcg] at e2
    have ho := hg.2.2.1 p
    have h1 := h.upd (J' := J) (L' := gx_u L 193 0 (Go (gtp ps tp) p : Int)) (fun _ _ => rfl) rfl (fun _ _ _ _ => rfl) (fun a ha => gu_ne ha) h.2.1.2.2.2.2.1 h.clv h.cse h.2.1.2.2.2.2.2.2.2.1 h.2.2.1.2.2.2.2.2.1 h.rlv h.wse h.sw
    refine ⟨0, u, J, gx_u L 193 0 (Go (gtp ps tp) p : Int), (Go (gtp ps tp) p : Int), gx_u J 161 44 0, gx_u L 193 0 (Go (gtp ps tp) p : Int), ?_, ?_, gu_same _ _ _ _, Or.inl rfl, ⟨by omega, by omega⟩, fun _ => gu_same _ _ _ _, ps, rs, ps1, rs1, t, lv, sd, w, nw, tp, tq, h1.r ((RQO.rf h1.2.2.2.2).thr (x := 0))⟩
    · simp (disch := omega) only [f_L_left, f_X11_left, b_X11_left_15, ↓dhi_X, ↓dhG_X_0, ↓dhG_X_1, ↓dhG_X_2, ↓dhg_X_3, ↓dhq_X_3, ↓dhG_X_4, ↓dhG_X_5, ↓dhG_X_6, ↓dhg_X_7, ↓dhq_X_7, ↓dhG_X_8, ↓dhG_X_9, ↓dhG_X_10, ↓dhG_X_11, ↓dhG_X_12, ↓dhG_X_13, ↓dhG_X_14, ↓dhG_X_15, ↓dhG_X_16, ↓dhi_G hgm, ↓dhG_G_0 hgm, ↓dhG_G_1 hgm, ↓dhG_G_2 hgm, ↓dhg_G_3 hgm, ↓dhq_G_3 hgm, ↓dhG_G_4 hgm, ↓dhG_G_5 hgm, ↓dhg_G_6 hgm, ↓dhq_G_6 hgm, ↓dhg_G_7 hgm, ↓dhq_G_7 hgm, ↓dhG_G_8 hgm, ↓dhG_G_9 hgm, ↓dha_G_1 hgm, ↓dhs_G_1 hgm, ↓dhl_G_1 hgm, ↓dha_G_2 hgm, ↓dhs_G_2 hgm, ↓dhl_G_2 hgm, ↓dha_G_3 hgm, ↓dhs_G_3 hgm, ↓dhl_G_3 hgm, ↓dha_G_4 hgm, ↓dhl_G_4 hgm, ↓dha_G_5 hgm, ↓dhs_G_5 hgm, ↓dhl_G_5 hgm, ↓dha_193, ↓dhs_193, ↓dhl_193, Option.bind_some, ↓nm_eq, ↓sm_inl, ↓sm_inr, ↓dzo_0, ↓dzo_1, ↓drg_ok, ↓if_pos, ↓if_neg, if_pos, if_neg, if_true, if_false, Int.toNat_natCast, rg_ok, ↓bnd e1, ↓bnd e2] <;> rfl
    · have e9 : gx_u J 161 44 0 161 9 = ((rw9 J : Nat) : Int) := by rw [gu_at_ne (by decide)]; exact q1
      have ei : (24 * ((rw9 J : Nat) : Int) + (p : Int)).toNat = 24 * rw9 J + p := by omega
      have ev : gx_u J 161 44 0 162 (24 * rw9 J + p) = (Go (gtp ps tp) p : Int) := by rw [g44_ne (by decide)]; exact q4 p hp1
      simp (disch := omega) only [f_X12_left, ↓dhi_M, ↓dhG_M_0, ↓dhG_M_1, ↓dhG_M_2, ↓dhG_M_3, ↓dhG_M_4, ↓dhG_M_5, ↓dhG_M_6, ↓dhG_M_7, ↓dhG_M_8, ↓dhg_M_9, ↓dhq_M_9, ↓dhG_M_10, ↓dhG_M_11, ↓dhG_M_12, ↓dhg_M_13, ↓dhq_M_13, ↓dhG_M_14, ↓dhg_M_15, ↓dhq_M_15, ↓dhG_M_16, ↓dhg_M_17, ↓dhq_M_17, ↓dhg_M_18, ↓dhq_M_18, ↓dhG_M_19, ↓dhG_M_20, ↓dhG_M_21, ↓dhG_M_22, ↓dhG_M_23, ↓dhG_M_24, ↓dhg_M_25, ↓dhq_M_25, ↓dhG_M_26, ↓dhG_M_27, ↓dhG_M_28, ↓dhg_M_29, ↓dhq_M_29, ↓dhG_M_30, ↓dhG_M_31, ↓dhg_M_32, ↓dhq_M_32, ↓dhg_M_33, ↓dhq_M_33, ↓dhg_M_34, ↓dhq_M_34, ↓dhg_M_35, ↓dhq_M_35, ↓dhG_M_36, ↓dhG_M_37, ↓dhg_M_38, ↓dhq_M_38, ↓dhg_M_39, ↓dhq_M_39, ↓dhG_M_40, ↓dhG_M_41, ↓dhG_M_42, ↓dhG_M_43, ↓dhg_M_44, ↓dhq_M_44, ↓dha_162, ↓dhs_162, ↓dhl_162, ↓dha_165, ↓dhs_165, ↓dhl_165, Option.bind_some, ↓nm_eq, ↓sm_inl, ↓sm_inr, ↓dzo_0, ↓dzo_1, ↓drg_ok, ↓if_pos, ↓if_neg, if_pos, if_neg, if_true, if_false, Int.toNat_natCast, rg_ok, q1, q3, ↓bnd (isB_1 (x := (p : Int)) (m := (Gn (gtp ps tp) : Int)) (by omega) (by omega) _), ↓bnd goes_0, e9, ei, ev]
theorem X12_symN {u : Nat} {g : GT} {J L : Nat → Nat → Int} (h : RE g J) {p k : Nat} (hq : p < Gn g) (hk : Gl g p ≤ k) (hk5 : k < 1000) : f_X12_symbol 161 (p : Int) (k : Int) (hp u J L) = some (-1) := by
  obtain ⟨hw, rfl⟩ := h
  have hz := X12_sizeOf (u := u) (L := L) hw hq
  simp (disch := omega) only [f_X12_symbol, ↓dhi_M, ↓dhG_M_0, ↓dhG_M_1, ↓dhG_M_2, ↓dhG_M_3, ↓dhG_M_4, ↓dhG_M_5, ↓dhG_M_6, ↓dhG_M_7, ↓dhG_M_8, ↓dhg_M_9, ↓dhq_M_9, ↓dhG_M_10, ↓dhG_M_11, ↓dhG_M_12, ↓dhg_M_13, ↓dhq_M_13, ↓dhG_M_14, ↓dhg_M_15, ↓dhq_M_15, ↓dhG_M_16, ↓dhg_M_17, ↓dhq_M_17, ↓dhg_M_18, ↓dhq_M_18, ↓dhG_M_19, ↓dhG_M_20, ↓dhG_M_21, ↓dhG_M_22, ↓dhG_M_23, ↓dhG_M_24, ↓dhg_M_25, ↓dhq_M_25, ↓dhG_M_26, ↓dhG_M_27, ↓dhG_M_28, ↓dhg_M_29, ↓dhq_M_29, ↓dhG_M_30, ↓dhG_M_31, ↓dhg_M_32, ↓dhq_M_32, ↓dhg_M_33, ↓dhq_M_33, ↓dhg_M_34, ↓dhq_M_34, ↓dhg_M_35, ↓dhq_M_35, ↓dhG_M_36, ↓dhG_M_37, ↓dhg_M_38, ↓dhq_M_38, ↓dhg_M_39, ↓dhq_M_39, ↓dhG_M_40, ↓dhG_M_41, ↓dhG_M_42, ↓dhG_M_43, ↓dhg_M_44, ↓dhq_M_44, Option.bind_some, ↓nm_eq, ↓sm_inl, ↓sm_inr, ↓dzo_0, ↓dzo_1, ↓drg_ok, ↓if_pos, ↓if_neg, if_pos, if_neg, if_true, if_false, Int.toNat_natCast, rg_ok, ↓bnd hz]
theorem op_right {n : Nat} {x y : Int} (hx : gi_ok x) (hy : gi_ok y) : OPK (fun h => f_L_right 0 x y 193 h) (fun h => f_X12_right 161 x y h) := by
  intro u J L hI
  have hI0 := hI
  obtain ⟨ps, rs, ps1, rs1, t, lv, sd, w, nw, tp, tq, h⟩ := hI
  obtain ⟨hx1, hx2⟩ := id hx
  obtain ⟨hy1, hy2⟩ := id hy
  obtain ⟨hg3, hgm, hw, hcg, hE⟩ := h.gm
  have hg := h.gr
  have h24 := hg.1
  have e1 := X4_count (u := u) (L := L) hgm hw
  rw [hcg] at e1
  obtain ⟨q1, q2, q3, q4⟩ := rg_of hE
  by_cases c : x < 0 ∨ (Gn (gtp ps tp) : Int) ≤ x
  · refine k_out hI0 ?_ ?_
    · by_cases c1 : x < 0
      · simp (disch := omega) only [f_L_right, f_X11_right, b_X11_right_24, ↓dhi_X, ↓dhG_X_0, ↓dhG_X_1, ↓dhG_X_2, ↓dhg_X_3, ↓dhq_X_3, ↓dhG_X_4, ↓dhG_X_5, ↓dhG_X_6, ↓dhg_X_7, ↓dhq_X_7, ↓dhG_X_8, ↓dhG_X_9, ↓dhG_X_10, ↓dhG_X_11, ↓dhG_X_12, ↓dhG_X_13, ↓dhG_X_14, ↓dhG_X_15, ↓dhG_X_16, ↓dhi_G hgm, ↓dhG_G_0 hgm, ↓dhG_G_1 hgm, ↓dhG_G_2 hgm, ↓dhg_G_3 hgm, ↓dhq_G_3 hgm, ↓dhG_G_4 hgm, ↓dhG_G_5 hgm, ↓dhg_G_6 hgm, ↓dhq_G_6 hgm, ↓dhg_G_7 hgm, ↓dhq_G_7 hgm, ↓dhG_G_8 hgm, ↓dhG_G_9 hgm, ↓dha_G_1 hgm, ↓dhs_G_1 hgm, ↓dhl_G_1 hgm, ↓dha_G_2 hgm, ↓dhs_G_2 hgm, ↓dhl_G_2 hgm, ↓dha_G_3 hgm, ↓dhs_G_3 hgm, ↓dhl_G_3 hgm, ↓dha_G_4 hgm, ↓dhl_G_4 hgm, ↓dha_G_5 hgm, ↓dhs_G_5 hgm, ↓dhl_G_5 hgm, Option.bind_some, ↓nm_eq, ↓sm_inl, ↓sm_inr, ↓dzo_0, ↓dzo_1, ↓drg_ok, ↓if_pos, ↓if_neg, if_pos, if_neg, if_true, if_false, Int.toNat_natCast, rg_ok, ↓bnd e1, xI1, if_true]
      · simp (disch := omega) only [f_L_right, f_X11_right, b_X11_right_24, ↓dhi_X, ↓dhG_X_0, ↓dhG_X_1, ↓dhG_X_2, ↓dhg_X_3, ↓dhq_X_3, ↓dhG_X_4, ↓dhG_X_5, ↓dhG_X_6, ↓dhg_X_7, ↓dhq_X_7, ↓dhG_X_8, ↓dhG_X_9, ↓dhG_X_10, ↓dhG_X_11, ↓dhG_X_12, ↓dhG_X_13, ↓dhG_X_14, ↓dhG_X_15, ↓dhG_X_16, ↓dhi_G hgm, ↓dhG_G_0 hgm, ↓dhG_G_1 hgm, ↓dhG_G_2 hgm, ↓dhg_G_3 hgm, ↓dhq_G_3 hgm, ↓dhG_G_4 hgm, ↓dhG_G_5 hgm, ↓dhg_G_6 hgm, ↓dhq_G_6 hgm, ↓dhg_G_7 hgm, ↓dhq_G_7 hgm, ↓dhG_G_8 hgm, ↓dhG_G_9 hgm, ↓dha_G_1 hgm, ↓dhs_G_1 hgm, ↓dhl_G_1 hgm, ↓dha_G_2 hgm, ↓dhs_G_2 hgm, ↓dhl_G_2 hgm, ↓dha_G_3 hgm, ↓dhs_G_3 hgm, ↓dhl_G_3 hgm, ↓dha_G_4 hgm, ↓dhl_G_4 hgm, ↓dha_G_5 hgm, ↓dhs_G_5 hgm, ↓dhl_G_5 hgm, Option.bind_some, ↓nm_eq, ↓sm_inl, ↓sm_inr, ↓dzo_0, ↓dzo_1, ↓drg_ok, ↓if_pos, ↓if_neg, if_pos, if_neg, if_true, if_false, Int.toNat_natCast, rg_ok, ↓bnd e1, xI1, if_true]
    · simp (disch := omega) only [f_X12_right, b_X12_right_29, b_X12_right_30, ↓dhi_M, ↓dhG_M_0, ↓dhG_M_1, ↓dhG_M_2, ↓dhG_M_3, ↓dhG_M_4, ↓dhG_M_5, ↓dhG_M_6, ↓dhG_M_7, ↓dhG_M_8, ↓dhg_M_9, ↓dhq_M_9, ↓dhG_M_10, ↓dhG_M_11, ↓dhG_M_12, ↓dhg_M_13, ↓dhq_M_13, ↓dhG_M_14, ↓dhg_M_15, ↓dhq_M_15, ↓dhG_M_16, ↓dhg_M_17, ↓dhq_M_17, ↓dhg_M_18, ↓dhq_M_18, ↓dhG_M_19, ↓dhG_M_20, ↓dhG_M_21, ↓dhG_M_22, ↓dhG_M_23, ↓dhG_M_24, ↓dhg_M_25, ↓dhq_M_25, ↓dhG_M_26, ↓dhG_M_27, ↓dhG_M_28, ↓dhg_M_29, ↓dhq_M_29, ↓dhG_M_30, ↓dhG_M_31, ↓dhg_M_32, ↓dhq_M_32, ↓dhg_M_33, ↓dhq_M_33, ↓dhg_M_34, ↓dhq_M_34, ↓dhg_M_35, ↓dhq_M_35, ↓dhG_M_36, ↓dhG_M_37, ↓dhg_M_38, ↓dhq_M_38, ↓dhg_M_39, ↓dhq_M_39, ↓dhG_M_40, ↓dhG_M_41, ↓dhG_M_42, ↓dhG_M_43, ↓dhg_M_44, ↓dhq_M_44, ↓dha_165, ↓dhs_165, ↓dhl_165, Option.bind_some, ↓nm_eq, ↓sm_inl, ↓sm_inr, ↓dzo_0, ↓dzo_1, ↓drg_ok, ↓if_pos, ↓if_neg, if_pos, if_neg, if_true, if_false, Int.toNat_natCast, rg_ok, q1, q3, ↓bnd (isB_0 (m := (Gn (gtp ps tp) : Int)) c hx (by omega) _), ↓bnd (goes_1 1 1)]
  · obtain ⟨p, rfl⟩ : ∃ a : Nat, x = (a : Int) := ⟨x.toNat, by omega⟩
    have hp1 : p < Gn (gtp ps tp) := by omega
    by_cases c2 : y < 0 ∨ 5 ≤ y
    · refine k_out hI0 ?_ ?_
      · by_cases c1 : y < 0
        · simp (disch := omega) only [f_L_right, f_X11_right, b_X11_right_24, ↓dhi_X, ↓dhG_X_0, ↓dhG_X_1, ↓dhG_X_2, ↓dhg_X_3, ↓dhq_X_3, ↓dhG_X_4, ↓dhG_X_5, ↓dhG_X_6, ↓dhg_X_7, ↓dhq_X_7, ↓dhG_X_8, ↓dhG_X_9, ↓dhG_X_10, ↓dhG_X_11, ↓dhG_X_12, ↓dhG_X_13, ↓dhG_X_14, ↓dhG_X_15, ↓dhG_X_16, ↓dhi_G hgm, ↓dhG_G_0 hgm, ↓dhG_G_1 hgm, ↓dhG_G_2 hgm, ↓dhg_G_3 hgm, ↓dhq_G_3 hgm, ↓dhG_G_4 hgm, ↓dhG_G_5 hgm, ↓dhg_G_6 hgm, ↓dhq_G_6 hgm, ↓dhg_G_7 hgm, ↓dhq_G_7 hgm, ↓dhG_G_8 hgm, ↓dhG_G_9 hgm, ↓dha_G_1 hgm, ↓dhs_G_1 hgm, ↓dhl_G_1 hgm, ↓dha_G_2 hgm, ↓dhs_G_2 hgm, ↓dhl_G_2 hgm, ↓dha_G_3 hgm, ↓dhs_G_3 hgm, ↓dhl_G_3 hgm, ↓dha_G_4 hgm, ↓dhl_G_4 hgm, ↓dha_G_5 hgm, ↓dhs_G_5 hgm, ↓dhl_G_5 hgm, Option.bind_some, ↓nm_eq, ↓sm_inl, ↓sm_inr, ↓dzo_0, ↓dzo_1, ↓drg_ok, ↓if_pos, ↓if_neg, if_pos, if_neg, if_true, if_false, Int.toNat_natCast, rg_ok, ↓bnd e1, xI1, if_true]
        · simp (disch := omega) only [f_L_right, f_X11_right, b_X11_right_24, ↓dhi_X, ↓dhG_X_0, ↓dhG_X_1, ↓dhG_X_2, ↓dhg_X_3, ↓dhq_X_3, ↓dhG_X_4, ↓dhG_X_5, ↓dhG_X_6, ↓dhg_X_7, ↓dhq_X_7, ↓dhG_X_8, ↓dhG_X_9, ↓dhG_X_10, ↓dhG_X_11, ↓dhG_X_12, ↓dhG_X_13, ↓dhG_X_14, ↓dhG_X_15, ↓dhG_X_16, ↓dhi_G hgm, ↓dhG_G_0 hgm, ↓dhG_G_1 hgm, ↓dhG_G_2 hgm, ↓dhg_G_3 hgm, ↓dhq_G_3 hgm, ↓dhG_G_4 hgm, ↓dhG_G_5 hgm, ↓dhg_G_6 hgm, ↓dhq_G_6 hgm, ↓dhg_G_7 hgm, ↓dhq_G_7 hgm, ↓dhG_G_8 hgm, ↓dhG_G_9 hgm, ↓dha_G_1 hgm, ↓dhs_G_1 hgm, ↓dhl_G_1 hgm, ↓dha_G_2 hgm, ↓dhs_G_2 hgm, ↓dhl_G_2 hgm, ↓dha_G_3 hgm, ↓dhs_G_3 hgm, ↓dhl_G_3 hgm, ↓dha_G_4 hgm, ↓dhl_G_4 hgm, ↓dha_G_5 hgm, ↓dhs_G_5 hgm, ↓dhl_G_5 hgm, Option.bind_some, ↓nm_eq, ↓sm_inl, ↓sm_inr, ↓dzo_0, ↓dzo_1, ↓drg_ok, ↓if_pos, ↓if_neg, if_pos, if_neg, if_true, if_false, Int.toNat_natCast, rg_ok, ↓bnd e1, xI1, if_true]
      · simp (disch := omega) only [f_X12_right, b_X12_right_29, b_X12_right_30, ↓dhi_M, ↓dhG_M_0, ↓dhG_M_1, ↓dhG_M_2, ↓dhG_M_3, ↓dhG_M_4, ↓dhG_M_5, ↓dhG_M_6, ↓dhG_M_7, ↓dhG_M_8, ↓dhg_M_9, ↓dhq_M_9, ↓dhG_M_10, ↓dhG_M_11, ↓dhG_M_12, ↓dhg_M_13, ↓dhq_M_13, ↓dhG_M_14, ↓dhg_M_15, ↓dhq_M_15, ↓dhG_M_16, ↓dhg_M_17, ↓dhq_M_17, ↓dhg_M_18, ↓dhq_M_18, ↓dhG_M_19, ↓dhG_M_20, ↓dhG_M_21, ↓dhG_M_22, ↓dhG_M_23, ↓dhG_M_24, ↓dhg_M_25, ↓dhq_M_25, ↓dhG_M_26, ↓dhG_M_27, ↓dhG_M_28, ↓dhg_M_29, ↓dhq_M_29, ↓dhG_M_30, ↓dhG_M_31, ↓dhg_M_32, ↓dhq_M_32, ↓dhg_M_33, ↓dhq_M_33, ↓dhg_M_34, ↓dhq_M_34, ↓dhg_M_35, ↓dhq_M_35, ↓dhG_M_36, ↓dhG_M_37, ↓dhg_M_38, ↓dhq_M_38, ↓dhg_M_39, ↓dhq_M_39, ↓dhG_M_40, ↓dhG_M_41, ↓dhG_M_42, ↓dhG_M_43, ↓dhg_M_44, ↓dhq_M_44, ↓dha_165, ↓dhs_165, ↓dhl_165, Option.bind_some, ↓nm_eq, ↓sm_inl, ↓sm_inr, ↓dzo_0, ↓dzo_1, ↓drg_ok, ↓if_pos, ↓if_neg, if_pos, if_neg, if_true, if_false, Int.toNat_natCast, rg_ok, q1, q3, ↓bnd (isB_1 (x := (p : Int)) (m := (Gn (gtp ps tp) : Int)) (by omega) (by omega) _), ↓bnd (isB_0 (m := 5) c2 hy (by omega) _), ↓bnd (goes_1 1 1)]
    · obtain ⟨k, rfl⟩ : ∃ a : Nat, y = (a : Int) := ⟨y.toNat, by omega⟩
      have hk5 : k < 5 := by omega
      have hE2 := hE.g44 (x := 0)
      have h5 := hg.2.2.2.1 p
      obtain ⟨A, e2, e3, hA⟩ : ∃ A : Int, f_X4_symbol (gU u) (p : Int) (k : Int) (hp u J L) = some A ∧ (∀ K, f_X12_symbol 161 (p : Int) (k : Int) (hp u (gx_u J 161 44 0) K) = some A) ∧ -1 ≤ A ∧ A < 32 := by
        by_cases ck : k < Gl (gtp ps tp) p
        · have e2 := X4_symbol (u := u) (L := L) (p := p) (k := k) hgm hw (by rw [hcg]; exact ck)
          rw [hcg] at e2
          have hs := hg.2.2.2.2.2 p k ck
          refine ⟨(Gs (gtp ps tp) p k : Int), e2, fun K => ?_, by omega, by omega⟩
          have e3 := X12_symbol (u := u) (L := K) (p := p) (k := k) hE2.1 (by rw [hE2.2]; exact ck)
          rw [hE2.2] at e3
          exact e3
        · exact ⟨-1, X4_symbolN (u := u) (L := L) (p := p) (k := k) hgm hw (by rw [hcg]; exact ck) (by omega) (by omega), fun K => X12_symN hE2 hp1 (by omega) (by omega), by omega, by omega⟩
      have h1 := h.upd (J' := J) (L' := gx_u L 193 0 A) (fun _ _ => rfl) rfl (fun _ _ _ _ => rfl) (fun a ha => gu_ne ha) h.2.1.2.2.2.2.1 h.clv h.cse h.2.1.2.2.2.2.2.2.2.1 h.2.2.1.2.2.2.2.2.1 h.rlv h.wse h.sw
      refine ⟨0, u, J, gx_u L 193 0 A, A, gx_u J 161 44 0, gx_u L 193 0 A, ?_, ?_, gu_same _ _ _ _, Or.inl rfl, ⟨by omega, by omega⟩, fun _ => gu_same _ _ _ _, ps, rs, ps1, rs1, t, lv, sd, w, nw, tp, tq, h1.r ((RQO.rf h1.2.2.2.2).thr (x := 0))⟩
      · simp (disch := omega) only [f_L_right, f_X11_right, b_X11_right_24, ↓dhi_X, ↓dhG_X_0, ↓dhG_X_1, ↓dhG_X_2, ↓dhg_X_3, ↓dhq_X_3, ↓dhG_X_4, ↓dhG_X_5, ↓dhG_X_6, ↓dhg_X_7, ↓dhq_X_7, ↓dhG_X_8, ↓dhG_X_9, ↓dhG_X_10, ↓dhG_X_11, ↓dhG_X_12, ↓dhG_X_13, ↓dhG_X_14, ↓dhG_X_15, ↓dhG_X_16, ↓dhi_G hgm, ↓dhG_G_0 hgm, ↓dhG_G_1 hgm, ↓dhG_G_2 hgm, ↓dhg_G_3 hgm, ↓dhq_G_3 hgm, ↓dhG_G_4 hgm, ↓dhG_G_5 hgm, ↓dhg_G_6 hgm, ↓dhq_G_6 hgm, ↓dhg_G_7 hgm, ↓dhq_G_7 hgm, ↓dhG_G_8 hgm, ↓dhG_G_9 hgm, ↓dha_G_1 hgm, ↓dhs_G_1 hgm, ↓dhl_G_1 hgm, ↓dha_G_2 hgm, ↓dhs_G_2 hgm, ↓dhl_G_2 hgm, ↓dha_G_3 hgm, ↓dhs_G_3 hgm, ↓dhl_G_3 hgm, ↓dha_G_4 hgm, ↓dhl_G_4 hgm, ↓dha_G_5 hgm, ↓dhs_G_5 hgm, ↓dhl_G_5 hgm, ↓dha_193, ↓dhs_193, ↓dhl_193, Option.bind_some, ↓nm_eq, ↓sm_inl, ↓sm_inr, ↓dzo_0, ↓dzo_1, ↓drg_ok, ↓if_pos, ↓if_neg, if_pos, if_neg, if_true, if_false, Int.toNat_natCast, rg_ok, ↓bnd e1, ↓bnd e2] <;> rfl
      · simp (disch := omega) only [f_X12_right, b_X12_right_29, b_X12_right_30, ↓dhi_M, ↓dhG_M_0, ↓dhG_M_1, ↓dhG_M_2, ↓dhG_M_3, ↓dhG_M_4, ↓dhG_M_5, ↓dhG_M_6, ↓dhG_M_7, ↓dhG_M_8, ↓dhg_M_9, ↓dhq_M_9, ↓dhG_M_10, ↓dhG_M_11, ↓dhG_M_12, ↓dhg_M_13, ↓dhq_M_13, ↓dhG_M_14, ↓dhg_M_15, ↓dhq_M_15, ↓dhG_M_16, ↓dhg_M_17, ↓dhq_M_17, ↓dhg_M_18, ↓dhq_M_18, ↓dhG_M_19, ↓dhG_M_20, ↓dhG_M_21, ↓dhG_M_22, ↓dhG_M_23, ↓dhG_M_24, ↓dhg_M_25, ↓dhq_M_25, ↓dhG_M_26, ↓dhG_M_27, ↓dhG_M_28, ↓dhg_M_29, ↓dhq_M_29, ↓dhG_M_30, ↓dhG_M_31, ↓dhg_M_32, ↓dhq_M_32, ↓dhg_M_33, ↓dhq_M_33, ↓dhg_M_34, ↓dhq_M_34, ↓dhg_M_35, ↓dhq_M_35, ↓dhG_M_36, ↓dhG_M_37, ↓dhg_M_38, ↓dhq_M_38, ↓dhg_M_39, ↓dhq_M_39, ↓dhG_M_40, ↓dhG_M_41, ↓dhG_M_42, ↓dhG_M_43, ↓dhg_M_44, ↓dhq_M_44, ↓dha_162, ↓dhs_162, ↓dhl_162, ↓dha_165, ↓dhs_165, ↓dhl_165, Option.bind_some, ↓nm_eq, ↓sm_inl, ↓sm_inr, ↓dzo_0, ↓dzo_1, ↓drg_ok, ↓if_pos, ↓if_neg, if_pos, if_neg, if_true, if_false, Int.toNat_natCast, rg_ok, q1, q3, ↓bnd (isB_1 (x := (p : Int)) (m := (Gn (gtp ps tp) : Int)) (by omega) (by omega) _), ↓bnd (isB_1 (x := (k : Int)) (m := 5) (by omega) (by omega) _), ↓bnd goes_0, ↓bnd (e3 _)]
theorem op_fault {n : Nat} (hn : 1000000000000000000000000000000 ≤ n) : OPR (fun h => f_X11_fault n 0 h) (fun h => f_X12_fault n 161 h) := by
  intro u J L hI
  obtain ⟨ps, rs, ps1, rs1, t, lv, sd, w, nw, tp, tq, h⟩ := hI
  have hT := h.2.1.2.2.2.2.1
  have rT := h.2.2.1.2.2.2.2.2.1
  have h1T : (1 : Nat) ∈ gTX := by decide
  have h2 := h.r ((RQO.rf h.2.2.2.2).thr (x := 0))
  have rT2 := h2.2.2.1.2.2.2.2.2.1
  have e1 := X8_firstFault (u := u) (L := L) h1T hT.tk hn
  have e2 := X12_faultOf (u := u) (L := L) rT2.k hn
  have ev : tf (gx_u J 161 44 0 173) (gx_u J 161 44 0 161 13).toNat (gx_u J 161 44 0 161 13).toNat 0 0 0 = tf (J (1 + 1)) (J 1 1).toNat (J 1 1).toNat 0 0 0 := by
    rw [rT2.1, hT.1, Int.toNat_natCast]
    exact tf_congr _ _ _ _ (fun j _ hj => by rw [rT2.2.1 j (by omega), hT.2.1 j (by omega)])
  rw [ev] at e2
  have hr := tf_rg (t := J (1 + 1)) (n := (J 1 1).toNat) (J 1 1).toNat 0 0 0 (by omega)
  have h24 := hT.tk.1
  refine ⟨tf (J (1 + 1)) (J 1 1).toNat (J 1 1).toNat 0 0 0, u, gx_u J 161 44 0, L, ?_, ?_, ⟨by omega, by omega⟩, ps, rs, ps1, rs1, t, lv, sd, w, nw, tp, tq, h2⟩
  · simp (disch := omega) only [f_X11_fault, ↓dhi_X, ↓dhG_X_0, ↓dhG_X_1, ↓dhG_X_2, ↓dhg_X_3, ↓dhq_X_3, ↓dhG_X_4, ↓dhG_X_5, ↓dhG_X_6, ↓dhg_X_7, ↓dhq_X_7, ↓dhG_X_8, ↓dhG_X_9, ↓dhG_X_10, ↓dhG_X_11, ↓dhG_X_12, ↓dhG_X_13, ↓dhG_X_14, ↓dhG_X_15, ↓dhG_X_16, ↓dhi_T h1T, ↓dhG_T_0 h1T, ↓dhg_T_1 h1T, ↓dhq_T_1 h1T, ↓dha_T_1 h1T, ↓dhs_T_1 h1T, ↓dhl_T_1 h1T, Option.bind_some, ↓nm_eq, ↓sm_inl, ↓sm_inr, ↓dzo_0, ↓dzo_1, ↓drg_ok, ↓if_pos, ↓if_neg, if_pos, if_neg, if_true, if_false, Int.toNat_natCast, rg_ok, ↓bnd e1]
  · simp (disch := omega) only [f_X12_fault, ↓dhi_M, ↓dhG_M_0, ↓dhG_M_1, ↓dhG_M_2, ↓dhG_M_3, ↓dhG_M_4, ↓dhG_M_5, ↓dhG_M_6, ↓dhG_M_7, ↓dhG_M_8, ↓dhg_M_9, ↓dhq_M_9, ↓dhG_M_10, ↓dhG_M_11, ↓dhG_M_12, ↓dhg_M_13, ↓dhq_M_13, ↓dhG_M_14, ↓dhg_M_15, ↓dhq_M_15, ↓dhG_M_16, ↓dhg_M_17, ↓dhq_M_17, ↓dhg_M_18, ↓dhq_M_18, ↓dhG_M_19, ↓dhG_M_20, ↓dhG_M_21, ↓dhG_M_22, ↓dhG_M_23, ↓dhG_M_24, ↓dhg_M_25, ↓dhq_M_25, ↓dhG_M_26, ↓dhG_M_27, ↓dhG_M_28, ↓dhg_M_29, ↓dhq_M_29, ↓dhG_M_30, ↓dhG_M_31, ↓dhg_M_32, ↓dhq_M_32, ↓dhg_M_33, ↓dhq_M_33, ↓dhg_M_34, ↓dhq_M_34, ↓dhg_M_35, ↓dhq_M_35, ↓dhG_M_36, ↓dhG_M_37, ↓dhg_M_38, ↓dhq_M_38, ↓dhg_M_39, ↓dhq_M_39, ↓dhG_M_40, ↓dhG_M_41, ↓dhG_M_42, ↓dhG_M_43, ↓dhg_M_44, ↓dhq_M_44, Option.bind_some, ↓nm_eq, ↓sm_inl, ↓sm_inr, ↓dzo_0, ↓dzo_1, ↓drg_ok, ↓if_pos, ↓if_neg, if_pos, if_neg, if_true, if_false, Int.toNat_natCast, rg_ok, ↓bnd e2]
theorem TL.nil {J : Nat → Nat → Int} {x : Nat} (h : J x 1 = 0) : TL x J [] := ⟨h, fun j hj => absurd hj (by simp), by simp, fun j hj => absurd hj (by simp)⟩
theorem op_wipe {n : Nat} : OPN (fun h => f_X11_wipe 0 h) (fun h => f_X12_wipe 161 h) := by
  intro u J L hI
  obtain ⟨ps, rs, ps1, rs1, t, lv, sd, w, nw, tp, tq, h⟩ := hI
  have hT := h.2.1.2.2.2.2.1
  have rT := h.2.2.1.2.2.2.2.2.1
  have h1T : (1 : Nat) ∈ gTX := by decide
  have h24 := hT.tk.1
  have e1 := X8_clear (u := u) (I := J) (L := L) h1T
  have e13 : gx_u (gx_u J 1 1 0) 161 44 0 161 13 = J 1 1 := by rw [gu_at_ne (by decide), gu_ne (by decide), rT.1, hT.1]
  refine ⟨J 1 1, u, gx_u J 1 1 0, L, gx_u (gx_u (gx_u J 1 1 0) 161 44 0) 161 13 0, L, ?_, ?_, ⟨by omega, by omega⟩, ps, rs, ps1, rs1, [], lv, sd, w, nw, tp, tq, ?_⟩
  · simp (disch := omega) only [f_X11_wipe, ↓dhi_X, ↓dhG_X_0, ↓dhG_X_1, ↓dhG_X_2, ↓dhg_X_3, ↓dhq_X_3, ↓dhG_X_4, ↓dhG_X_5, ↓dhG_X_6, ↓dhg_X_7, ↓dhq_X_7, ↓dhG_X_8, ↓dhG_X_9, ↓dhG_X_10, ↓dhG_X_11, ↓dhG_X_12, ↓dhG_X_13, ↓dhG_X_14, ↓dhG_X_15, ↓dhG_X_16, ↓dhi_T h1T, ↓dhG_T_0 h1T, ↓dhg_T_1 h1T, ↓dhq_T_1 h1T, ↓dha_T_1 h1T, ↓dhs_T_1 h1T, ↓dhl_T_1 h1T, Option.bind_some, ↓nm_eq, ↓sm_inl, ↓sm_inr, ↓dzo_0, ↓dzo_1, ↓drg_ok, ↓if_pos, ↓if_neg, if_pos, if_neg, if_true, if_false, Int.toNat_natCast, rg_ok, ↓bnd e1]
  · simp (disch := omega) only [f_X12_wipe, ↓dhi_M, ↓dhG_M_0, ↓dhG_M_1, ↓dhG_M_2, ↓dhG_M_3, ↓dhG_M_4, ↓dhG_M_5, ↓dhG_M_6, ↓dhG_M_7, ↓dhG_M_8, ↓dhg_M_9, ↓dhq_M_9, ↓dhG_M_10, ↓dhG_M_11, ↓dhG_M_12, ↓dhg_M_13, ↓dhq_M_13, ↓dhG_M_14, ↓dhg_M_15, ↓dhq_M_15, ↓dhG_M_16, ↓dhg_M_17, ↓dhq_M_17, ↓dhg_M_18, ↓dhq_M_18, ↓dhG_M_19, ↓dhG_M_20, ↓dhG_M_21, ↓dhG_M_22, ↓dhG_M_23, ↓dhG_M_24, ↓dhg_M_25, ↓dhq_M_25, ↓dhG_M_26, ↓dhG_M_27, ↓dhG_M_28, ↓dhg_M_29, ↓dhq_M_29, ↓dhG_M_30, ↓dhG_M_31, ↓dhg_M_32, ↓dhq_M_32, ↓dhg_M_33, ↓dhq_M_33, ↓dhg_M_34, ↓dhq_M_34, ↓dhg_M_35, ↓dhq_M_35, ↓dhG_M_36, ↓dhG_M_37, ↓dhg_M_38, ↓dhq_M_38, ↓dhg_M_39, ↓dhq_M_39, ↓dhG_M_40, ↓dhG_M_41, ↓dhG_M_42, ↓dhG_M_43, ↓dhg_M_44, ↓dhq_M_44, Option.bind_some, ↓nm_eq, ↓sm_inl, ↓sm_inr, ↓dzo_0, ↓dzo_1, ↓drg_ok, ↓if_pos, ↓if_neg, if_pos, if_neg, if_true, if_false, Int.toNat_natCast, rg_ok, e13]
  · have fr : ∀ a, a ≠ 1 → a ≠ 161 → gx_u (gx_u (gx_u J 1 1 0) 161 44 0) 161 13 0 a = J a := fun a h1 h2 => by rw [gu_ne h2, gu_ne h2, gu_ne h1]
    have fm : ∀ k, k ≠ 13 → k ≠ 44 → gx_u (gx_u (gx_u J 1 1 0) 161 44 0) 161 13 0 161 k = J 161 k := fun k h1 h2 => by rw [gu_at_ne h1, gu_at_ne h2, gu_ne (by decide)]
    refine h.upd (fun a ha => fr a (fun z => by simp [z] at ha) (fun z => by simp [z] at ha)) (by rw [fr 0 (by decide) (by decide)]) (fun k h1 h2 h3 => fm k h1 h3) (fun _ _ => rfl) (TL.nil ?_) (h.clv.fr (fr 61 (by decide) (by decide)) (fr 62 (by decide) (by decide))) ?_ ?_ ⟨gu_same _ _ _ _, fun j hj => absurd hj (by simp), by simp, fun j hj => absurd hj (by simp)⟩ (h.rlv.fr (fr 171 (by decide) (by decide)) (fr 172 (by decide) (by decide))) ?_ h.sw
    · rw [gu_ne (by decide), gu_ne (by decide), gu_same]
    · have := h.cse; unfold CSE at *; rw [fr 63 (by decide) (by decide)]; exact this
    · rw [fr 0 (by decide) (by decide)]; exact h.2.1.2.2.2.2.2.2.2.1
    · have := h.wse; unfold WSE at *; rw [fr 175 (by decide) (by decide), fm 17 (by decide) (by decide)]; exact this
