/-! ===== calls: cells in conflict, the runs ===== -/
section IVA
variable {u : Nat} {ps ps1 : List (Nat × List Nat)} {rs rs1 : List (Nat × List Int)} {t : List Int} {lv sd : Nat → Int} {w : Nat → Nat} {nw tp tq : Nat} {J L : Nat → Nat → Int}
theorem IV.clv (h : IV u ps rs ps1 rs1 t lv sd w nw tp tq J L) : CLV lv sd J := h.2.1.2.2.2.2.2.1
theorem IV.cse (h : IV u ps rs ps1 rs1 t lv sd w nw tp tq J L) : CSE w J := h.2.1.2.2.2.2.2.2.1
theorem IV.sw (h : IV u ps rs ps1 rs1 t lv sd w nw tp tq J L) : SW w nw := h.1.2.2.2.1
theorem IV.rlv (h : IV u ps rs ps1 rs1 t lv sd w nw tp tq J L) : RLV lv sd J := h.2.2.1.2.2.2.2.2.2.1
theorem IV.wse (h : IV u ps rs ps1 rs1 t lv sd w nw tp tq J L) : WSE w nw J := h.2.2.1.2.2.2.2.2.2.2
end IVA
theorem op_conflicts {n : Nat} {x : Int} (hn : 1000000000000000000000000000000 ≤ n) (hx : gi_ok x) : OPK (fun h => f_L_conflicts n 0 x 193 h) (fun h => f_X12_conflicts n 161 x h) := by
  intro u J L hI
  by_cases c : x < 0 ∨ 3 < x
  · refine k_out hI ?_ ?_
    · simp (disch := omega) only [f_L_conflicts, f_X11_conflicts, ↓bnd (reqK_0 c hx _), ↓dhi_X, ↓dhG_X_0, ↓dhG_X_1, ↓dhG_X_2, ↓dhg_X_3, ↓dhq_X_3, ↓dhG_X_4, ↓dhG_X_5, ↓dhG_X_6, ↓dhg_X_7, ↓dhq_X_7, ↓dhG_X_8, ↓dhG_X_9, ↓dhG_X_10, ↓dhG_X_11, ↓dhG_X_12, ↓dhG_X_13, ↓dhG_X_14, ↓dhG_X_15, ↓dhG_X_16, Option.bind_some, ↓nm_eq, ↓sm_inl, ↓sm_inr, ↓dzo_0, ↓dzo_1, ↓drg_ok, ↓if_pos, ↓if_neg, if_pos, if_neg, if_true, if_false, Int.toNat_natCast, rg_ok, xI1, if_true]
    · simp (disch := omega) only [f_X12_conflicts, ↓dhi_M, ↓dhG_M_0, ↓dhG_M_1, ↓dhG_M_2, ↓dhG_M_3, ↓dhG_M_4, ↓dhG_M_5, ↓dhG_M_6, ↓dhG_M_7, ↓dhG_M_8, ↓dhg_M_9, ↓dhq_M_9, ↓dhG_M_10, ↓dhG_M_11, ↓dhG_M_12, ↓dhg_M_13, ↓dhq_M_13, ↓dhG_M_14, ↓dhg_M_15, ↓dhq_M_15, ↓dhG_M_16, ↓dhg_M_17, ↓dhq_M_17, ↓dhg_M_18, ↓dhq_M_18, ↓dhG_M_19, ↓dhG_M_20, ↓dhG_M_21, ↓dhG_M_22, ↓dhG_M_23, ↓dhG_M_24, ↓dhg_M_25, ↓dhq_M_25, ↓dhG_M_26, ↓dhG_M_27, ↓dhG_M_28, ↓dhg_M_29, ↓dhq_M_29, ↓dhG_M_30, ↓dhG_M_31, ↓dhg_M_32, ↓dhq_M_32, ↓dhg_M_33, ↓dhq_M_33, ↓dhg_M_34, ↓dhq_M_34, ↓dhg_M_35, ↓dhq_M_35, ↓dhG_M_36, ↓dhG_M_37, ↓dhg_M_38, ↓dhq_M_38, ↓dhg_M_39, ↓dhq_M_39, ↓dhG_M_40, ↓dhG_M_41, ↓dhG_M_42, ↓dhG_M_43, ↓dhg_M_44, ↓dhq_M_44, Option.bind_some, ↓nm_eq, ↓sm_inl, ↓sm_inr, ↓dzo_0, ↓dzo_1, ↓drg_ok, ↓if_pos, ↓if_neg, if_pos, if_neg, if_true, if_false, Int.toNat_natCast, rg_ok, ↓bnd (isK_0 c hx _), ↓bnd (goes_1 1 1)]
  · obtain ⟨kd, rfl⟩ : ∃ a : Nat, x = (a : Int) := ⟨x.toNat, by omega⟩
    have hk : kd ≤ 3 := by omega
    obtain ⟨ps, rs, ps1, rs1, t, lv, sd, w, nw, tp, tq, h⟩ := hI
    have hg := h.gr
    have hok := zcc_ok (kd := kd) (lv := lv) (s := false) hg
    obtain ⟨J0, K, e, q0, hT⟩ := c_tab (u := u) hn h.2.2.2.1 hk
    obtain ⟨J1, eL, q1⟩ : ∃ J1, f_L_conflicts n 0 (kd : Int) 193 (hp u J L) = some (0, hp u J1 (gx_u K 193 0 (zcc (gtp ps tp) kd lv false))) ∧ CQO u (gtp ps tp) J L J1 K := by
      by_cases c0 : kd = 0
      · subst c0
        refine ⟨J0, ?_, q0⟩
        have he := (c_ext (u := u) hn hT).2
        have e' : f_X11_table n 0 ((0 : Nat) : Int) (hp u J L) = some (145, hp u J0 K) := e
        have hz : zcc (gtp ps tp) 0 lv false = (zpn (gtp ps tp) 2 : Int) := rfl
        rw [hz] at hok ⊢
        simp (disch := omega) only [f_L_conflicts, f_X11_conflicts, ↓bnd (reqK_1 hk _), ↓dhi_X, ↓dhG_X_0, ↓dhG_X_1, ↓dhG_X_2, ↓dhg_X_3, ↓dhq_X_3, ↓dhG_X_4, ↓dhG_X_5, ↓dhG_X_6, ↓dhg_X_7, ↓dhq_X_7, ↓dhG_X_8, ↓dhG_X_9, ↓dhG_X_10, ↓dhG_X_11, ↓dhG_X_12, ↓dhG_X_13, ↓dhG_X_14, ↓dhG_X_15, ↓dhG_X_16, ↓dhi_P, ↓dhg_P_0, ↓dhq_P_0, ↓dhG_P_1, ↓dhG_P_2, ↓dhG_P_3, ↓dhg_P_4, ↓dhq_P_4, ↓dhG_P_5, ↓dhg_P_6, ↓dhq_P_6, ↓dha_193, ↓dhs_193, ↓dhl_193, Option.bind_some, ↓nm_eq, ↓sm_inl, ↓sm_inr, ↓dzo_0, ↓dzo_1, ↓drg_ok, ↓if_pos, ↓if_neg, if_pos, if_neg, if_true, if_false, Int.toNat_natCast, rg_ok, ↓bnd e', ↓bnd he, dsp_0, if_true] <;> rfl
      · have hk1 : 1 ≤ kd ∧ kd ≤ 3 := by omega
        obtain ⟨hv, hva⟩ := tb_m hk1
        obtain ⟨J1, e1, q1, -⟩ := c_cnt9 (u := u) hn hT (h.clv.frq q0.1) hk1 false
        rw [b01_f] at e1
        refine ⟨J1, ?_, q0.tr q1⟩
        simp (disch := omega) only [f_L_conflicts, f_X11_conflicts, f_X9_clashes, ↓bnd (reqK_1 hk _), ↓dhi_X, ↓dhG_X_0, ↓dhG_X_1, ↓dhG_X_2, ↓dhg_X_3, ↓dhq_X_3, ↓dhG_X_4, ↓dhG_X_5, ↓dhG_X_6, ↓dhg_X_7, ↓dhq_X_7, ↓dhG_X_8, ↓dhG_X_9, ↓dhG_X_10, ↓dhG_X_11, ↓dhG_X_12, ↓dhG_X_13, ↓dhG_X_14, ↓dhG_X_15, ↓dhG_X_16, ↓dhi_S hv, ↓dhg_S_0 hv, ↓dhq_S_0 hv, ↓dhG_S_1 hv, ↓dhg_S_2 hv, ↓dhq_S_2 hv, ↓dhG_S_3 hv, ↓dhG_S_4 hv, ↓dhG_S_5 hv, ↓dhg_S_6 hv, ↓dhq_S_6 hv, ↓dhg_S_7 hv, ↓dhq_S_7 hv, ↓dhg_S_8 hv, ↓dhq_S_8 hv, ↓dhg_S_9 hv, ↓dhq_S_9 hv, ↓dhG_S_10 hv, ↓dhG_S_11 hv, ↓dhg_S_12 hv, ↓dhq_S_12 hv, ↓dha_S_1 hv, ↓dhs_S_1 hv, ↓dhl_S_1 hv, ↓dha_S_2 hv, ↓dhs_S_2 hv, ↓dhl_S_2 hv, ↓dha_193, ↓dhs_193, ↓dhl_193, Option.bind_some, ↓nm_eq, ↓sm_inl, ↓sm_inr, ↓dzo_0, ↓dzo_1, ↓drg_ok, ↓if_pos, ↓if_neg, if_pos, if_neg, if_true, if_false, Int.toNat_natCast, rg_ok, ↓bnd e, ↓bnd e1, dsp_1 hk1, if_false] <;> rfl
    have h1 := h.c q1 (L1 := gx_u K 193 0 (zcc (gtp ps tp) kd lv false)) (fun a ha => gu_ne ha)
    have h2 := h1.r ((RQO.rf h1.2.2.2.2).thr (x := 0))
    obtain ⟨J2, K2, e2, q2, h44⟩ := r_cnt (u := u) (kd := kd) hn h2.2.2.2.2 h2.rlv hk false
    rw [b01_f] at e2
    refine ⟨0, u, J1, gx_u K 193 0 (zcc (gtp ps tp) kd lv false), zcc (gtp ps tp) kd lv false, J2, K2, eL, ?_, h44.trans (gu_same _ _ _ _), Or.inl rfl, ⟨by omega, by omega⟩, fun _ => ?_, ps, rs, ps1, rs1, t, lv, sd, w, nw, tp, tq, h2.r q2⟩
    · simp (disch := omega) only [f_X12_conflicts, ↓dhi_M, ↓dhG_M_0, ↓dhG_M_1, ↓dhG_M_2, ↓dhG_M_3, ↓dhG_M_4, ↓dhG_M_5, ↓dhG_M_6, ↓dhG_M_7, ↓dhG_M_8, ↓dhg_M_9, ↓dhq_M_9, ↓dhG_M_10, ↓dhG_M_11, ↓dhG_M_12, ↓dhg_M_13, ↓dhq_M_13, ↓dhG_M_14, ↓dhg_M_15, ↓dhq_M_15, ↓dhG_M_16, ↓dhg_M_17, ↓dhq_M_17, ↓dhg_M_18, ↓dhq_M_18, ↓dhG_M_19, ↓dhG_M_20, ↓dhG_M_21, ↓dhG_M_22, ↓dhG_M_23, ↓dhG_M_24, ↓dhg_M_25, ↓dhq_M_25, ↓dhG_M_26, ↓dhG_M_27, ↓dhG_M_28, ↓dhg_M_29, ↓dhq_M_29, ↓dhG_M_30, ↓dhG_M_31, ↓dhg_M_32, ↓dhq_M_32, ↓dhg_M_33, ↓dhq_M_33, ↓dhg_M_34, ↓dhq_M_34, ↓dhg_M_35, ↓dhq_M_35, ↓dhG_M_36, ↓dhG_M_37, ↓dhg_M_38, ↓dhq_M_38, ↓dhg_M_39, ↓dhq_M_39, ↓dhG_M_40, ↓dhG_M_41, ↓dhG_M_42, ↓dhG_M_43, ↓dhg_M_44, ↓dhq_M_44, Option.bind_some, ↓nm_eq, ↓sm_inl, ↓sm_inr, ↓dzo_0, ↓dzo_1, ↓drg_ok, ↓if_pos, ↓if_neg, if_pos, if_neg, if_true, if_false, Int.toNat_natCast, rg_ok, ↓bnd e2, ↓bnd (isK_1 hk _), ↓bnd goes_0]
    · rw [q2.2.2.1 193 (by omega), gu_same]
theorem op_settled {n : Nat} {x : Int} (hn : 1000000000000000000000000000000 ≤ n) (hx : gi_ok x) : OPK (fun h => f_L_settled n 0 x 193 h) (fun h => f_X12_settled n 161 x h) := by
  intro u J L hI
  by_cases c : x < 0 ∨ 3 < x
  · refine k_out hI ?_ ?_
    · simp (disch := omega) only [f_L_settled, f_X11_settled, ↓bnd (reqK_0 c hx _), ↓dhi_X, ↓dhG_X_0, ↓dhG_X_1, ↓dhG_X_2, ↓dhg_X_3, ↓dhq_X_3, ↓dhG_X_4, ↓dhG_X_5, ↓dhG_X_6, ↓dhg_X_7, ↓dhq_X_7, ↓dhG_X_8, ↓dhG_X_9, ↓dhG_X_10, ↓dhG_X_11, ↓dhG_X_12, ↓dhG_X_13, ↓dhG_X_14, ↓dhG_X_15, ↓dhG_X_16, Option.bind_some, ↓nm_eq, ↓sm_inl, ↓sm_inr, ↓dzo_0, ↓dzo_1, ↓drg_ok, ↓if_pos, ↓if_neg, if_pos, if_neg, if_true, if_false, Int.toNat_natCast, rg_ok, xI1, if_true]
    · simp (disch := omega) only [f_X12_settled, ↓dhi_M, ↓dhG_M_0, ↓dhG_M_1, ↓dhG_M_2, ↓dhG_M_3, ↓dhG_M_4, ↓dhG_M_5, ↓dhG_M_6, ↓dhG_M_7, ↓dhG_M_8, ↓dhg_M_9, ↓dhq_M_9, ↓dhG_M_10, ↓dhG_M_11, ↓dhG_M_12, ↓dhg_M_13, ↓dhq_M_13, ↓dhG_M_14, ↓dhg_M_15, ↓dhq_M_15, ↓dhG_M_16, ↓dhg_M_17, ↓dhq_M_17, ↓dhg_M_18, ↓dhq_M_18, ↓dhG_M_19, ↓dhG_M_20, ↓dhG_M_21, ↓dhG_M_22, ↓dhG_M_23, ↓dhG_M_24, ↓dhg_M_25, ↓dhq_M_25, ↓dhG_M_26, ↓dhG_M_27, ↓dhG_M_28, ↓dhg_M_29, ↓dhq_M_29, ↓dhG_M_30, ↓dhG_M_31, ↓dhg_M_32, ↓dhq_M_32, ↓dhg_M_33, ↓dhq_M_33, ↓dhg_M_34, ↓dhq_M_34, ↓dhg_M_35, ↓dhq_M_35, ↓dhG_M_36, ↓dhG_M_37, ↓dhg_M_38, ↓dhq_M_38, ↓dhg_M_39, ↓dhq_M_39, ↓dhG_M_40, ↓dhG_M_41, ↓dhG_M_42, ↓dhG_M_43, ↓dhg_M_44, ↓dhq_M_44, Option.bind_some, ↓nm_eq, ↓sm_inl, ↓sm_inr, ↓dzo_0, ↓dzo_1, ↓drg_ok, ↓if_pos, ↓if_neg, if_pos, if_neg, if_true, if_false, Int.toNat_natCast, rg_ok, ↓bnd (isK_0 c hx _), ↓bnd (goes_1 1 1)]
  · obtain ⟨kd, rfl⟩ : ∃ a : Nat, x = (a : Int) := ⟨x.toNat, by omega⟩
    have hk : kd ≤ 3 := by omega
    obtain ⟨ps, rs, ps1, rs1, t, lv, sd, w, nw, tp, tq, h⟩ := hI
    have hg := h.gr
    have hok := zcc_ok (kd := kd) (lv := lv) (s := true) hg
    obtain ⟨J0, K, e, q0, hT⟩ := c_tab (u := u) hn h.2.2.2.1 hk
    obtain ⟨J1, eL, q1⟩ : ∃ J1, f_L_settled n 0 (kd : Int) 193 (hp u J L) = some (0, hp u J1 (gx_u K 193 0 (zcc (gtp ps tp) kd lv true))) ∧ CQO u (gtp ps tp) J L J1 K := by
      by_cases c0 : kd = 0
      · subst c0
        refine ⟨J0, ?_, q0⟩
        have he := (c_ext (u := u) hn hT).2
        have e' : f_X11_table n 0 ((0 : Nat) : Int) (hp u J L) = some (145, hp u J0 K) := e
        have hz : zcc (gtp ps tp) 0 lv true = 0 := rfl
        rw [hz] at hok ⊢
        simp (disch := omega) only [f_L_settled, f_X11_settled, f_X5_easedClashes, ↓bnd (reqK_1 hk _), ↓dhi_X, ↓dhG_X_0, ↓dhG_X_1, ↓dhG_X_2, ↓dhg_X_3, ↓dhq_X_3, ↓dhG_X_4, ↓dhG_X_5, ↓dhG_X_6, ↓dhg_X_7, ↓dhq_X_7, ↓dhG_X_8, ↓dhG_X_9, ↓dhG_X_10, ↓dhG_X_11, ↓dhG_X_12, ↓dhG_X_13, ↓dhG_X_14, ↓dhG_X_15, ↓dhG_X_16, ↓dhi_P, ↓dhg_P_0, ↓dhq_P_0, ↓dhG_P_1, ↓dhG_P_2, ↓dhG_P_3, ↓dhg_P_4, ↓dhq_P_4, ↓dhG_P_5, ↓dhg_P_6, ↓dhq_P_6, ↓dha_193, ↓dhs_193, ↓dhl_193, Option.bind_some, ↓nm_eq, ↓sm_inl, ↓sm_inr, ↓dzo_0, ↓dzo_1, ↓drg_ok, ↓if_pos, ↓if_neg, if_pos, if_neg, if_true, if_false, Int.toNat_natCast, rg_ok, ↓bnd e', dsp_0, if_true] <;> rfl
      · have hk1 : 1 ≤ kd ∧ kd ≤ 3 := by omega
        obtain ⟨hv, hva⟩ := tb_m hk1
        obtain ⟨J1, e1, q1, -⟩ := c_cnt9 (u := u) hn hT (h.clv.frq q0.1) hk1 true
        rw [b01_t] at e1
        refine ⟨J1, ?_, q0.tr q1⟩
        simp (disch := omega) only [f_L_settled, f_X11_settled, f_X9_easedClashes, ↓bnd (reqK_1 hk _), ↓dhi_X, ↓dhG_X_0, ↓dhG_X_1, ↓dhG_X_2, ↓dhg_X_3, ↓dhq_X_3, ↓dhG_X_4, ↓dhG_X_5, ↓dhG_X_6, ↓dhg_X_7, ↓dhq_X_7, ↓dhG_X_8, ↓dhG_X_9, ↓dhG_X_10, ↓dhG_X_11, ↓dhG_X_12, ↓dhG_X_13, ↓dhG_X_14, ↓dhG_X_15, ↓dhG_X_16, ↓dhi_S hv, ↓dhg_S_0 hv, ↓dhq_S_0 hv, ↓dhG_S_1 hv, ↓dhg_S_2 hv, ↓dhq_S_2 hv, ↓dhG_S_3 hv, ↓dhG_S_4 hv, ↓dhG_S_5 hv, ↓dhg_S_6 hv, ↓dhq_S_6 hv, ↓dhg_S_7 hv, ↓dhq_S_7 hv, ↓dhg_S_8 hv, ↓dhq_S_8 hv, ↓dhg_S_9 hv, ↓dhq_S_9 hv, ↓dhG_S_10 hv, ↓dhG_S_11 hv, ↓dhg_S_12 hv, ↓dhq_S_12 hv, ↓dha_S_1 hv, ↓dhs_S_1 hv, ↓dhl_S_1 hv, ↓dha_S_2 hv, ↓dhs_S_2 hv, ↓dhl_S_2 hv, ↓dha_193, ↓dhs_193, ↓dhl_193, Option.bind_some, ↓nm_eq, ↓sm_inl, ↓sm_inr, ↓dzo_0, ↓dzo_1, ↓drg_ok, ↓if_pos, ↓if_neg, if_pos, if_neg, if_true, if_false, Int.toNat_natCast, rg_ok, ↓bnd e, ↓bnd e1, dsp_1 hk1, if_false] <;> rfl
    have h1 := h.c q1 (L1 := gx_u K 193 0 (zcc (gtp ps tp) kd lv true)) (fun a ha => gu_ne ha)
    have h2 := h1.r ((RQO.rf h1.2.2.2.2).thr (x := 0))
    obtain ⟨J2, K2, e2, q2, h44⟩ := r_cnt (u := u) (kd := kd) hn h2.2.2.2.2 h2.rlv hk true
    rw [b01_t] at e2
    refine ⟨0, u, J1, gx_u K 193 0 (zcc (gtp ps tp) kd lv true), zcc (gtp ps tp) kd lv true, J2, K2, eL, ?_, h44.trans (gu_same _ _ _ _), Or.inl rfl, ⟨by omega, by omega⟩, fun _ => ?_, ps, rs, ps1, rs1, t, lv, sd, w, nw, tp, tq, h2.r q2⟩
    · simp (disch := omega) only [f_X12_settled, ↓dhi_M, ↓dhG_M_0, ↓dhG_M_1, ↓dhG_M_2, ↓dhG_M_3, ↓dhG_M_4, ↓dhG_M_5, ↓dhG_M_6, ↓dhG_M_7, ↓dhG_M_8, ↓dhg_M_9, ↓dhq_M_9, ↓dhG_M_10, ↓dhG_M_11, ↓dhG_M_12, ↓dhg_M_13, ↓dhq_M_13, ↓dhG_M_14, ↓dhg_M_15, ↓dhq_M_15, ↓dhG_M_16, ↓dhg_M_17, ↓dhq_M_17, ↓dhg_M_18, ↓dhq_M_18, ↓dhG_M_19, ↓dhG_M_20, ↓dhG_M_21, ↓dhG_M_22, ↓dhG_M_23, ↓dhG_M_24, ↓dhg_M_25, ↓dhq_M_25, ↓dhG_M_26, ↓dhG_M_27, ↓dhG_M_28, ↓dhg_M_29, ↓dhq_M_29, ↓dhG_M_30, ↓dhG_M_31, ↓dhg_M_32, ↓dhq_M_32, ↓dhg_M_33, ↓dhq_M_33, ↓dhg_M_34, ↓dhq_M_34, ↓dhg_M_35, ↓dhq_M_35, ↓dhG_M_36, ↓dhG_M_37, ↓dhg_M_38, ↓dhq_M_38, ↓dhg_M_39, ↓dhq_M_39, ↓dhG_M_40, ↓dhG_M_41, ↓dhG_M_42, ↓dhG_M_43, ↓dhg_M_44, ↓dhq_M_44, Option.bind_some, ↓nm_eq, ↓sm_inl, ↓sm_inr, ↓dzo_0, ↓dzo_1, ↓drg_ok, ↓if_pos, ↓if_neg, if_pos, if_neg, if_true, if_false, Int.toNat_natCast, rg_ok, ↓bnd e2, ↓bnd (isK_1 hk _), ↓bnd goes_0]
    · rw [q2.2.2.1 193 (by omega), gu_same]
theorem c_run {n : Nat} (hn : 1000000000000000000000000000000 ≤ n) {u kd : Nat} {g : GT} {J L : Nat → Nat → Int} {lv sd : Nat → Int} {w : Nat → Nat} {nw : Nat} (q : CTB u g kd J L) (hl : CLV lv sd J) (hs : CSE w J) (hsw : SW w nw) (hk : kd ≤ 3) : ∃ J1, (kd = 0 → f_X5_run n 145 (hp u J L) = some ((zpr g kd lv sd w).1, hp u J1 L)) ∧ (kd ≠ 0 → f_X9_run n (tb kd) (hp u J L) = some ((zpr g kd lv sd w).1, hp u J1 L)) ∧ CQO u g J L J1 L ∧ ((zpr g kd lv sd w).1 = -1 → J1 (tb kd) 0 = (zpr g kd lv sd w).2) := by
  by_cases c : kd = 0
  · subst c
    obtain ⟨J1, e, f, hv⟩ := X5_run (u := u) hn q hs hsw
    exact ⟨J1, fun _ => e, fun z => absurd rfl z, ⟨f.up (fun a z => by simp [PUL] at z; simp [CLQ]; omega), Fr.rf, (q.ownp f).1⟩, hv⟩
  · have hk1 : 1 ≤ kd ∧ kd ≤ 3 := by omega
    obtain ⟨J1, e, f, e2, hv⟩ := X9_run (u := u) hn q hl hs hsw hk1
    have hz : zpr g kd lv sd w = zrun g kd lv sd w := if_neg c
    rw [hz]
    refine ⟨J1, fun z => absurd z c, fun _ => e, ⟨f.up (fun a z => ?_), Fr.rf, (q.own3 hk1 f e2).1⟩, hv⟩
    have := (tb_m hk1).1
    simp at z this; simp [CLQ]; omega
theorem op_parse {n : Nat} {x : Int} (hn : 1000000000000000000000000000000 ≤ n) (hx : gi_ok x) : OPK (fun h => f_L_parse n 0 x 193 h) (fun h => f_X12_parse n 161 x h) := by
  intro u J L hI
  by_cases c : x < 0 ∨ 3 < x
  · refine k_out hI ?_ ?_
    · simp (disch := omega) only [f_L_parse, f_X11_parse, ↓bnd (reqK_0 c hx _), ↓dhi_X, ↓dhG_X_0, ↓dhG_X_1, ↓dhG_X_2, ↓dhg_X_3, ↓dhq_X_3, ↓dhG_X_4, ↓dhG_X_5, ↓dhG_X_6, ↓dhg_X_7, ↓dhq_X_7, ↓dhG_X_8, ↓dhG_X_9, ↓dhG_X_10, ↓dhG_X_11, ↓dhG_X_12, ↓dhG_X_13, ↓dhG_X_14, ↓dhG_X_15, ↓dhG_X_16, Option.bind_some, ↓nm_eq, ↓sm_inl, ↓sm_inr, ↓dzo_0, ↓dzo_1, ↓drg_ok, ↓if_pos, ↓if_neg, if_pos, if_neg, if_true, if_false, Int.toNat_natCast, rg_ok, xI1, if_true]
    · simp (disch := omega) only [f_X12_parse, ↓dhi_M, ↓dhG_M_0, ↓dhG_M_1, ↓dhG_M_2, ↓dhG_M_3, ↓dhG_M_4, ↓dhG_M_5, ↓dhG_M_6, ↓dhG_M_7, ↓dhG_M_8, ↓dhg_M_9, ↓dhq_M_9, ↓dhG_M_10, ↓dhG_M_11, ↓dhG_M_12, ↓dhg_M_13, ↓dhq_M_13, ↓dhG_M_14, ↓dhg_M_15, ↓dhq_M_15, ↓dhG_M_16, ↓dhg_M_17, ↓dhq_M_17, ↓dhg_M_18, ↓dhq_M_18, ↓dhG_M_19, ↓dhG_M_20, ↓dhG_M_21, ↓dhG_M_22, ↓dhG_M_23, ↓dhG_M_24, ↓dhg_M_25, ↓dhq_M_25, ↓dhG_M_26, ↓dhG_M_27, ↓dhG_M_28, ↓dhg_M_29, ↓dhq_M_29, ↓dhG_M_30, ↓dhG_M_31, ↓dhg_M_32, ↓dhq_M_32, ↓dhg_M_33, ↓dhq_M_33, ↓dhg_M_34, ↓dhq_M_34, ↓dhg_M_35, ↓dhq_M_35, ↓dhG_M_36, ↓dhG_M_37, ↓dhg_M_38, ↓dhq_M_38, ↓dhg_M_39, ↓dhq_M_39, ↓dhG_M_40, ↓dhG_M_41, ↓dhG_M_42, ↓dhG_M_43, ↓dhg_M_44, ↓dhq_M_44, Option.bind_some, ↓nm_eq, ↓sm_inl, ↓sm_inr, ↓dzo_0, ↓dzo_1, ↓drg_ok, ↓if_pos, ↓if_neg, if_pos, if_neg, if_true, if_false, Int.toNat_natCast, rg_ok, ↓bnd (isK_0 c hx _), ↓bnd (goes_1 1 1)]
  · obtain ⟨kd, rfl⟩ : ∃ a : Nat, x = (a : Int) := ⟨x.toNat, by omega⟩
    have hk : kd ≤ 3 := by omega
    obtain ⟨ps, rs, ps1, rs1, t, lv, sd, w, nw, tp, tq, h⟩ := hI
    have hok := zpr_ok (g := gtp ps tp) (kd := kd) (lv := lv) (sd := sd) h.sw
    obtain ⟨J0, K, e, q0, hT⟩ := c_tab (u := u) hn h.2.2.2.1 hk
    obtain ⟨J1, r0, r1, q1, -⟩ := c_run (u := u) hn hT (h.clv.frq q0.1) (h.cse.frq q0.1) h.sw hk
    have h1 := h.c (q0.tr q1) (L1 := gx_u K 193 0 (zpr (gtp ps tp) kd lv sd w).1) (fun a ha => gu_ne ha)
    have h2 := h1.r ((RQO.rf h1.2.2.2.2).thr (x := 0))
    obtain ⟨J2, K2, e2, q2, h44, -⟩ := r_parses (u := u) (kd := kd) hn h2.2.2.2.2 h2.rlv h2.wse h2.sw hk
    refine ⟨0, u, J1, gx_u K 193 0 (zpr (gtp ps tp) kd lv sd w).1, (zpr (gtp ps tp) kd lv sd w).1, J2, K2, ?_, ?_, h44.trans (gu_same _ _ _ _), Or.inl rfl, ⟨by omega, by omega⟩, fun _ => ?_, ps, rs, ps1, rs1, t, lv, sd, w, nw, tp, tq, h2.r q2⟩
    · by_cases c0 : kd = 0
      · have r0' := r0 c0
        subst c0
        have e' : f_X11_table n 0 ((0 : Nat) : Int) (hp u J L) = some (145, hp u J0 K) := e
        simp (disch := omega) only [f_L_parse, f_X11_parse, ↓bnd (reqK_1 hk _), ↓dhi_X, ↓dhG_X_0, ↓dhG_X_1, ↓dhG_X_2, ↓dhg_X_3, ↓dhq_X_3, ↓dhG_X_4, ↓dhG_X_5, ↓dhG_X_6, ↓dhg_X_7, ↓dhq_X_7, ↓dhG_X_8, ↓dhG_X_9, ↓dhG_X_10, ↓dhG_X_11, ↓dhG_X_12, ↓dhG_X_13, ↓dhG_X_14, ↓dhG_X_15, ↓dhG_X_16, ↓dhi_P, ↓dhg_P_0, ↓dhq_P_0, ↓dhG_P_1, ↓dhG_P_2, ↓dhG_P_3, ↓dhg_P_4, ↓dhq_P_4, ↓dhG_P_5, ↓dhg_P_6, ↓dhq_P_6, ↓dha_193, ↓dhs_193, ↓dhl_193, Option.bind_some, ↓nm_eq, ↓sm_inl, ↓sm_inr, ↓dzo_0, ↓dzo_1, ↓drg_ok, ↓if_pos, ↓if_neg, if_pos, if_neg, if_true, if_false, Int.toNat_natCast, rg_ok, ↓bnd e', ↓bnd r0', dsp_0, if_true] <;> rfl
      · have r1' := r1 c0
        have hk1 : 1 ≤ kd ∧ kd ≤ 3 := by omega
        obtain ⟨hv, hva⟩ := tb_m hk1
        simp (disch := omega) only [f_L_parse, f_X11_parse, ↓bnd (reqK_1 hk _), ↓dhi_X, ↓dhG_X_0, ↓dhG_X_1, ↓dhG_X_2, ↓dhg_X_3, ↓dhq_X_3, ↓dhG_X_4, ↓dhG_X_5, ↓dhG_X_6, ↓dhg_X_7, ↓dhq_X_7, ↓dhG_X_8, ↓dhG_X_9, ↓dhG_X_10, ↓dhG_X_11, ↓dhG_X_12, ↓dhG_X_13, ↓dhG_X_14, ↓dhG_X_15, ↓dhG_X_16, ↓dhi_S hv, ↓dhg_S_0 hv, ↓dhq_S_0 hv, ↓dhG_S_1 hv, ↓dhg_S_2 hv, ↓dhq_S_2 hv, ↓dhG_S_3 hv, ↓dhG_S_4 hv, ↓dhG_S_5 hv, ↓dhg_S_6 hv, ↓dhq_S_6 hv, ↓dhg_S_7 hv, ↓dhq_S_7 hv, ↓dhg_S_8 hv, ↓dhq_S_8 hv, ↓dhg_S_9 hv, ↓dhq_S_9 hv, ↓dhG_S_10 hv, ↓dhG_S_11 hv, ↓dhg_S_12 hv, ↓dhq_S_12 hv, ↓dha_S_1 hv, ↓dhs_S_1 hv, ↓dhl_S_1 hv, ↓dha_S_2 hv, ↓dhs_S_2 hv, ↓dhl_S_2 hv, ↓dha_193, ↓dhs_193, ↓dhl_193, Option.bind_some, ↓nm_eq, ↓sm_inl, ↓sm_inr, ↓dzo_0, ↓dzo_1, ↓drg_ok, ↓if_pos, ↓if_neg, if_pos, if_neg, if_true, if_false, Int.toNat_natCast, rg_ok, ↓bnd e, ↓bnd r1', dsp_1 hk1, if_false] <;> rfl
    · simp (disch := omega) only [f_X12_parse, ↓dhi_M, ↓dhG_M_0, ↓dhG_M_1, ↓dhG_M_2, ↓dhG_M_3, ↓dhG_M_4, ↓dhG_M_5, ↓dhG_M_6, ↓dhG_M_7, ↓dhG_M_8, ↓dhg_M_9, ↓dhq_M_9, ↓dhG_M_10, ↓dhG_M_11, ↓dhG_M_12, ↓dhg_M_13, ↓dhq_M_13, ↓dhG_M_14, ↓dhg_M_15, ↓dhq_M_15, ↓dhG_M_16, ↓dhg_M_17, ↓dhq_M_17, ↓dhg_M_18, ↓dhq_M_18, ↓dhG_M_19, ↓dhG_M_20, ↓dhG_M_21, ↓dhG_M_22, ↓dhG_M_23, ↓dhG_M_24, ↓dhg_M_25, ↓dhq_M_25, ↓dhG_M_26, ↓dhG_M_27, ↓dhG_M_28, ↓dhg_M_29, ↓dhq_M_29, ↓dhG_M_30, ↓dhG_M_31, ↓dhg_M_32, ↓dhq_M_32, ↓dhg_M_33, ↓dhq_M_33, ↓dhg_M_34, ↓dhq_M_34, ↓dhg_M_35, ↓dhq_M_35, ↓dhG_M_36, ↓dhG_M_37, ↓dhg_M_38, ↓dhq_M_38, ↓dhg_M_39, ↓dhq_M_39, ↓dhG_M_40, ↓dhG_M_41, ↓dhG_M_42, ↓dhG_M_43, ↓dhg_M_44, ↓dhq_M_44, Option.bind_some, ↓nm_eq, ↓sm_inl, ↓sm_inr, ↓dzo_0, ↓dzo_1, ↓drg_ok, ↓if_pos, ↓if_neg, if_pos, if_neg, if_true, if_false, Int.toNat_natCast, rg_ok, ↓bnd e2, ↓bnd (isK_1 hk _), ↓bnd goes_0]
    · rw [q2.2.2.1 193 (by omega), gu_same]
theorem op_value {n : Nat} {x : Int} (hn : 1000000000000000000000000000000 ≤ n) (hx : gi_ok x) : OPK (fun h => f_L_value n 0 x 193 h) (fun h => f_X12_value n 161 x h) := by
  intro u J L hI
  by_cases c : x < 0 ∨ 3 < x
  · refine k_out hI ?_ ?_
    · simp (disch := omega) only [f_L_value, f_X11_value, ↓bnd (reqK_0 c hx _), ↓dhi_X, ↓dhG_X_0, ↓dhG_X_1, ↓dhG_X_2, ↓dhg_X_3, ↓dhq_X_3, ↓dhG_X_4, ↓dhG_X_5, ↓dhG_X_6, ↓dhg_X_7, ↓dhq_X_7, ↓dhG_X_8, ↓dhG_X_9, ↓dhG_X_10, ↓dhG_X_11, ↓dhG_X_12, ↓dhG_X_13, ↓dhG_X_14, ↓dhG_X_15, ↓dhG_X_16, Option.bind_some, ↓nm_eq, ↓sm_inl, ↓sm_inr, ↓dzo_0, ↓dzo_1, ↓drg_ok, ↓if_pos, ↓if_neg, if_pos, if_neg, if_true, if_false, Int.toNat_natCast, rg_ok, xI1, if_true]
    · simp (disch := omega) only [f_X12_value, b_X12_value_24, b_X12_value_25, ↓dhi_M, ↓dhG_M_0, ↓dhG_M_1, ↓dhG_M_2, ↓dhG_M_3, ↓dhG_M_4, ↓dhG_M_5, ↓dhG_M_6, ↓dhG_M_7, ↓dhG_M_8, ↓dhg_M_9, ↓dhq_M_9, ↓dhG_M_10, ↓dhG_M_11, ↓dhG_M_12, ↓dhg_M_13, ↓dhq_M_13, ↓dhG_M_14, ↓dhg_M_15, ↓dhq_M_15, ↓dhG_M_16, ↓dhg_M_17, ↓dhq_M_17, ↓dhg_M_18, ↓dhq_M_18, ↓dhG_M_19, ↓dhG_M_20, ↓dhG_M_21, ↓dhG_M_22, ↓dhG_M_23, ↓dhG_M_24, ↓dhg_M_25, ↓dhq_M_25, ↓dhG_M_26, ↓dhG_M_27, ↓dhG_M_28, ↓dhg_M_29, ↓dhq_M_29, ↓dhG_M_30, ↓dhG_M_31, ↓dhg_M_32, ↓dhq_M_32, ↓dhg_M_33, ↓dhq_M_33, ↓dhg_M_34, ↓dhq_M_34, ↓dhg_M_35, ↓dhq_M_35, ↓dhG_M_36, ↓dhG_M_37, ↓dhg_M_38, ↓dhq_M_38, ↓dhg_M_39, ↓dhq_M_39, ↓dhG_M_40, ↓dhG_M_41, ↓dhG_M_42, ↓dhG_M_43, ↓dhg_M_44, ↓dhq_M_44, Option.bind_some, ↓nm_eq, ↓sm_inl, ↓sm_inr, ↓dzo_0, ↓dzo_1, ↓drg_ok, ↓if_pos, ↓if_neg, if_pos, if_neg, if_true, if_false, Int.toNat_natCast, rg_ok, ↓bnd (isK_0 c hx _), ↓bnd (goes_1 0 1)]
  · obtain ⟨kd, rfl⟩ : ∃ a : Nat, x = (a : Int) := ⟨x.toNat, by omega⟩
    have hk : kd ≤ 3 := by omega
    obtain ⟨ps, rs, ps1, rs1, t, lv, sd, w, nw, tp, tq, h⟩ := hI
    have hok := zpr_ok (g := gtp ps tp) (kd := kd) (lv := lv) (sd := sd) h.sw
    obtain ⟨J0, K, e, q0, hT⟩ := c_tab (u := u) hn h.2.2.2.1 hk
    obtain ⟨J1, r0, r1, q1, hv1⟩ := c_run (u := u) hn hT (h.clv.frq q0.1) (h.cse.frq q0.1) h.sw hk
    by_cases cv : (zpr (gtp ps tp) kd lv sd w).1 = -1
    · have h1 := h.c (q0.tr q1) (L1 := gx_u K 193 0 (zpr (gtp ps tp) kd lv sd w).2) (fun a ha => gu_ne ha)
      obtain ⟨J2, K2, e2, q2, h44, hv2⟩ := r_parses (u := u) (kd := kd) hn h1.2.2.2.2 h1.rlv h1.wse h1.sw hk
      have hw1 := hv1 cv
      have hw2 := hv2 cv
      rw [cv] at e2
      have e3 : gx_u J2 161 44 0 161 39 = (zpr (gtp ps tp) kd lv sd w).2 := by rw [gu_at_ne (by decide)]; exact hw2
      refine ⟨0, u, J1, gx_u K 193 0 (zpr (gtp ps tp) kd lv sd w).2, (zpr (gtp ps tp) kd lv sd w).2, gx_u J2 161 44 0, K2, ?_, ?_, gu_same _ _ _ _, Or.inl rfl, ⟨by omega, by omega⟩, fun _ => ?_, ps, rs, ps1, rs1, t, lv, sd, w, nw, tp, tq, h1.r q2.thr⟩
      · by_cases c0 : kd = 0
        · have r0' := r0 c0
          rw [cv] at r0'
          subst c0
          have e' : f_X11_table n 0 ((0 : Nat) : Int) (hp u J L) = some (145, hp u J0 K) := e
          have hw1' : J1 145 0 = (zpr (gtp ps tp) 0 lv sd w).2 := hw1
          simp (disch := omega) only [f_L_value, f_X11_value, f_X10_worth_4, f_X10_worth_8, ↓bnd (reqK_1 hk _), ↓dhi_X, ↓dhG_X_0, ↓dhG_X_1, ↓dhG_X_2, ↓dhg_X_3, ↓dhq_X_3, ↓dhG_X_4, ↓dhG_X_5, ↓dhG_X_6, ↓dhg_X_7, ↓dhq_X_7, ↓dhG_X_8, ↓dhG_X_9, ↓dhG_X_10, ↓dhG_X_11, ↓dhG_X_12, ↓dhG_X_13, ↓dhG_X_14, ↓dhG_X_15, ↓dhG_X_16, ↓dhi_P, ↓dhg_P_0, ↓dhq_P_0, ↓dhG_P_1, ↓dhG_P_2, ↓dhG_P_3, ↓dhg_P_4, ↓dhq_P_4, ↓dhG_P_5, ↓dhg_P_6, ↓dhq_P_6, ↓dha_193, ↓dhs_193, ↓dhl_193, Option.bind_some, ↓nm_eq, ↓sm_inl, ↓sm_inr, ↓dzo_0, ↓dzo_1, ↓drg_ok, ↓if_pos, ↓if_neg, if_pos, if_neg, if_true, if_false, Int.toNat_natCast, rg_ok, ↓bnd e', ↓bnd r0', dsp_0, if_true, hw1'] <;> rfl
        · have r1' := r1 c0
          rw [cv] at r1'
          have hk1 : 1 ≤ kd ∧ kd ≤ 3 := by omega
          obtain ⟨hv, hva⟩ := tb_m hk1
          simp (disch := omega) only [f_L_value, f_X11_value, f_X10_worth_4, f_X10_worth_8, ↓bnd (reqK_1 hk _), ↓dhi_X, ↓dhG_X_0, ↓dhG_X_1, ↓dhG_X_2, ↓dhg_X_3, ↓dhq_X_3, ↓dhG_X_4, ↓dhG_X_5, ↓dhG_X_6, ↓dhg_X_7, ↓dhq_X_7, ↓dhG_X_8, ↓dhG_X_9, ↓dhG_X_10, ↓dhG_X_11, ↓dhG_X_12, ↓dhG_X_13, ↓dhG_X_14, ↓dhG_X_15, ↓dhG_X_16, ↓dhi_S hv, ↓dhg_S_0 hv, ↓dhq_S_0 hv, ↓dhG_S_1 hv, ↓dhg_S_2 hv, ↓dhq_S_2 hv, ↓dhG_S_3 hv, ↓dhG_S_4 hv, ↓dhG_S_5 hv, ↓dhg_S_6 hv, ↓dhq_S_6 hv, ↓dhg_S_7 hv, ↓dhq_S_7 hv, ↓dhg_S_8 hv, ↓dhq_S_8 hv, ↓dhg_S_9 hv, ↓dhq_S_9 hv, ↓dhG_S_10 hv, ↓dhG_S_11 hv, ↓dhg_S_12 hv, ↓dhq_S_12 hv, ↓dha_S_1 hv, ↓dhs_S_1 hv, ↓dhl_S_1 hv, ↓dha_S_2 hv, ↓dhs_S_2 hv, ↓dhl_S_2 hv, ↓dha_193, ↓dhs_193, ↓dhl_193, Option.bind_some, ↓nm_eq, ↓sm_inl, ↓sm_inr, ↓dzo_0, ↓dzo_1, ↓drg_ok, ↓if_pos, ↓if_neg, if_pos, if_neg, if_true, if_false, Int.toNat_natCast, rg_ok, ↓bnd e, ↓bnd r1', dsp_1 hk1, if_false, if_true, hw1] <;> rfl
      · simp (disch := omega) only [f_X12_value, b_X12_value_24, b_X12_value_25, ↓dhi_M, ↓dhG_M_0, ↓dhG_M_1, ↓dhG_M_2, ↓dhG_M_3, ↓dhG_M_4, ↓dhG_M_5, ↓dhG_M_6, ↓dhG_M_7, ↓dhG_M_8, ↓dhg_M_9, ↓dhq_M_9, ↓dhG_M_10, ↓dhG_M_11, ↓dhG_M_12, ↓dhg_M_13, ↓dhq_M_13, ↓dhG_M_14, ↓dhg_M_15, ↓dhq_M_15, ↓dhG_M_16, ↓dhg_M_17, ↓dhq_M_17, ↓dhg_M_18, ↓dhq_M_18, ↓dhG_M_19, ↓dhG_M_20, ↓dhG_M_21, ↓dhG_M_22, ↓dhG_M_23, ↓dhG_M_24, ↓dhg_M_25, ↓dhq_M_25, ↓dhG_M_26, ↓dhG_M_27, ↓dhG_M_28, ↓dhg_M_29, ↓dhq_M_29, ↓dhG_M_30, ↓dhG_M_31, ↓dhg_M_32, ↓dhq_M_32, ↓dhg_M_33, ↓dhq_M_33, ↓dhg_M_34, ↓dhq_M_34, ↓dhg_M_35, ↓dhq_M_35, ↓dhG_M_36, ↓dhG_M_37, ↓dhg_M_38, ↓dhq_M_38, ↓dhg_M_39, ↓dhq_M_39, ↓dhG_M_40, ↓dhG_M_41, ↓dhG_M_42, ↓dhG_M_43, ↓dhg_M_44, ↓dhq_M_44, Option.bind_some, ↓nm_eq, ↓sm_inl, ↓sm_inr, ↓dzo_0, ↓dzo_1, ↓drg_ok, ↓if_pos, ↓if_neg, if_pos, if_neg, if_true, if_false, Int.toNat_natCast, rg_ok, ↓bnd e2, ↓bnd (isK_1 hk _), ↓bnd goes_0, e3]
      · rw [q2.2.2.1 193 (by omega), gu_same]
    · have h1 := h.c (q0.tr q1) (L1 := K) (fun _ _ => rfl)
      obtain ⟨J2, K2, e2, q2, h44, -⟩ := r_parses (u := u) (kd := kd) hn h1.2.2.2.2 h1.rlv h1.wse h1.sw hk
      refine ⟨2, u, J1, K, 0, gx_u J2 161 44 2, K2, ?_, ?_, gu_same _ _ _ _, Or.inr (Or.inr rfl), by decide, fun z => absurd z (by decide), ps, rs, ps1, rs1, t, lv, sd, w, nw, tp, tq, h1.r q2.thr⟩
      · by_cases c0 : kd = 0
        · have r0' := r0 c0
          subst c0
          have e' : f_X11_table n 0 ((0 : Nat) : Int) (hp u J L) = some (145, hp u J0 K) := e
          simp (disch := omega) only [f_L_value, f_X11_value, f_X10_worth_4, f_X10_worth_8, ↓bnd (reqK_1 hk _), ↓dhi_X, ↓dhG_X_0, ↓dhG_X_1, ↓dhG_X_2, ↓dhg_X_3, ↓dhq_X_3, ↓dhG_X_4, ↓dhG_X_5, ↓dhG_X_6, ↓dhg_X_7, ↓dhq_X_7, ↓dhG_X_8, ↓dhG_X_9, ↓dhG_X_10, ↓dhG_X_11, ↓dhG_X_12, ↓dhG_X_13, ↓dhG_X_14, ↓dhG_X_15, ↓dhG_X_16, ↓dhi_P, ↓dhg_P_0, ↓dhq_P_0, ↓dhG_P_1, ↓dhG_P_2, ↓dhG_P_3, ↓dhg_P_4, ↓dhq_P_4, ↓dhG_P_5, ↓dhg_P_6, ↓dhq_P_6, ↓dha_193, ↓dhs_193, ↓dhl_193, Option.bind_some, ↓nm_eq, ↓sm_inl, ↓sm_inr, ↓dzo_0, ↓dzo_1, ↓drg_ok, ↓if_pos, ↓if_neg, if_pos, if_neg, if_true, if_false, Int.toNat_natCast, rg_ok, ↓bnd e', ↓bnd r0', dsp_0, xI6, xI3, if_true, if_false]
        · have r1' := r1 c0
          have hk1 : 1 ≤ kd ∧ kd ≤ 3 := by omega
          obtain ⟨hv, hva⟩ := tb_m hk1
          simp (disch := omega) only [f_L_value, f_X11_value, f_X10_worth_4, f_X10_worth_8, ↓bnd (reqK_1 hk _), ↓dhi_X, ↓dhG_X_0, ↓dhG_X_1, ↓dhG_X_2, ↓dhg_X_3, ↓dhq_X_3, ↓dhG_X_4, ↓dhG_X_5, ↓dhG_X_6, ↓dhg_X_7, ↓dhq_X_7, ↓dhG_X_8, ↓dhG_X_9, ↓dhG_X_10, ↓dhG_X_11, ↓dhG_X_12, ↓dhG_X_13, ↓dhG_X_14, ↓dhG_X_15, ↓dhG_X_16, ↓dhi_S hv, ↓dhg_S_0 hv, ↓dhq_S_0 hv, ↓dhG_S_1 hv, ↓dhg_S_2 hv, ↓dhq_S_2 hv, ↓dhG_S_3 hv, ↓dhG_S_4 hv, ↓dhG_S_5 hv, ↓dhg_S_6 hv, ↓dhq_S_6 hv, ↓dhg_S_7 hv, ↓dhq_S_7 hv, ↓dhg_S_8 hv, ↓dhq_S_8 hv, ↓dhg_S_9 hv, ↓dhq_S_9 hv, ↓dhG_S_10 hv, ↓dhG_S_11 hv, ↓dhg_S_12 hv, ↓dhq_S_12 hv, ↓dha_S_1 hv, ↓dhs_S_1 hv, ↓dhl_S_1 hv, ↓dha_S_2 hv, ↓dhs_S_2 hv, ↓dhl_S_2 hv, ↓dha_193, ↓dhs_193, ↓dhl_193, Option.bind_some, ↓nm_eq, ↓sm_inl, ↓sm_inr, ↓dzo_0, ↓dzo_1, ↓drg_ok, ↓if_pos, ↓if_neg, if_pos, if_neg, if_true, if_false, Int.toNat_natCast, rg_ok, ↓bnd e, ↓bnd r1', dsp_1 hk1, if_false, xI6, xI3, if_true]
      · simp (disch := omega) only [f_X12_value, b_X12_value_24, b_X12_value_25, ↓dhi_M, ↓dhG_M_0, ↓dhG_M_1, ↓dhG_M_2, ↓dhG_M_3, ↓dhG_M_4, ↓dhG_M_5, ↓dhG_M_6, ↓dhG_M_7, ↓dhG_M_8, ↓dhg_M_9, ↓dhq_M_9, ↓dhG_M_10, ↓dhG_M_11, ↓dhG_M_12, ↓dhg_M_13, ↓dhq_M_13, ↓dhG_M_14, ↓dhg_M_15, ↓dhq_M_15, ↓dhG_M_16, ↓dhg_M_17, ↓dhq_M_17, ↓dhg_M_18, ↓dhq_M_18, ↓dhG_M_19, ↓dhG_M_20, ↓dhG_M_21, ↓dhG_M_22, ↓dhG_M_23, ↓dhG_M_24, ↓dhg_M_25, ↓dhq_M_25, ↓dhG_M_26, ↓dhG_M_27, ↓dhG_M_28, ↓dhg_M_29, ↓dhq_M_29, ↓dhG_M_30, ↓dhG_M_31, ↓dhg_M_32, ↓dhq_M_32, ↓dhg_M_33, ↓dhq_M_33, ↓dhg_M_34, ↓dhq_M_34, ↓dhg_M_35, ↓dhq_M_35, ↓dhG_M_36, ↓dhG_M_37, ↓dhg_M_38, ↓dhq_M_38, ↓dhg_M_39, ↓dhq_M_39, ↓dhG_M_40, ↓dhG_M_41, ↓dhG_M_42, ↓dhG_M_43, ↓dhg_M_44, ↓dhq_M_44, Option.bind_some, ↓nm_eq, ↓sm_inl, ↓sm_inr, ↓dzo_0, ↓dzo_1, ↓drg_ok, ↓if_pos, ↓if_neg, if_pos, if_neg, if_true, if_false, Int.toNat_natCast, rg_ok, ↓bnd e2, ↓bnd (isK_1 hk _), ↓bnd (goes_2 1)]
