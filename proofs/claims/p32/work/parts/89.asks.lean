/-! ===== questions about tables and the sentence ===== -/
def isRd (g : GT) (w : Nat → Nat) (nw : Nat) (r : Int) : Prop := ∃ v : CV, vB v ∧ FIX (opC g w) g (fun v x y z => KL (PhC g w v x y) z) v (fun x y => x ≤ y ∧ y ≤ nw) ∧ r = (v (Gt g) 0 nw : Int)
def isRp (g : GT) (w : Nat → Nat) (nw : Nat) (x : Int) : Prop := ∃ d, grD 99 g d ∧ ((d (Gt g) = 1000 ∧ x = -1) ∨ (d (Gt g) ≠ 1000 ∧ ∃ v : CV, vB v ∧ FIX (opR g w) g (fun v x y z => KG (PhE g w v x y) z) v (fun x y => x ≤ y ∧ y ≤ nw) ∧ x = (v (Gt g) 0 nw : Int) ∧ v (Gt g) 0 nw ≤ 99))
section KQ_
variable {n : Nat} {u : Nat} {ps ps1 : List (Nat × List Nat)} {rs rs1 : List (Nat × List Int)} {t : List Int} {lv sd : Nat → Int} {w : Nat → Nat} {nw tp tq : Nat} {J L : Nat → Nat → Int} {kd : Nat}
theorem k_size (hn : 1000000000000000000000000000000 ≤ n) (h : JV u ps rs ps1 rs1 t lv sd w nw tp tq J L) (hk : kd ≤ 3) : ∃ J1 K, f_L_size n 0 (kd : Int) (hp u J L) = some (zsz (gtp ps tp) kd, hp u J1 K) ∧ CQO u (gtp ps tp) J L J1 K := by
  have hok := zsz_ok (kd := kd) h.gr
  obtain ⟨J0, K, e, q0, hT⟩ := c_tab (u := u) hn h.2.2 hk
  refine ⟨J0, K, ?_, q0⟩
  by_cases c0 : kd = 0
  · subst c0
    have he := (c_ext (u := u) hn hT).1
    have e' : f_X11_table n 0 ((0 : Nat) : Int) (hp u J L) = some (145, hp u J0 K) := e
    have hz : zsz (gtp ps tp) 0 = (zpn (gtp ps tp) 1 : Int) := rfl
    rw [hz]
    simp (disch := omega) only [f_L_size, f_X11_size, ↓bnd (reqK_1 hk _), ↓dhi_X, ↓dhG_X_0, ↓dhG_X_1, ↓dhG_X_2, ↓dhg_X_3, ↓dhq_X_3, ↓dhG_X_4, ↓dhG_X_5, ↓dhG_X_6, ↓dhg_X_7, ↓dhq_X_7, ↓dhG_X_8, ↓dhG_X_9, ↓dhG_X_10, ↓dhG_X_11, ↓dhG_X_12, ↓dhG_X_13, ↓dhG_X_14, ↓dhG_X_15, ↓dhG_X_16, ↓dhi_P, ↓dhg_P_0, ↓dhq_P_0, ↓dhG_P_1, ↓dhG_P_2, ↓dhG_P_3, ↓dhg_P_4, ↓dhq_P_4, ↓dhG_P_5, ↓dhg_P_6, ↓dhq_P_6, Option.bind_some, ↓nm_eq, ↓sm_inl, ↓sm_inr, ↓dzo_0, ↓dzo_1, ↓drg_ok, ↓if_pos, ↓if_neg, if_pos, if_neg, if_true, if_false, Int.toNat_natCast, rg_ok, ↓bnd e', ↓bnd he, dsp_0, if_true] <;> rfl
  · have hk1 : 1 ≤ kd ∧ kd ≤ 3 := by omega
    obtain ⟨hv, hva⟩ := tb_m hk1
    have he := c_ext9 (u := u) hT hk1
    simp (disch := omega) only [f_L_size, f_X11_size, ↓bnd (reqK_1 hk _), ↓dhi_X, ↓dhG_X_0, ↓dhG_X_1, ↓dhG_X_2, ↓dhg_X_3, ↓dhq_X_3, ↓dhG_X_4, ↓dhG_X_5, ↓dhG_X_6, ↓dhg_X_7, ↓dhq_X_7, ↓dhG_X_8, ↓dhG_X_9, ↓dhG_X_10, ↓dhG_X_11, ↓dhG_X_12, ↓dhG_X_13, ↓dhG_X_14, ↓dhG_X_15, ↓dhG_X_16, ↓dhi_S hv, ↓dhg_S_0 hv, ↓dhq_S_0 hv, ↓dhG_S_1 hv, ↓dhg_S_2 hv, ↓dhq_S_2 hv, ↓dhG_S_3 hv, ↓dhG_S_4 hv, ↓dhG_S_5 hv, ↓dhg_S_6 hv, ↓dhq_S_6 hv, ↓dhg_S_7 hv, ↓dhq_S_7 hv, ↓dhg_S_8 hv, ↓dhq_S_8 hv, ↓dhg_S_9 hv, ↓dhq_S_9 hv, ↓dhG_S_10 hv, ↓dhG_S_11 hv, ↓dhg_S_12 hv, ↓dhq_S_12 hv, ↓dha_S_1 hv, ↓dhs_S_1 hv, ↓dhl_S_1 hv, ↓dha_S_2 hv, ↓dhs_S_2 hv, ↓dhl_S_2 hv, Option.bind_some, ↓nm_eq, ↓sm_inl, ↓sm_inr, ↓dzo_0, ↓dzo_1, ↓drg_ok, ↓if_pos, ↓if_neg, if_pos, if_neg, if_true, if_false, Int.toNat_natCast, rg_ok, ↓bnd e, ↓bnd he, dsp_1 hk1, if_false] <;> rfl
theorem k_conflicts (hn : 1000000000000000000000000000000 ≤ n) (h : JV u ps rs ps1 rs1 t lv sd w nw tp tq J L) (hk : kd ≤ 3) : ∃ J1 K, f_L_conflicts n 0 (kd : Int) (hp u J L) = some (zcc (gtp ps tp) kd lv false, hp u J1 K) ∧ CQO u (gtp ps tp) J L J1 K := by
  have hok := zcc_ok (kd := kd) (lv := lv) (s := false) h.gr
  obtain ⟨J0, K, e, q0, hT⟩ := c_tab (u := u) hn h.2.2 hk
  by_cases c0 : kd = 0
  · subst c0
    refine ⟨J0, K, ?_, q0⟩
    have he := (c_ext (u := u) hn hT).2
    have e' : f_X11_table n 0 ((0 : Nat) : Int) (hp u J L) = some (145, hp u J0 K) := e
    have hz : zcc (gtp ps tp) 0 lv false = (zpn (gtp ps tp) 2 : Int) := rfl
    rw [hz]
    simp (disch := omega) only [f_L_conflicts, f_X11_conflicts, ↓bnd (reqK_1 hk _), ↓dhi_X, ↓dhG_X_0, ↓dhG_X_1, ↓dhG_X_2, ↓dhg_X_3, ↓dhq_X_3, ↓dhG_X_4, ↓dhG_X_5, ↓dhG_X_6, ↓dhg_X_7, ↓dhq_X_7, ↓dhG_X_8, ↓dhG_X_9, ↓dhG_X_10, ↓dhG_X_11, ↓dhG_X_12, ↓dhG_X_13, ↓dhG_X_14, ↓dhG_X_15, ↓dhG_X_16, ↓dhi_P, ↓dhg_P_0, ↓dhq_P_0, ↓dhG_P_1, ↓dhG_P_2, ↓dhG_P_3, ↓dhg_P_4, ↓dhq_P_4, ↓dhG_P_5, ↓dhg_P_6, ↓dhq_P_6, Option.bind_some, ↓nm_eq, ↓sm_inl, ↓sm_inr, ↓dzo_0, ↓dzo_1, ↓drg_ok, ↓if_pos, ↓if_neg, if_pos, if_neg, if_true, if_false, Int.toNat_natCast, rg_ok, ↓bnd e', ↓bnd he, dsp_0, if_true] <;> rfl
  · have hk1 : 1 ≤ kd ∧ kd ≤ 3 := by omega
    obtain ⟨hv, hva⟩ := tb_m hk1
    obtain ⟨J1, e1, q1, -⟩ := c_cnt9 (u := u) hn hT (h.clv.frq q0.1) hk1 false
    rw [b01_f] at e1
    refine ⟨J1, K, ?_, q0.tr q1⟩
    simp (disch := omega) only [f_L_conflicts, f_X11_conflicts, f_X9_clashes, ↓bnd (reqK_1 hk _), ↓dhi_X, ↓dhG_X_0, ↓dhG_X_1, ↓dhG_X_2, ↓dhg_X_3, ↓dhq_X_3, ↓dhG_X_4, ↓dhG_X_5, ↓dhG_X_6, ↓dhg_X_7, ↓dhq_X_7, ↓dhG_X_8, ↓dhG_X_9, ↓dhG_X_10, ↓dhG_X_11, ↓dhG_X_12, ↓dhG_X_13, ↓dhG_X_14, ↓dhG_X_15, ↓dhG_X_16, ↓dhi_S hv, ↓dhg_S_0 hv, ↓dhq_S_0 hv, ↓dhG_S_1 hv, ↓dhg_S_2 hv, ↓dhq_S_2 hv, ↓dhG_S_3 hv, ↓dhG_S_4 hv, ↓dhG_S_5 hv, ↓dhg_S_6 hv, ↓dhq_S_6 hv, ↓dhg_S_7 hv, ↓dhq_S_7 hv, ↓dhg_S_8 hv, ↓dhq_S_8 hv, ↓dhg_S_9 hv, ↓dhq_S_9 hv, ↓dhG_S_10 hv, ↓dhG_S_11 hv, ↓dhg_S_12 hv, ↓dhq_S_12 hv, ↓dha_S_1 hv, ↓dhs_S_1 hv, ↓dhl_S_1 hv, ↓dha_S_2 hv, ↓dhs_S_2 hv, ↓dhl_S_2 hv, Option.bind_some, ↓nm_eq, ↓sm_inl, ↓sm_inr, ↓dzo_0, ↓dzo_1, ↓drg_ok, ↓if_pos, ↓if_neg, if_pos, if_neg, if_true, if_false, Int.toNat_natCast, rg_ok, ↓bnd e, ↓bnd e1, dsp_1 hk1, if_false] <;> rfl
theorem k_settled (hn : 1000000000000000000000000000000 ≤ n) (h : JV u ps rs ps1 rs1 t lv sd w nw tp tq J L) (hk : kd ≤ 3) : ∃ J1 K, f_L_settled n 0 (kd : Int) (hp u J L) = some (zcc (gtp ps tp) kd lv true, hp u J1 K) ∧ CQO u (gtp ps tp) J L J1 K := by
  have hok := zcc_ok (kd := kd) (lv := lv) (s := true) h.gr
  obtain ⟨J0, K, e, q0, hT⟩ := c_tab (u := u) hn h.2.2 hk
  by_cases c0 : kd = 0
  · subst c0
    refine ⟨J0, K, ?_, q0⟩
    have e' : f_X11_table n 0 ((0 : Nat) : Int) (hp u J L) = some (145, hp u J0 K) := e
    have hz : zcc (gtp ps tp) 0 lv true = 0 := rfl
    rw [hz]
    simp (disch := omega) only [f_L_settled, f_X11_settled, f_X5_easedClashes, ↓bnd (reqK_1 hk _), ↓dhi_X, ↓dhG_X_0, ↓dhG_X_1, ↓dhG_X_2, ↓dhg_X_3, ↓dhq_X_3, ↓dhG_X_4, ↓dhG_X_5, ↓dhG_X_6, ↓dhg_X_7, ↓dhq_X_7, ↓dhG_X_8, ↓dhG_X_9, ↓dhG_X_10, ↓dhG_X_11, ↓dhG_X_12, ↓dhG_X_13, ↓dhG_X_14, ↓dhG_X_15, ↓dhG_X_16, ↓dhi_P, ↓dhg_P_0, ↓dhq_P_0, ↓dhG_P_1, ↓dhG_P_2, ↓dhG_P_3, ↓dhg_P_4, ↓dhq_P_4, ↓dhG_P_5, ↓dhg_P_6, ↓dhq_P_6, Option.bind_some, ↓nm_eq, ↓sm_inl, ↓sm_inr, ↓dzo_0, ↓dzo_1, ↓drg_ok, ↓if_pos, ↓if_neg, if_pos, if_neg, if_true, if_false, Int.toNat_natCast, rg_ok, ↓bnd e', dsp_0, if_true] <;> rfl
  · have hk1 : 1 ≤ kd ∧ kd ≤ 3 := by omega
    obtain ⟨hv, hva⟩ := tb_m hk1
    obtain ⟨J1, e1, q1, -⟩ := c_cnt9 (u := u) hn hT (h.clv.frq q0.1) hk1 true
    rw [b01_t] at e1
    refine ⟨J1, K, ?_, q0.tr q1⟩
    simp (disch := omega) only [f_L_settled, f_X11_settled, f_X9_easedClashes, ↓bnd (reqK_1 hk _), ↓dhi_X, ↓dhG_X_0, ↓dhG_X_1, ↓dhG_X_2, ↓dhg_X_3, ↓dhq_X_3, ↓dhG_X_4, ↓dhG_X_5, ↓dhG_X_6, ↓dhg_X_7, ↓dhq_X_7, ↓dhG_X_8, ↓dhG_X_9, ↓dhG_X_10, ↓dhG_X_11, ↓dhG_X_12, ↓dhG_X_13, ↓dhG_X_14, ↓dhG_X_15, ↓dhG_X_16, ↓dhi_S hv, ↓dhg_S_0 hv, ↓dhq_S_0 hv, ↓dhG_S_1 hv, ↓dhg_S_2 hv, ↓dhq_S_2 hv, ↓dhG_S_3 hv, ↓dhG_S_4 hv, ↓dhG_S_5 hv, ↓dhg_S_6 hv, ↓dhq_S_6 hv, ↓dhg_S_7 hv, ↓dhq_S_7 hv, ↓dhg_S_8 hv, ↓dhq_S_8 hv, ↓dhg_S_9 hv, ↓dhq_S_9 hv, ↓dhG_S_10 hv, ↓dhG_S_11 hv, ↓dhg_S_12 hv, ↓dhq_S_12 hv, ↓dha_S_1 hv, ↓dhs_S_1 hv, ↓dhl_S_1 hv, ↓dha_S_2 hv, ↓dhs_S_2 hv, ↓dhl_S_2 hv, Option.bind_some, ↓nm_eq, ↓sm_inl, ↓sm_inr, ↓dzo_0, ↓dzo_1, ↓drg_ok, ↓if_pos, ↓if_neg, if_pos, if_neg, if_true, if_false, Int.toNat_natCast, rg_ok, ↓bnd e, ↓bnd e1, dsp_1 hk1, if_false] <;> rfl
theorem k_chosen (hn : 1000000000000000000000000000000 ≤ n) (h : JV u ps rs ps1 rs1 t lv sd w nw tp tq J L) : ∃ J1 K, f_X11_chosen n 0 (hp u J L) = some (zch (gtp ps tp) lv 4, hp u J1 K) ∧ CQO u (gtp ps tp) J L J1 K := by
  obtain ⟨J1, K, e, q⟩ := c_chosen (u := u) (lv := lv) (sd := sd) hn 4 n 0 J L (by omega) (by omega) h.2.2 h.clv
  exact ⟨J1, K, e, q⟩
theorem k_parse (hn : 1000000000000000000000000000000 ≤ n) (h : JV u ps rs ps1 rs1 t lv sd w nw tp tq J L) (hk : kd ≤ 3) : ∃ J1 K, f_L_parse n 0 (kd : Int) (hp u J L) = some ((zpr (gtp ps tp) kd lv sd w).1, hp u J1 K) ∧ CQO u (gtp ps tp) J L J1 K := by
  have hok := zpr_ok (g := gtp ps tp) (kd := kd) (lv := lv) (sd := sd) h.sw
  obtain ⟨J0, K, e, q0, hT⟩ := c_tab (u := u) hn h.2.2 hk
  obtain ⟨J1, r0, r1, q1, -⟩ := c_run (u := u) hn hT (h.clv.frq q0.1) (h.cse.frq q0.1) h.sw hk
  refine ⟨J1, K, ?_, q0.tr q1⟩
  by_cases c0 : kd = 0
  · have r0' := r0 c0
    subst c0
    have e' : f_X11_table n 0 ((0 : Nat) : Int) (hp u J L) = some (145, hp u J0 K) := e
    simp (disch := omega) only [f_L_parse, f_X11_parse, ↓bnd (reqK_1 hk _), ↓dhi_X, ↓dhG_X_0, ↓dhG_X_1, ↓dhG_X_2, ↓dhg_X_3, ↓dhq_X_3, ↓dhG_X_4, ↓dhG_X_5, ↓dhG_X_6, ↓dhg_X_7, ↓dhq_X_7, ↓dhG_X_8, ↓dhG_X_9, ↓dhG_X_10, ↓dhG_X_11, ↓dhG_X_12, ↓dhG_X_13, ↓dhG_X_14, ↓dhG_X_15, ↓dhG_X_16, ↓dhi_P, ↓dhg_P_0, ↓dhq_P_0, ↓dhG_P_1, ↓dhG_P_2, ↓dhG_P_3, ↓dhg_P_4, ↓dhq_P_4, ↓dhG_P_5, ↓dhg_P_6, ↓dhq_P_6, Option.bind_some, ↓nm_eq, ↓sm_inl, ↓sm_inr, ↓dzo_0, ↓dzo_1, ↓drg_ok, ↓if_pos, ↓if_neg, if_pos, if_neg, if_true, if_false, Int.toNat_natCast, rg_ok, ↓bnd e', ↓bnd r0', dsp_0, if_true] <;> rfl
  · have r1' := r1 c0
    have hk1 : 1 ≤ kd ∧ kd ≤ 3 := by omega
    obtain ⟨hv, hva⟩ := tb_m hk1
    simp (disch := omega) only [f_L_parse, f_X11_parse, ↓bnd (reqK_1 hk _), ↓dhi_X, ↓dhG_X_0, ↓dhG_X_1, ↓dhG_X_2, ↓dhg_X_3, ↓dhq_X_3, ↓dhG_X_4, ↓dhG_X_5, ↓dhG_X_6, ↓dhg_X_7, ↓dhq_X_7, ↓dhG_X_8, ↓dhG_X_9, ↓dhG_X_10, ↓dhG_X_11, ↓dhG_X_12, ↓dhG_X_13, ↓dhG_X_14, ↓dhG_X_15, ↓dhG_X_16, ↓dhi_S hv, ↓dhg_S_0 hv, ↓dhq_S_0 hv, ↓dhG_S_1 hv, ↓dhg_S_2 hv, ↓dhq_S_2 hv, ↓dhG_S_3 hv, ↓dhG_S_4 hv, ↓dhG_S_5 hv, ↓dhg_S_6 hv, ↓dhq_S_6 hv, ↓dhg_S_7 hv, ↓dhq_S_7 hv, ↓dhg_S_8 hv, ↓dhq_S_8 hv, ↓dhg_S_9 hv, ↓dhq_S_9 hv, ↓dhG_S_10 hv, ↓dhG_S_11 hv, ↓dhg_S_12 hv, ↓dhq_S_12 hv, ↓dha_S_1 hv, ↓dhs_S_1 hv, ↓dhl_S_1 hv, ↓dha_S_2 hv, ↓dhs_S_2 hv, ↓dhl_S_2 hv, Option.bind_some, ↓nm_eq, ↓sm_inl, ↓sm_inr, ↓dzo_0, ↓dzo_1, ↓drg_ok, ↓if_pos, ↓if_neg, if_pos, if_neg, if_true, if_false, Int.toNat_natCast, rg_ok, ↓bnd e, ↓bnd r1', dsp_1 hk1, if_false] <;> rfl
theorem k_value (hn : 1000000000000000000000000000000 ≤ n) (h : JV u ps rs ps1 rs1 t lv sd w nw tp tq J L) (hk : kd ≤ 3) : ∃ J1 K, f_L_value n 0 (kd : Int) (hp u J L) = some (if (zpr (gtp ps tp) kd lv sd w).1 = -1 then (zpr (gtp ps tp) kd lv sd w).2 else -103, hp u J1 K) ∧ CQO u (gtp ps tp) J L J1 K := by
  have hok := zpr_ok (g := gtp ps tp) (kd := kd) (lv := lv) (sd := sd) h.sw
  obtain ⟨J0, K, e, q0, hT⟩ := c_tab (u := u) hn h.2.2 hk
  obtain ⟨J1, r0, r1, q1, hv1⟩ := c_run (u := u) hn hT (h.clv.frq q0.1) (h.cse.frq q0.1) h.sw hk
  refine ⟨J1, K, ?_, q0.tr q1⟩
  by_cases cv : (zpr (gtp ps tp) kd lv sd w).1 = -1
  · rw [if_pos cv]
    have hw1 := hv1 cv
    by_cases c0 : kd = 0
    · have r0' := r0 c0
      rw [cv] at r0'
      subst c0
      have e' : f_X11_table n 0 ((0 : Nat) : Int) (hp u J L) = some (145, hp u J0 K) := e
      have hw1' : J1 145 0 = (zpr (gtp ps tp) 0 lv sd w).2 := hw1
      simp (disch := omega) only [f_L_value, f_X11_value, f_X10_worth_4, f_X10_worth_8, ↓bnd (reqK_1 hk _), ↓dhi_X, ↓dhG_X_0, ↓dhG_X_1, ↓dhG_X_2, ↓dhg_X_3, ↓dhq_X_3, ↓dhG_X_4, ↓dhG_X_5, ↓dhG_X_6, ↓dhg_X_7, ↓dhq_X_7, ↓dhG_X_8, ↓dhG_X_9, ↓dhG_X_10, ↓dhG_X_11, ↓dhG_X_12, ↓dhG_X_13, ↓dhG_X_14, ↓dhG_X_15, ↓dhG_X_16, ↓dhi_P, ↓dhg_P_0, ↓dhq_P_0, ↓dhG_P_1, ↓dhG_P_2, ↓dhG_P_3, ↓dhg_P_4, ↓dhq_P_4, ↓dhG_P_5, ↓dhg_P_6, ↓dhq_P_6, Option.bind_some, ↓nm_eq, ↓sm_inl, ↓sm_inr, ↓dzo_0, ↓dzo_1, ↓drg_ok, ↓if_pos, ↓if_neg, if_pos, if_neg, if_true, if_false, Int.toNat_natCast, rg_ok, ↓bnd e', ↓bnd r0', dsp_0, if_true, hw1'] <;> rfl
    · have r1' := r1 c0
      rw [cv] at r1'
      have hk1 : 1 ≤ kd ∧ kd ≤ 3 := by omega
      obtain ⟨hv, hva⟩ := tb_m hk1
      simp (disch := omega) only [f_L_value, f_X11_value, f_X10_worth_4, f_X10_worth_8, ↓bnd (reqK_1 hk _), ↓dhi_X, ↓dhG_X_0, ↓dhG_X_1, ↓dhG_X_2, ↓dhg_X_3, ↓dhq_X_3, ↓dhG_X_4, ↓dhG_X_5, ↓dhG_X_6, ↓dhg_X_7, ↓dhq_X_7, ↓dhG_X_8, ↓dhG_X_9, ↓dhG_X_10, ↓dhG_X_11, ↓dhG_X_12, ↓dhG_X_13, ↓dhG_X_14, ↓dhG_X_15, ↓dhG_X_16, ↓dhi_S hv, ↓dhg_S_0 hv, ↓dhq_S_0 hv, ↓dhG_S_1 hv, ↓dhg_S_2 hv, ↓dhq_S_2 hv, ↓dhG_S_3 hv, ↓dhG_S_4 hv, ↓dhG_S_5 hv, ↓dhg_S_6 hv, ↓dhq_S_6 hv, ↓dhg_S_7 hv, ↓dhq_S_7 hv, ↓dhg_S_8 hv, ↓dhq_S_8 hv, ↓dhg_S_9 hv, ↓dhq_S_9 hv, ↓dhG_S_10 hv, ↓dhG_S_11 hv, ↓dhg_S_12 hv, ↓dhq_S_12 hv, ↓dha_S_1 hv, ↓dhs_S_1 hv, ↓dhl_S_1 hv, ↓dha_S_2 hv, ↓dhs_S_2 hv, ↓dhl_S_2 hv, Option.bind_some, ↓nm_eq, ↓sm_inl, ↓sm_inr, ↓dzo_0, ↓dzo_1, ↓drg_ok, ↓if_pos, ↓if_neg, if_pos, if_neg, if_true, if_false, Int.toNat_natCast, rg_ok, ↓bnd e, ↓bnd r1', dsp_1 hk1, if_false, if_true, hw1] <;> rfl
  · rw [if_neg cv]
    by_cases c0 : kd = 0
    · have r0' := r0 c0
      subst c0
      have e' : f_X11_table n 0 ((0 : Nat) : Int) (hp u J L) = some (145, hp u J0 K) := e
      simp (disch := omega) only [f_L_value, f_X11_value, f_X10_worth_4, f_X10_worth_8, ↓bnd (reqK_1 hk _), ↓dhi_X, ↓dhG_X_0, ↓dhG_X_1, ↓dhG_X_2, ↓dhg_X_3, ↓dhq_X_3, ↓dhG_X_4, ↓dhG_X_5, ↓dhG_X_6, ↓dhg_X_7, ↓dhq_X_7, ↓dhG_X_8, ↓dhG_X_9, ↓dhG_X_10, ↓dhG_X_11, ↓dhG_X_12, ↓dhG_X_13, ↓dhG_X_14, ↓dhG_X_15, ↓dhG_X_16, ↓dhi_P, ↓dhg_P_0, ↓dhq_P_0, ↓dhG_P_1, ↓dhG_P_2, ↓dhG_P_3, ↓dhg_P_4, ↓dhq_P_4, ↓dhG_P_5, ↓dhg_P_6, ↓dhq_P_6, Option.bind_some, ↓nm_eq, ↓sm_inl, ↓sm_inr, ↓dzo_0, ↓dzo_1, ↓drg_ok, ↓if_pos, ↓if_neg, if_pos, if_neg, if_true, if_false, Int.toNat_natCast, rg_ok, ↓bnd e', ↓bnd r0', dsp_0, xI6, xI3, if_true, if_false]
    · have r1' := r1 c0
      have hk1 : 1 ≤ kd ∧ kd ≤ 3 := by omega
      obtain ⟨hv, hva⟩ := tb_m hk1
      simp (disch := omega) only [f_L_value, f_X11_value, f_X10_worth_4, f_X10_worth_8, ↓bnd (reqK_1 hk _), ↓dhi_X, ↓dhG_X_0, ↓dhG_X_1, ↓dhG_X_2, ↓dhg_X_3, ↓dhq_X_3, ↓dhG_X_4, ↓dhG_X_5, ↓dhG_X_6, ↓dhg_X_7, ↓dhq_X_7, ↓dhG_X_8, ↓dhG_X_9, ↓dhG_X_10, ↓dhG_X_11, ↓dhG_X_12, ↓dhG_X_13, ↓dhG_X_14, ↓dhG_X_15, ↓dhG_X_16, ↓dhi_S hv, ↓dhg_S_0 hv, ↓dhq_S_0 hv, ↓dhG_S_1 hv, ↓dhg_S_2 hv, ↓dhq_S_2 hv, ↓dhG_S_3 hv, ↓dhG_S_4 hv, ↓dhG_S_5 hv, ↓dhg_S_6 hv, ↓dhq_S_6 hv, ↓dhg_S_7 hv, ↓dhq_S_7 hv, ↓dhg_S_8 hv, ↓dhq_S_8 hv, ↓dhg_S_9 hv, ↓dhq_S_9 hv, ↓dhG_S_10 hv, ↓dhG_S_11 hv, ↓dhg_S_12 hv, ↓dhq_S_12 hv, ↓dha_S_1 hv, ↓dhs_S_1 hv, ↓dhl_S_1 hv, ↓dha_S_2 hv, ↓dhs_S_2 hv, ↓dhl_S_2 hv, Option.bind_some, ↓nm_eq, ↓sm_inl, ↓sm_inr, ↓dzo_0, ↓dzo_1, ↓drg_ok, ↓if_pos, ↓if_neg, if_pos, if_neg, if_true, if_false, Int.toNat_natCast, rg_ok, ↓bnd e, ↓bnd r1', dsp_1 hk1, xI6, xI3, if_true, if_false]
theorem k_readings (hn : 1000000000000000000000000000000 ≤ n) (h : JV u ps rs ps1 rs1 t lv sd w nw tp tq J L) : ∃ (r : Int) (J1 K : Nat → Nat → Int), f_X11_readings n 0 (hp u J L) = some (r, hp u J1 K) ∧ CQO u (gtp ps tp) J L J1 K ∧ isRd (gtp ps tp) w nw r := by
  have hg := h.gr
  have hnw := h.sw.1
  obtain ⟨J1, K, e, q, hF, hT⟩ := h.2.2.lrn (u := u) hn
  obtain ⟨J2, v, e2, f2, hv, hx⟩ := X1_measure_1 (u := u) hn (kok_C (w := w) (nw := nw) hg) hnw hT (h.cse.frq q.1) h.sw
  have q2 : CQO u (gtp ps tp) J1 K J2 K := ⟨f2.up (fun a z => by simp [CL1] at z; simp [CLQ]; omega), Fr.rf, (hT.own1 f2).1⟩
  refine ⟨(v (Gt (gtp ps tp)) 0 nw : Int), J2, K, ?_, q.tr q2, v, hv, hx, rfl⟩
  have e07 : J1 0 7 = (nw : Int) := by rw [q.1 0 (by decide)]; exact h.h7
  have d1 : (gi_S (hp u J1 K) 157 = (0, 1)) = True := eq_true (hS 157 rfl (by decide))
  simp (disch := omega) only [f_X11_readings, ↓dhi_X, ↓dhG_X_0, ↓dhG_X_1, ↓dhG_X_2, ↓dhg_X_3, ↓dhq_X_3, ↓dhG_X_4, ↓dhG_X_5, ↓dhG_X_6, ↓dhg_X_7, ↓dhq_X_7, ↓dhG_X_8, ↓dhG_X_9, ↓dhG_X_10, ↓dhG_X_11, ↓dhG_X_12, ↓dhG_X_13, ↓dhG_X_14, ↓dhG_X_15, ↓dhG_X_16, ↓dhi_F, ↓dhG_F_0, ↓dhg_F_1, ↓dhq_F_1, ↓dhg_F_2, ↓dhq_F_2, ↓dhg_F_3, ↓dhq_F_3, ↓dhg_F_4, ↓dhq_F_4, ↓dhG_F_5, ↓dhG_F_6, ↓dhG_F_7, ↓dhG_F_8, ↓dhG_F_9, ↓dhg_F_10, ↓dhq_F_10, ↓dhG_F_11, ↓dhG_F_12, ↓dhG_F_13, ↓dhi_C, ↓dhG_C_0, ↓dhG_C_1, ↓dhG_C_2, ↓dhG_C_3, ↓dhG_C_4, Option.bind_some, ↓nm_eq, ↓sm_inl, ↓sm_inr, ↓dzo_0, ↓dzo_1, ↓drg_ok, ↓if_pos, ↓if_neg, if_pos, if_neg, if_true, if_false, Int.toNat_natCast, rg_ok, ↓bnd e, e07, d1, if_true, ↓bnd e2]
theorem k_repair (hn : 1000000000000000000000000000000 ≤ n) (h : JV u ps rs ps1 rs1 t lv sd w nw tp tq J L) : ∃ (x : Int) (J1 K : Nat → Nat → Int), f_X11_repair n 0 (hp u J L) = some (x, hp u J1 K) ∧ CQO u (gtp ps tp) J L J1 K ∧ isRp (gtp ps tp) w nw x := by
  have hg := h.gr
  have hgm := gU_mem u
  have hnw := h.sw.1
  have ht7 := hg.2.1
  have ht : Gt (gtp ps tp) < 16 := by omega
  obtain ⟨J1, K, e, q, hF, hT⟩ := h.2.2.lrn (u := u) hn
  have et := X4_top (u := u) (L := K) hgm hT.1.1.1
  rw [hT.1.1.2] at et
  have ep := X3_isProductive (u := u) (L := K) (J := J1) hF ht
  have hd := hF.2.2.2.2.2.2.2.1.2
  by_cases c : cLe J1 (Gt (gtp ps tp)) = 1000
  · rw [if_pos c] at ep
    refine ⟨-1, J1, K, ?_, q, cLe J1, hd, Or.inl ⟨c, rfl⟩⟩
    simp (disch := omega) only [f_X11_repair, ↓dhi_X, ↓dhG_X_0, ↓dhG_X_1, ↓dhG_X_2, ↓dhg_X_3, ↓dhq_X_3, ↓dhG_X_4, ↓dhG_X_5, ↓dhG_X_6, ↓dhg_X_7, ↓dhq_X_7, ↓dhG_X_8, ↓dhG_X_9, ↓dhG_X_10, ↓dhG_X_11, ↓dhG_X_12, ↓dhG_X_13, ↓dhG_X_14, ↓dhG_X_15, ↓dhG_X_16, ↓dhi_F, ↓dhG_F_0, ↓dhg_F_1, ↓dhq_F_1, ↓dhg_F_2, ↓dhq_F_2, ↓dhg_F_3, ↓dhq_F_3, ↓dhg_F_4, ↓dhq_F_4, ↓dhG_F_5, ↓dhG_F_6, ↓dhG_F_7, ↓dhG_F_8, ↓dhG_F_9, ↓dhg_F_10, ↓dhq_F_10, ↓dhG_F_11, ↓dhG_F_12, ↓dhG_F_13, ↓dhi_G hgm, ↓dhG_G_0 hgm, ↓dhG_G_1 hgm, ↓dhG_G_2 hgm, ↓dhg_G_3 hgm, ↓dhq_G_3 hgm, ↓dhG_G_4 hgm, ↓dhG_G_5 hgm, ↓dhg_G_6 hgm, ↓dhq_G_6 hgm, ↓dhg_G_7 hgm, ↓dhq_G_7 hgm, ↓dhG_G_8 hgm, ↓dhG_G_9 hgm, ↓dha_G_1 hgm, ↓dhs_G_1 hgm, ↓dhl_G_1 hgm, ↓dha_G_2 hgm, ↓dhs_G_2 hgm, ↓dhl_G_2 hgm, ↓dha_G_3 hgm, ↓dhs_G_3 hgm, ↓dhl_G_3 hgm, ↓dha_G_4 hgm, ↓dhl_G_4 hgm, ↓dha_G_5 hgm, ↓dhs_G_5 hgm, ↓dhl_G_5 hgm, Option.bind_some, ↓nm_eq, ↓sm_inl, ↓sm_inr, ↓dzo_0, ↓dzo_1, ↓drg_ok, ↓if_pos, ↓if_neg, if_pos, if_neg, if_true, if_false, Int.toNat_natCast, rg_ok, ↓bnd e, ↓bnd et, ↓bnd ep]
  · obtain ⟨J2, v, e2, f2, hv, hx⟩ := X1_measure_5 (u := u) hn (kok_R (w := w) (nw := nw) hg hnw) hnw hT (h.cse.frq q.1) h.sw
    have q2 : CQO u (gtp ps tp) J1 K J2 K := ⟨f2.up (fun a z => by simp [CL5] at z; simp [CLQ]; omega), Fr.rf, (hT.own5 f2).1⟩
    have h99 := prod_99 hg hnw hv hx hd ht c (Nat.zero_le _) (Nat.le_refl nw)
    refine ⟨(v (Gt (gtp ps tp)) 0 nw : Int), J2, K, ?_, q.tr q2, cLe J1, hd, Or.inr ⟨c, v, hv, hx, rfl, h99⟩⟩
    rw [if_neg c] at ep
    have e07 : J1 0 7 = (nw : Int) := by rw [q.1 0 (by decide)]; exact h.h7
    have d1 : (gi_S (hp u J1 K) 159 = (0, 1)) = False := eq_false (fun z => by rw [hS 159 (s := (0, 5)) rfl (by decide)] at z; exact absurd z (by decide))
    simp (disch := omega) only [f_X11_repair, ↓dhi_X, ↓dhG_X_0, ↓dhG_X_1, ↓dhG_X_2, ↓dhg_X_3, ↓dhq_X_3, ↓dhG_X_4, ↓dhG_X_5, ↓dhG_X_6, ↓dhg_X_7, ↓dhq_X_7, ↓dhG_X_8, ↓dhG_X_9, ↓dhG_X_10, ↓dhG_X_11, ↓dhG_X_12, ↓dhG_X_13, ↓dhG_X_14, ↓dhG_X_15, ↓dhG_X_16, ↓dhi_F, ↓dhG_F_0, ↓dhg_F_1, ↓dhq_F_1, ↓dhg_F_2, ↓dhq_F_2, ↓dhg_F_3, ↓dhq_F_3, ↓dhg_F_4, ↓dhq_F_4, ↓dhG_F_5, ↓dhG_F_6, ↓dhG_F_7, ↓dhG_F_8, ↓dhG_F_9, ↓dhg_F_10, ↓dhq_F_10, ↓dhG_F_11, ↓dhG_F_12, ↓dhG_F_13, ↓dhi_D, ↓dhG_D_0, ↓dhG_D_1, ↓dhG_D_2, ↓dhG_D_3, ↓dhG_D_4, ↓dhi_G hgm, ↓dhG_G_0 hgm, ↓dhG_G_1 hgm, ↓dhG_G_2 hgm, ↓dhg_G_3 hgm, ↓dhq_G_3 hgm, ↓dhG_G_4 hgm, ↓dhG_G_5 hgm, ↓dhg_G_6 hgm, ↓dhq_G_6 hgm, ↓dhg_G_7 hgm, ↓dhq_G_7 hgm, ↓dhG_G_8 hgm, ↓dhG_G_9 hgm, ↓dha_G_1 hgm, ↓dhs_G_1 hgm, ↓dhl_G_1 hgm, ↓dha_G_2 hgm, ↓dhs_G_2 hgm, ↓dhl_G_2 hgm, ↓dha_G_3 hgm, ↓dhs_G_3 hgm, ↓dhl_G_3 hgm, ↓dha_G_4 hgm, ↓dhl_G_4 hgm, ↓dha_G_5 hgm, ↓dhs_G_5 hgm, ↓dhl_G_5 hgm, Option.bind_some, ↓nm_eq, ↓sm_inl, ↓sm_inr, ↓dzo_0, ↓dzo_1, ↓drg_ok, ↓if_pos, ↓if_neg, if_pos, if_neg, if_true, if_false, Int.toNat_natCast, rg_ok, ↓bnd e, ↓bnd et, ↓bnd ep, e07, d1, if_false, ↓bnd e2]
end KQ_
/-! what these say of each other -/
section PU_
variable {g : GT} {w w' : Nat → Nat} {nw : Nat}
theorem rd_rp (hg : GR g) (hnw : nw ≤ 12) {r x : Int} (h1 : isRd g w nw r) (h2 : isRp g w nw x) : (0 ≤ r ∧ r ≤ 100) ∧ (-1 ≤ x ∧ x ≤ 99) ∧ (0 < r ↔ x = 0) := by
  obtain ⟨v, hv, hF, rfl⟩ := h1
  have ht := hg.2.1
  have h100 : v (Gt g) 0 nw ≤ 100 := (hF 0 nw ⟨Nat.zero_le _, Nat.le_refl _⟩).2.1 (Gt g)
  obtain ⟨d, hd, ⟨c, rfl⟩ | ⟨c, v2, hv2, hF2, rfl, h99⟩⟩ := h2
  · have := read_prod hg hF hd (nw + 1) 0 nw (by omega) (Nat.zero_le _) (Nat.le_refl _) (Gt g) (by omega)
    refine ⟨⟨by omega, by omega⟩, by omega, ?_, fun z => absurd z (by decide)⟩
    intro z
    exact absurd c (this (by omega))
  · have := pzero hg hF hF2 (nw + 1) 0 nw (by omega) (Nat.zero_le _) (Nat.le_refl _) (Gt g) (by omega)
    omega
theorem rp_lip (hg : GR g) {q : Nat} (hI : INS w w' q) (hq : q ≤ nw) (hnw : nw + 1 ≤ 12) {x x' : Int} (h : isRp g w nw x) (h' : isRp g w' (nw + 1) x') : (x = -1 ↔ x' = -1) ∧ (x ≠ -1 → x - x' ≤ 1 ∧ x' - x ≤ 1) := by
  have ht := hg.2.1
  obtain ⟨d, hd, h⟩ := h
  obtain ⟨d', hd', h'⟩ := h'
  have ed := grD_uniq hd hd' (Gt g) (by omega)
  rcases h with ⟨c, rfl⟩ | ⟨c, v, hv, hF, rfl, h99⟩
  · rcases h' with ⟨c', rfl⟩ | ⟨c', -⟩
    · exact ⟨Iff.rfl, fun z => absurd rfl z⟩
    · exact absurd (ed ▸ c) c'
  · rcases h' with ⟨c', -⟩ | ⟨c', v', hv', hF', rfl, h99'⟩
    · exact absurd (ed ▸ c') c
    · have := rep_lip hg hI hq hnw (SF9_of hg (by omega) hv hF) (SF9_of hg hnw hv' hF') (a := Gt g) (by omega)
      have e1 : fi v (Gt g) 0 nw = v (Gt g) 0 nw := mn_id h99
      have e2 : fi v' (Gt g) 0 (nw + 1) = v' (Gt g) 0 (nw + 1) := mn_id h99'
      rw [e1, e2] at this
      omega
variable {kd : Nat} {lv sd : Nat → Int}
theorem zpr_sound (hg : GR g) (hw : SW w nw) (h : (zpr g kd lv sd w).1 = -1) : ∃ n : Nat, (zpr g kd lv sd w).2 = (n : Int) ∧ Dv g w (Gt g) 0 nw n := by
  unfold zpr at h ⊢
  by_cases c : kd = 0
  · rw [if_pos c] at h ⊢
    exact prun_sound hg hw h
  · rw [if_neg c] at h ⊢
    exact zrun_sound hg hw h
theorem lrq_le (hg : GR g) (hw : SW w nw) : ∀ (r : Nat) (st wo : Nat → Nat) (t pl : Nat), pl ≤ nw → (lrq g kd lv sd w r st wo t pl).1 ≤ (nw : Int)
  | 0, st, wo, t, pl, hp => by
    unfold lrq
    repeat' split
    all_goals first | (show (-1 : Int) ≤ _; omega) | (show (pl : Int) ≤ _; omega) | (show (-3 : Int) ≤ _; omega)
  | r + 1, st, wo, t, pl, hp => by
    unfold lrq
    split
    · show (-1 : Int) ≤ _; omega
    · split
      · show (pl : Int) ≤ _; omega
      · split
        · next c24 =>
          refine lrq_le hg hw r _ _ _ _ ?_
          rcases zat_c (g := g) (kd := kd) (lv := lv) (sd := sd) (t := st t) (y := w pl) hg with c | c | ⟨c, hs⟩ | ⟨q, c, hq, -⟩
          · omega
          · omega
          · have := hw.lt (zdb_t.mp hs).1
            omega
          · have := hg.1; omega
        · exact lrq_le hg hw r _ _ _ _ hp
theorem pst_rg {β : List Nat} {pl : Nat} : pst g w β pl = -1 ∨ pst g w β pl = -2 ∨ pst g w β pl = (pl : Int) := by
  cases β with
  | nil => rw [pst_nil]; split; exact Or.inl rfl; exact Or.inr (Or.inr rfl)
  | cons s β =>
    rw [pst_cons]
    repeat' split
    all_goals first | exact Or.inl rfl | exact Or.inr (Or.inl rfl) | exact Or.inr (Or.inr rfl)
theorem pq_le (hg : GR g) (hw : SW w nw) : ∀ (r : Nat) {β : List Nat} {es : List (Bool × Nat)} {pl : Nat}, pX g w es β pl → pl ≤ nw → (pq g w r β es pl).1 ≤ (nw : Int) := by
  intro r
  have fin : ∀ {β : List Nat} {pl : Nat}, pl ≤ nw → pst g w β pl ≤ (nw : Int) := by
    intro β pl hp
    rcases pst_rg (g := g) (w := w) (β := β) (pl := pl) with z | z | z <;> rw [z] <;> omega
  induction r with
  | zero =>
    intro β es pl h hp
    by_cases c : pst g w β pl = -2
    · rw [pq_0 c]; show (-3 : Int) ≤ _; omega
    · rw [pq_end 0 c]; exact fin hp
  | succ r ih =>
    intro β es pl h hp
    by_cases c : pst g w β pl = -2
    · rw [pq_s r c]
      refine ih (pX_step h (pX_mem hg h) c) ?_
      split
      · exact hp
      · next hne =>
        cases β with
        | nil =>
          rw [pst_nil] at c
          split at c
          · exact absurd c (by decide)
          · have c : (pl : Int) = -2 := c
            omega
        | cons s β =>
          by_cases c3 : s < 16
          · rw [pst_cons] at c
            rw [if_pos c3] at c
            by_cases c2 : s = w pl
            · have := hw.lt (i := pl) (by
                rcases pX_mem hg h s List.mem_cons_self with q | q
                · omega
                · omega)
              omega
            · rw [if_neg c2] at c
              have c : (pl : Int) = -2 := c
              omega
          · exact absurd (show (pne g w (s :: β) pl).1 = true by rw [show pne g w (s :: β) pl = (true, (zpl g (s - 16) (w pl)).toNat) from if_neg c3]) hne
    · rw [pq_end (r + 1) c]; exact fin hp
theorem zpr_le (hg : GR g) (hw : SW w nw) : (zpr g kd lv sd w).1 ≤ (nw : Int) := by
  unfold zpr
  split
  · exact pq_le hg hw 300 (β := [16 + Gt g]) (es := []) (pl := 0) ⟨rfl, rfl⟩ (Nat.zero_le _)
  · unfold zrun
    split
    · show (-2 : Int) ≤ _; omega
    · exact lrq_le hg hw 300 _ _ 0 0 (Nat.zero_le _)
/-- what is accepted has a reading; with one reading alone the values are one -/
theorem zpr_read (hg : GR g) (hw : SW w nw) {r : Int} (hr : isRd g w nw r) (h : (zpr g kd lv sd w).1 = -1) : 0 < r ∧ 0 ≤ (zpr g kd lv sd w).2 ∧ (zpr g kd lv sd w).2 < 1009 := by
  obtain ⟨m, e, hd⟩ := zpr_sound hg hw h
  obtain ⟨v, hv, hF, rfl⟩ := hr
  have := Dv_cnt hg hF hd (Nat.le_refl _)
  have := Dv_lt hd
  omega
theorem zpr_one (hg : GR g) (hw : SW w nw) (hr : isRd g w nw 1) {kd' : Nat} (h : (zpr g kd lv sd w).1 = -1) (h' : (zpr g kd' lv sd w).1 = -1) : (zpr g kd lv sd w).2 = (zpr g kd' lv sd w).2 := by
  obtain ⟨m, e, hd⟩ := zpr_sound hg hw h
  obtain ⟨m', e', hd'⟩ := zpr_sound hg hw h'
  obtain ⟨v, hv, hF, e1⟩ := hr
  have := Dv_uni hg hF hd hd' (Nat.le_refl _) (by omega)
  rw [e, e', this]
end PU_
