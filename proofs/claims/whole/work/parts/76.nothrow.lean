/-! ===== calls that don't throw ===== -/
def OPN (fL fM : gi_H → Option (Int × gi_H)) : Prop := ∀ u J L, IX u J L → ∃ (A : Int) (u1 : Nat) (J1 L1 J2 L2 : Nat → Nat → Int), fL (hp u J L) = some (A, hp u1 J1 L1) ∧ fM (hp u1 J1 L1) = some (A, hp u1 J2 L2) ∧ gi_ok A ∧ IX u1 J2 L2
noncomputable def zch (g : GT) (lv : Nat → Int) : Nat → Int
  | 0 => -1
  | m + 1 => if zcc g (3 - m) lv false ≠ -2 ∧ zcc g (3 - m) lv false = zcc g (3 - m) lv true then ((3 - m : Nat) : Int) else zch g lv m
theorem zch_ok {g : GT} {lv : Nat → Int} : ∀ m, -1 ≤ zch g lv m ∧ zch g lv m ≤ 3
  | 0 => ⟨by unfold zch; omega, by unfold zch; omega⟩
  | m + 1 => by
    have := zch_ok (g := g) (lv := lv) m
    unfold zch
    split <;> omega
theorem zch_y {g : GT} {lv : Nat → Int} {m kd : Nat} (h : kd + (m + 1) = 4) (h1 : zcc g kd lv false ≠ -2) (h2 : zcc g kd lv false = zcc g kd lv true) : zch g lv (m + 1) = (kd : Int) := by
  have e : 3 - m = kd := by omega
  unfold zch
  rw [e, if_pos ⟨h1, h2⟩]
theorem zch_n {g : GT} {lv : Nat → Int} {m kd : Nat} (h : kd + (m + 1) = 4) (h1 : zcc g kd lv false = -2 ∨ zcc g kd lv false ≠ zcc g kd lv true) : zch g lv (m + 1) = zch g lv m := by
  have e : 3 - m = kd := by omega
  conv => lhs; unfold zch
  rw [e, if_neg (fun z => by rcases h1 with q | q; exact z.1 q; exact q z.2)]
theorem zsz_c {g : GT} {kd : Nat} {lv : Nat → Int} (h : 1 ≤ kd) : zsz g kd = -2 ↔ zcc g kd lv false = -2 := by
  have e1 : zsz g kd = if Sb (zS g (kb kd)) = true then -2 else (Sn (zS g (kb kd)) : Int) := if_neg (by omega)
  have e2 : zcc g kd lv false = if Sb (zS g (kb kd)) = true then -2 else (cB (zcv g kd lv false) (9 * Sn (zS g (kb kd))) : Int) := if_neg (by omega)
  rw [e1, e2]
  split
  · exact ⟨fun _ => rfl, fun _ => rfl⟩
  · exact ⟨fun z => by omega, fun z => by omega⟩
section CHO
variable {n u : Nat} {g : GT} {lv sd : Nat → Int}
theorem c_chosen (hn : 1000000000000000000000000000000 ≤ n) : ∀ (m f kd : Nat) (J L : Nat → Nat → Int), kd + m = 4 → m < f → CST u g J L → CLV lv sd J → ∃ J1 K, l_X11_chosen_2 n f 0 (kd : Int) (hp u J L) = some (zch g lv m, hp u J1 K) ∧ CQO u g J L J1 K := by
  intro m
  induction m with
  | zero =>
    intro f kd J L hm hf hc hl
    obtain ⟨f', rfl⟩ : ∃ f', f = f' + 1 := ⟨f - 1, by omega⟩
    refine ⟨J, L, ?_, CQO.rf hc⟩
    simp (disch := omega) only [l_X11_chosen_2, b_X11_chosen_2, ↓dhi_X, ↓dhG_X_0, ↓dhG_X_1, ↓dhG_X_2, ↓dhg_X_3, ↓dhq_X_3, ↓dhG_X_4, ↓dhG_X_5, ↓dhG_X_6, ↓dhg_X_7, ↓dhq_X_7, ↓dhG_X_8, ↓dhG_X_9, ↓dhG_X_10, ↓dhG_X_11, ↓dhG_X_12, ↓dhG_X_13, ↓dhG_X_14, ↓dhG_X_15, ↓dhG_X_16, Option.bind_some, ↓nm_eq, ↓sm_inl, ↓sm_inr, ↓dzo_0, ↓dzo_1, ↓drg_ok, ↓if_pos, ↓if_neg, if_pos, if_neg, if_true, if_false, Int.toNat_natCast, rg_ok]
    rfl
  | succ m ih =>
    intro f kd J L hm hf hc hl
    obtain ⟨f', rfl⟩ : ∃ f', f = f' + 1 := ⟨f - 1, by omega⟩
    have hk : kd ≤ 3 := by omega
    have hg := hc.gr
    have ok1 := zcc_ok (kd := kd) (lv := lv) (s := false) hg
    have ok2 := zcc_ok (kd := kd) (lv := lv) (s := true) hg
    have ok3 := zsz_ok (kd := kd) hg
    obtain ⟨J1, K, e, q, hT⟩ := c_tab (u := u) hn hc hk
    have next : ∀ J2, CQO u g J L J2 K → zch g lv (m + 1) = zch g lv m → l_X11_chosen_2 n (f' + 1) 0 (kd : Int) (hp u J L) = l_X11_chosen_2 n f' 0 ((kd + 1 : Nat) : Int) (hp u J2 K) → ∃ J3 K3, l_X11_chosen_2 n (f' + 1) 0 (kd : Int) (hp u J L) = some (zch g lv (m + 1), hp u J3 K3) ∧ CQO u g J L J3 K3 := by
      intro J2 q2 hz he
      obtain ⟨J3, K3, e3, q3⟩ := ih f' (kd + 1) J2 K (by omega) (by omega) q2.2.2 (hl.frq q2.1)
      rw [hz]
      exact ⟨J3, K3, he.trans e3, q2.tr q3⟩
    by_cases c0 : kd = 0
    · subst c0
      have e' : f_X11_table n 0 ((0 : Nat) : Int) (hp u J L) = some (145, hp u J1 K) := e
      obtain ⟨he1, he2⟩ := c_ext (u := u) hn hT
      have z1 : zcc g 0 lv false = (zpn g 2 : Int) := rfl
      have z2 : zcc g 0 lv true = 0 := rfl
      have z3 : zsz g 0 = (zpn g 1 : Int) := rfl
      rw [z1] at ok1
      rw [z3] at ok3
      by_cases c : (zpn g 2 : Int) = 0
      · refine ⟨J1, K, ?_, q⟩
        rw [zch_y (kd := 0) (by omega) (by rw [z1]; omega) (by rw [z1, z2]; exact c)]
        simp (disch := omega) only [l_X11_chosen_2, b_X11_chosen_2, b_X11_chosen_35, f_X5_easedClashes, ↓dhi_X, ↓dhG_X_0, ↓dhG_X_1, ↓dhG_X_2, ↓dhg_X_3, ↓dhq_X_3, ↓dhG_X_4, ↓dhG_X_5, ↓dhG_X_6, ↓dhg_X_7, ↓dhq_X_7, ↓dhG_X_8, ↓dhG_X_9, ↓dhG_X_10, ↓dhG_X_11, ↓dhG_X_12, ↓dhG_X_13, ↓dhG_X_14, ↓dhG_X_15, ↓dhG_X_16, ↓dhi_P, ↓dhg_P_0, ↓dhq_P_0, ↓dhG_P_1, ↓dhG_P_2, ↓dhG_P_3, ↓dhg_P_4, ↓dhq_P_4, ↓dhG_P_5, ↓dhg_P_6, ↓dhq_P_6, Option.bind_some, ↓nm_eq, ↓sm_inl, ↓sm_inr, ↓dzo_0, ↓dzo_1, ↓drg_ok, ↓if_pos, ↓if_neg, if_pos, if_neg, if_true, if_false, Int.toNat_natCast, rg_ok, ↓bnd e', ↓bnd he1, ↓bnd he2, dsp_0, if_true]
      · refine next J1 q (zch_n (kd := 0) (by omega) (Or.inr (by rw [z1, z2]; exact c))) ?_
        simp (disch := omega) only [l_X11_chosen_2, b_X11_chosen_2, b_X11_chosen_35, f_X5_easedClashes, ↓dhi_X, ↓dhG_X_0, ↓dhG_X_1, ↓dhG_X_2, ↓dhg_X_3, ↓dhq_X_3, ↓dhG_X_4, ↓dhG_X_5, ↓dhG_X_6, ↓dhg_X_7, ↓dhq_X_7, ↓dhG_X_8, ↓dhG_X_9, ↓dhG_X_10, ↓dhG_X_11, ↓dhG_X_12, ↓dhG_X_13, ↓dhG_X_14, ↓dhG_X_15, ↓dhG_X_16, ↓dhi_P, ↓dhg_P_0, ↓dhq_P_0, ↓dhG_P_1, ↓dhG_P_2, ↓dhG_P_3, ↓dhg_P_4, ↓dhq_P_4, ↓dhG_P_5, ↓dhg_P_6, ↓dhq_P_6, Option.bind_some, ↓nm_eq, ↓sm_inl, ↓sm_inr, ↓dzo_0, ↓dzo_1, ↓drg_ok, ↓if_pos, ↓if_neg, if_pos, if_neg, if_true, if_false, Int.toNat_natCast, rg_ok, ↓bnd e', ↓bnd he1, ↓bnd he2, dsp_0, if_true]
        rfl
    · have hk1 : 1 ≤ kd ∧ kd ≤ 3 := by omega
      obtain ⟨hv, hva⟩ := tb_m hk1
      have he := c_ext9 (u := u) hT hk1
      have hsc := zsz_c (g := g) (kd := kd) (lv := lv) hk1.1
      by_cases c1 : zsz g kd = -2
      · refine next J1 q (zch_n (kd := kd) hm (Or.inl (hsc.mp c1))) ?_
        simp (disch := omega) only [l_X11_chosen_2, b_X11_chosen_2, b_X11_chosen_35, ↓dhi_X, ↓dhG_X_0, ↓dhG_X_1, ↓dhG_X_2, ↓dhg_X_3, ↓dhq_X_3, ↓dhG_X_4, ↓dhG_X_5, ↓dhG_X_6, ↓dhg_X_7, ↓dhq_X_7, ↓dhG_X_8, ↓dhG_X_9, ↓dhG_X_10, ↓dhG_X_11, ↓dhG_X_12, ↓dhG_X_13, ↓dhG_X_14, ↓dhG_X_15, ↓dhG_X_16, ↓dhi_S hv, ↓dhg_S_0 hv, ↓dhq_S_0 hv, ↓dhG_S_1 hv, ↓dhg_S_2 hv, ↓dhq_S_2 hv, ↓dhG_S_3 hv, ↓dhG_S_4 hv, ↓dhG_S_5 hv, ↓dhg_S_6 hv, ↓dhq_S_6 hv, ↓dhg_S_7 hv, ↓dhq_S_7 hv, ↓dhg_S_8 hv, ↓dhq_S_8 hv, ↓dhg_S_9 hv, ↓dhq_S_9 hv, ↓dhG_S_10 hv, ↓dhG_S_11 hv, ↓dhg_S_12 hv, ↓dhq_S_12 hv, ↓dha_S_1 hv, ↓dhs_S_1 hv, ↓dhl_S_1 hv, ↓dha_S_2 hv, ↓dhs_S_2 hv, ↓dhl_S_2 hv, Option.bind_some, ↓nm_eq, ↓sm_inl, ↓sm_inr, ↓dzo_0, ↓dzo_1, ↓drg_ok, ↓if_pos, ↓if_neg, if_pos, if_neg, if_true, if_false, Int.toNat_natCast, rg_ok, ↓bnd e, ↓bnd he, dsp_1 hk1, if_false]
        rfl
      · obtain ⟨J2, e2, q2, hT2⟩ := c_cnt9 (u := u) hn hT (hl.frq q.1) hk1 false
        obtain ⟨J3, e3, q3, hT3⟩ := c_cnt9 (u := u) hn hT2 (hl.frq (q.tr q2).1) hk1 true
        rw [b01_f] at e2
        rw [b01_t] at e3
        have e2' : f_X9_clashes n (tb kd) (hp u J1 K) = some (zcc g kd lv false, hp u J2 K) := by
          simp (disch := omega) only [f_X9_clashes, ↓dhi_S hv, ↓dhg_S_0 hv, ↓dhq_S_0 hv, ↓dhG_S_1 hv, ↓dhg_S_2 hv, ↓dhq_S_2 hv, ↓dhG_S_3 hv, ↓dhG_S_4 hv, ↓dhG_S_5 hv, ↓dhg_S_6 hv, ↓dhq_S_6 hv, ↓dhg_S_7 hv, ↓dhq_S_7 hv, ↓dhg_S_8 hv, ↓dhq_S_8 hv, ↓dhg_S_9 hv, ↓dhq_S_9 hv, ↓dhG_S_10 hv, ↓dhG_S_11 hv, ↓dhg_S_12 hv, ↓dhq_S_12 hv, ↓dha_S_1 hv, ↓dhs_S_1 hv, ↓dhl_S_1 hv, ↓dha_S_2 hv, ↓dhs_S_2 hv, ↓dhl_S_2 hv, Option.bind_some, ↓nm_eq, ↓sm_inl, ↓sm_inr, ↓dzo_0, ↓dzo_1, ↓drg_ok, ↓if_pos, ↓if_neg, if_pos, if_neg, if_true, if_false, Int.toNat_natCast, rg_ok, ↓bnd e2]
        have e3' : f_X9_easedClashes n (tb kd) (hp u J2 K) = some (zcc g kd lv true, hp u J3 K) := by
          simp (disch := omega) only [f_X9_easedClashes, ↓dhi_S hv, ↓dhg_S_0 hv, ↓dhq_S_0 hv, ↓dhG_S_1 hv, ↓dhg_S_2 hv, ↓dhq_S_2 hv, ↓dhG_S_3 hv, ↓dhG_S_4 hv, ↓dhG_S_5 hv, ↓dhg_S_6 hv, ↓dhq_S_6 hv, ↓dhg_S_7 hv, ↓dhq_S_7 hv, ↓dhg_S_8 hv, ↓dhq_S_8 hv, ↓dhg_S_9 hv, ↓dhq_S_9 hv, ↓dhG_S_10 hv, ↓dhG_S_11 hv, ↓dhg_S_12 hv, ↓dhq_S_12 hv, ↓dha_S_1 hv, ↓dhs_S_1 hv, ↓dhl_S_1 hv, ↓dha_S_2 hv, ↓dhs_S_2 hv, ↓dhl_S_2 hv, Option.bind_some, ↓nm_eq, ↓sm_inl, ↓sm_inr, ↓dzo_0, ↓dzo_1, ↓drg_ok, ↓if_pos, ↓if_neg, if_pos, if_neg, if_true, if_false, Int.toNat_natCast, rg_ok, ↓bnd e3]
        by_cases c2 : zcc g kd lv false = zcc g kd lv true
        · refine ⟨J3, K, ?_, (q.tr q2).tr q3⟩
          rw [zch_y (kd := kd) hm (fun z => c1 (hsc.mpr z)) c2]
          simp (disch := omega) only [l_X11_chosen_2, b_X11_chosen_2, b_X11_chosen_35, ↓dhi_X, ↓dhG_X_0, ↓dhG_X_1, ↓dhG_X_2, ↓dhg_X_3, ↓dhq_X_3, ↓dhG_X_4, ↓dhG_X_5, ↓dhG_X_6, ↓dhg_X_7, ↓dhq_X_7, ↓dhG_X_8, ↓dhG_X_9, ↓dhG_X_10, ↓dhG_X_11, ↓dhG_X_12, ↓dhG_X_13, ↓dhG_X_14, ↓dhG_X_15, ↓dhG_X_16, ↓dhi_S hv, ↓dhg_S_0 hv, ↓dhq_S_0 hv, ↓dhG_S_1 hv, ↓dhg_S_2 hv, ↓dhq_S_2 hv, ↓dhG_S_3 hv, ↓dhG_S_4 hv, ↓dhG_S_5 hv, ↓dhg_S_6 hv, ↓dhq_S_6 hv, ↓dhg_S_7 hv, ↓dhq_S_7 hv, ↓dhg_S_8 hv, ↓dhq_S_8 hv, ↓dhg_S_9 hv, ↓dhq_S_9 hv, ↓dhG_S_10 hv, ↓dhG_S_11 hv, ↓dhg_S_12 hv, ↓dhq_S_12 hv, ↓dha_S_1 hv, ↓dhs_S_1 hv, ↓dhl_S_1 hv, ↓dha_S_2 hv, ↓dhs_S_2 hv, ↓dhl_S_2 hv, Option.bind_some, ↓nm_eq, ↓sm_inl, ↓sm_inr, ↓dzo_0, ↓dzo_1, ↓drg_ok, ↓if_pos, ↓if_neg, if_pos, if_neg, if_true, if_false, Int.toNat_natCast, rg_ok, ↓bnd e, ↓bnd he, ↓bnd e2', ↓bnd e3', dsp_1 hk1, if_false]
        · refine next J3 ((q.tr q2).tr q3) (zch_n (kd := kd) hm (Or.inr c2)) ?_
          simp (disch := omega) only [l_X11_chosen_2, b_X11_chosen_2, b_X11_chosen_35, ↓dhi_X, ↓dhG_X_0, ↓dhG_X_1, ↓dhG_X_2, ↓dhg_X_3, ↓dhq_X_3, ↓dhG_X_4, ↓dhG_X_5, ↓dhG_X_6, ↓dhg_X_7, ↓dhq_X_7, ↓dhG_X_8, ↓dhG_X_9, ↓dhG_X_10, ↓dhG_X_11, ↓dhG_X_12, ↓dhG_X_13, ↓dhG_X_14, ↓dhG_X_15, ↓dhG_X_16, ↓dhi_S hv, ↓dhg_S_0 hv, ↓dhq_S_0 hv, ↓dhG_S_1 hv, ↓dhg_S_2 hv, ↓dhq_S_2 hv, ↓dhG_S_3 hv, ↓dhG_S_4 hv, ↓dhG_S_5 hv, ↓dhg_S_6 hv, ↓dhq_S_6 hv, ↓dhg_S_7 hv, ↓dhq_S_7 hv, ↓dhg_S_8 hv, ↓dhq_S_8 hv, ↓dhg_S_9 hv, ↓dhq_S_9 hv, ↓dhG_S_10 hv, ↓dhG_S_11 hv, ↓dhg_S_12 hv, ↓dhq_S_12 hv, ↓dha_S_1 hv, ↓dhs_S_1 hv, ↓dhl_S_1 hv, ↓dha_S_2 hv, ↓dhs_S_2 hv, ↓dhl_S_2 hv, Option.bind_some, ↓nm_eq, ↓sm_inl, ↓sm_inr, ↓dzo_0, ↓dzo_1, ↓drg_ok, ↓if_pos, ↓if_neg, if_pos, if_neg, if_true, if_false, Int.toNat_natCast, rg_ok, ↓bnd e, ↓bnd he, ↓bnd e2', ↓bnd e3', dsp_1 hk1, if_false]
          rfl
theorem r_chosen (hn : 1000000000000000000000000000000 ≤ n) : ∀ (m f kd : Nat) (J L : Nat → Nat → Int), kd + m = 4 → m < f → RST g J L → RLV lv sd J → ∃ J1 K, l_X12_chosen_7 n f 161 (kd : Int) (hp u J L) = some (zch g lv m, hp u J1 K) ∧ RQO g J L J1 K := by
  intro m
  induction m with
  | zero =>
    intro f kd J L hm hf hc hl
    obtain ⟨f', rfl⟩ : ∃ f', f = f' + 1 := ⟨f - 1, by omega⟩
    refine ⟨J, L, ?_, RQO.rf hc⟩
    simp (disch := omega) only [l_X12_chosen_7, b_X12_chosen_7, ↓dhi_M, ↓dhG_M_0, ↓dhG_M_1, ↓dhG_M_2, ↓dhG_M_3, ↓dhG_M_4, ↓dhG_M_5, ↓dhG_M_6, ↓dhG_M_7, ↓dhG_M_8, ↓dhg_M_9, ↓dhq_M_9, ↓dhG_M_10, ↓dhG_M_11, ↓dhG_M_12, ↓dhg_M_13, ↓dhq_M_13, ↓dhG_M_14, ↓dhg_M_15, ↓dhq_M_15, ↓dhG_M_16, ↓dhg_M_17, ↓dhq_M_17, ↓dhg_M_18, ↓dhq_M_18, ↓dhG_M_19, ↓dhG_M_20, ↓dhG_M_21, ↓dhG_M_22, ↓dhG_M_23, ↓dhG_M_24, ↓dhg_M_25, ↓dhq_M_25, ↓dhG_M_26, ↓dhG_M_27, ↓dhG_M_28, ↓dhg_M_29, ↓dhq_M_29, ↓dhG_M_30, ↓dhG_M_31, ↓dhg_M_32, ↓dhq_M_32, ↓dhg_M_33, ↓dhq_M_33, ↓dhg_M_34, ↓dhq_M_34, ↓dhg_M_35, ↓dhq_M_35, ↓dhG_M_36, ↓dhG_M_37, ↓dhg_M_38, ↓dhq_M_38, ↓dhg_M_39, ↓dhq_M_39, ↓dhG_M_40, ↓dhG_M_41, ↓dhG_M_42, ↓dhG_M_43, ↓dhg_M_44, ↓dhq_M_44, Option.bind_some, ↓nm_eq, ↓sm_inl, ↓sm_inr, ↓dzo_0, ↓dzo_1, ↓drg_ok, ↓if_pos, ↓if_neg, if_pos, if_neg, if_true, if_false, Int.toNat_natCast, rg_ok]
    rfl
  | succ m ih =>
    intro f kd J L hm hf hc hl
    obtain ⟨f', rfl⟩ : ∃ f', f = f' + 1 := ⟨f - 1, by omega⟩
    have hk : kd ≤ 3 := by omega
    have hg := hc.1.gr
    have ok1 := zcc_ok (kd := kd) (lv := lv) (s := false) hg
    have ok2 := zcc_ok (kd := kd) (lv := lv) (s := true) hg
    obtain ⟨J1, K, e, q, -⟩ := r_cnt (u := u) (kd := kd) hn hc hl hk false
    rw [b01_f] at e
    have next : ∀ J2 K2, RQO g J L J2 K2 → zch g lv (m + 1) = zch g lv m → l_X12_chosen_7 n (f' + 1) 161 (kd : Int) (hp u J L) = l_X12_chosen_7 n f' 161 ((kd + 1 : Nat) : Int) (hp u J2 K2) → ∃ J3 K3, l_X12_chosen_7 n (f' + 1) 161 (kd : Int) (hp u J L) = some (zch g lv (m + 1), hp u J3 K3) ∧ RQO g J L J3 K3 := by
      intro J2 K2 q2 hz he
      obtain ⟨J3, K3, e3, q3⟩ := ih f' (kd + 1) J2 K2 (by omega) (by omega) q2.2.2.2 (hl.frq q2.1)
      rw [hz]
      exact ⟨J3, K3, he.trans e3, q2.tr q3⟩
    by_cases c1 : zcc g kd lv false = -2
    · refine next J1 K q (zch_n (kd := kd) hm (Or.inl c1)) ?_
      simp (disch := omega) only [l_X12_chosen_7, b_X12_chosen_7, b_X12_chosen_37, ↓dhi_M, ↓dhG_M_0, ↓dhG_M_1, ↓dhG_M_2, ↓dhG_M_3, ↓dhG_M_4, ↓dhG_M_5, ↓dhG_M_6, ↓dhG_M_7, ↓dhG_M_8, ↓dhg_M_9, ↓dhq_M_9, ↓dhG_M_10, ↓dhG_M_11, ↓dhG_M_12, ↓dhg_M_13, ↓dhq_M_13, ↓dhG_M_14, ↓dhg_M_15, ↓dhq_M_15, ↓dhG_M_16, ↓dhg_M_17, ↓dhq_M_17, ↓dhg_M_18, ↓dhq_M_18, ↓dhG_M_19, ↓dhG_M_20, ↓dhG_M_21, ↓dhG_M_22, ↓dhG_M_23, ↓dhG_M_24, ↓dhg_M_25, ↓dhq_M_25, ↓dhG_M_26, ↓dhG_M_27, ↓dhG_M_28, ↓dhg_M_29, ↓dhq_M_29, ↓dhG_M_30, ↓dhG_M_31, ↓dhg_M_32, ↓dhq_M_32, ↓dhg_M_33, ↓dhq_M_33, ↓dhg_M_34, ↓dhq_M_34, ↓dhg_M_35, ↓dhq_M_35, ↓dhG_M_36, ↓dhG_M_37, ↓dhg_M_38, ↓dhq_M_38, ↓dhg_M_39, ↓dhq_M_39, ↓dhG_M_40, ↓dhG_M_41, ↓dhG_M_42, ↓dhG_M_43, ↓dhg_M_44, ↓dhq_M_44, Option.bind_some, ↓nm_eq, ↓sm_inl, ↓sm_inr, ↓dzo_0, ↓dzo_1, ↓drg_ok, ↓if_pos, ↓if_neg, if_pos, if_neg, if_true, if_false, Int.toNat_natCast, rg_ok, ↓bnd e]
      rfl
    · obtain ⟨J2, K2, e2, q2, -⟩ := r_cnt (u := u) (kd := kd) hn q.2.2.2 (hl.frq q.1) hk true
      rw [b01_t] at e2
      by_cases c2 : zcc g kd lv false = zcc g kd lv true
      · refine ⟨J2, K2, ?_, q.tr q2⟩
        rw [zch_y (kd := kd) hm c1 c2]
        simp (disch := omega) only [l_X12_chosen_7, b_X12_chosen_7, b_X12_chosen_37, ↓dhi_M, ↓dhG_M_0, ↓dhG_M_1, ↓dhG_M_2, ↓dhG_M_3, ↓dhG_M_4, ↓dhG_M_5, ↓dhG_M_6, ↓dhG_M_7, ↓dhG_M_8, ↓dhg_M_9, ↓dhq_M_9, ↓dhG_M_10, ↓dhG_M_11, ↓dhG_M_12, ↓dhg_M_13, ↓dhq_M_13, ↓dhG_M_14, ↓dhg_M_15, ↓dhq_M_15, ↓dhG_M_16, ↓dhg_M_17, ↓dhq_M_17, ↓dhg_M_18, ↓dhq_M_18, ↓dhG_M_19, ↓dhG_M_20, ↓dhG_M_21, ↓dhG_M_22, ↓dhG_M_23, ↓dhG_M_24, ↓dhg_M_25, ↓dhq_M_25, ↓dhG_M_26, ↓dhG_M_27, ↓dhG_M_28, ↓dhg_M_29, ↓dhq_M_29, ↓dhG_M_30, ↓dhG_M_31, ↓dhg_M_32, ↓dhq_M_32, ↓dhg_M_33, ↓dhq_M_33, ↓dhg_M_34, ↓dhq_M_34, ↓dhg_M_35, ↓dhq_M_35, ↓dhG_M_36, ↓dhG_M_37, ↓dhg_M_38, ↓dhq_M_38, ↓dhg_M_39, ↓dhq_M_39, ↓dhG_M_40, ↓dhG_M_41, ↓dhG_M_42, ↓dhG_M_43, ↓dhg_M_44, ↓dhq_M_44, Option.bind_some, ↓nm_eq, ↓sm_inl, ↓sm_inr, ↓dzo_0, ↓dzo_1, ↓drg_ok, ↓if_pos, ↓if_neg, if_pos, if_neg, if_true, if_false, Int.toNat_natCast, rg_ok, ↓bnd e, ↓bnd e2]
      · refine next J2 K2 (q.tr q2) (zch_n (kd := kd) hm (Or.inr c2)) ?_
        simp (disch := omega) only [l_X12_chosen_7, b_X12_chosen_7, b_X12_chosen_37, ↓dhi_M, ↓dhG_M_0, ↓dhG_M_1, ↓dhG_M_2, ↓dhG_M_3, ↓dhG_M_4, ↓dhG_M_5, ↓dhG_M_6, ↓dhG_M_7, ↓dhG_M_8, ↓dhg_M_9, ↓dhq_M_9, ↓dhG_M_10, ↓dhG_M_11, ↓dhG_M_12, ↓dhg_M_13, ↓dhq_M_13, ↓dhG_M_14, ↓dhg_M_15, ↓dhq_M_15, ↓dhG_M_16, ↓dhg_M_17, ↓dhq_M_17, ↓dhg_M_18, ↓dhq_M_18, ↓dhG_M_19, ↓dhG_M_20, ↓dhG_M_21, ↓dhG_M_22, ↓dhG_M_23, ↓dhG_M_24, ↓dhg_M_25, ↓dhq_M_25, ↓dhG_M_26, ↓dhG_M_27, ↓dhG_M_28, ↓dhg_M_29, ↓dhq_M_29, ↓dhG_M_30, ↓dhG_M_31, ↓dhg_M_32, ↓dhq_M_32, ↓dhg_M_33, ↓dhq_M_33, ↓dhg_M_34, ↓dhq_M_34, ↓dhg_M_35, ↓dhq_M_35, ↓dhG_M_36, ↓dhG_M_37, ↓dhg_M_38, ↓dhq_M_38, ↓dhg_M_39, ↓dhq_M_39, ↓dhG_M_40, ↓dhG_M_41, ↓dhG_M_42, ↓dhG_M_43, ↓dhg_M_44, ↓dhq_M_44, Option.bind_some, ↓nm_eq, ↓sm_inl, ↓sm_inr, ↓dzo_0, ↓dzo_1, ↓drg_ok, ↓if_pos, ↓if_neg, if_pos, if_neg, if_true, if_false, Int.toNat_natCast, rg_ok, ↓bnd e, ↓bnd e2]
        rfl
end CHO
theorem op_chosen {n : Nat} (hn : 1000000000000000000000000000000 ≤ n) : OPN (fun h => f_X11_chosen n 0 h) (fun h => f_X12_chosen n 161 h) := by
  intro u J L hI
  obtain ⟨ps, rs, ps1, rs1, t, lv, sd, w, nw, tp, tq, h⟩ := hI
  have hok := zch_ok (g := gtp ps tp) (lv := lv) 4
  obtain ⟨J1, K, e, q⟩ := c_chosen (u := u) (lv := lv) (sd := sd) hn 4 n 0 J L (by omega) (by omega) h.2.2.2.1 h.clv
  have h1 := h.c q (L1 := K) (fun _ _ => rfl)
  have h2 := h1.r ((RQO.rf h1.2.2.2.2).thr (x := 0))
  obtain ⟨J2, K2, e2, q2⟩ := r_chosen (u := u) (lv := lv) (sd := sd) hn 4 n 0 (gx_u J1 161 44 0) K (by omega) (by omega) h2.2.2.2.2 h2.rlv
  refine ⟨zch (gtp ps tp) lv 4, u, J1, K, J2, K2, e, ?_, ⟨by omega, by omega⟩, ps, rs, ps1, rs1, t, lv, sd, w, nw, tp, tq, h2.r q2⟩
  have e2' : l_X12_chosen_7 n n 161 0 (hp u (gx_u J1 161 44 0) K) = _ := e2
  simp (disch := omega) only [f_X12_chosen, ↓dhi_M, ↓dhG_M_0, ↓dhG_M_1, ↓dhG_M_2, ↓dhG_M_3, ↓dhG_M_4, ↓dhG_M_5, ↓dhG_M_6, ↓dhG_M_7, ↓dhG_M_8, ↓dhg_M_9, ↓dhq_M_9, ↓dhG_M_10, ↓dhG_M_11, ↓dhG_M_12, ↓dhg_M_13, ↓dhq_M_13, ↓dhG_M_14, ↓dhg_M_15, ↓dhq_M_15, ↓dhG_M_16, ↓dhg_M_17, ↓dhq_M_17, ↓dhg_M_18, ↓dhq_M_18, ↓dhG_M_19, ↓dhG_M_20, ↓dhG_M_21, ↓dhG_M_22, ↓dhG_M_23, ↓dhG_M_24, ↓dhg_M_25, ↓dhq_M_25, ↓dhG_M_26, ↓dhG_M_27, ↓dhG_M_28, ↓dhg_M_29, ↓dhq_M_29, ↓dhG_M_30, ↓dhG_M_31, ↓dhg_M_32, ↓dhq_M_32, ↓dhg_M_33, ↓dhq_M_33, ↓dhg_M_34, ↓dhq_M_34, ↓dhg_M_35, ↓dhq_M_35, ↓dhG_M_36, ↓dhG_M_37, ↓dhg_M_38, ↓dhq_M_38, ↓dhg_M_39, ↓dhq_M_39, ↓dhG_M_40, ↓dhG_M_41, ↓dhG_M_42, ↓dhG_M_43, ↓dhg_M_44, ↓dhq_M_44, Option.bind_some, ↓nm_eq, ↓sm_inl, ↓sm_inr, ↓dzo_0, ↓dzo_1, ↓drg_ok, ↓if_pos, ↓if_neg, if_pos, if_neg, if_true, if_false, Int.toNat_natCast, rg_ok]
  exact e2'
theorem op_readings {n : Nat} (hn : 1000000000000000000000000000000 ≤ n) : OPN (fun h => f_X11_readings n 0 h) (fun h => f_X12_readings n 161 h) := by
  intro u J L hI
  obtain ⟨ps, rs, ps1, rs1, t, lv, sd, w, nw, tp, tq, h⟩ := hI
  have hg := h.gr
  have hnw := h.sw.1
  have ht7 := hg.2.1
  obtain ⟨J1, K, e, q, hF, hT⟩ := h.2.2.2.1.lrn (u := u) hn
  obtain ⟨J2, v, e2, f2, hv, hx⟩ := X1_measure_1 (u := u) hn (kok_C (w := w) (nw := nw) hg) hnw hT (h.cse.frq q.1) h.sw
  have q2 : CQO u (gtp ps tp) J1 K J2 K := ⟨f2.up (fun a z => by simp [CL1] at z; simp [CLQ]; omega), Fr.rf, (hT.own1 f2).1⟩
  have h1 := h.c (q.tr q2) (L1 := K) (fun _ _ => rfl)
  obtain ⟨J3, v', e3, f3, fq3, h44, hx'⟩ := X12_readings (u := u) (L := K) hn h1.2.2.2.2.1 h1.wse h1.sw
  have hr : RQO (gtp ps tp) J2 K J3 K := by
    refine ⟨f3.up (fun a z => by simp at z; simp [RLQ]; omega), fun k hk => fq3 k (by omega), fun _ _ => rfl, ?_⟩
    exact h1.2.2.2.2.eq (h1.2.2.2.2.1.fr f3 (fq3 9 (by decide)) (by decide)) (fun a ha => f3 a (by simp at ha ⊢; omega)) (fun k hk => fq3 k (by omega)) rfl
  have heq := count_eq hg hx hx' (nw - 0) 0 nw (Nat.le_refl _) (Nat.zero_le _) (Nat.le_refl _) (Gt (gtp ps tp)) (by omega)
  have hb := hv (Gt (gtp ps tp)) 0 nw
  rw [← heq] at e3
  refine ⟨(v (Gt (gtp ps tp)) 0 nw : Int), u, J2, K, J3, K, ?_, e3, ⟨by omega, by omega⟩, ps, rs, ps1, rs1, t, lv, sd, w, nw, tp, tq, h1.r hr⟩
  have e07 : J1 0 7 = (nw : Int) := by rw [q.1 0 (by decide)]; exact h.2.1.2.2.2.2.2.2.2.1
  have d1 : (gi_S (hp u J1 K) 157 = (0, 1)) = True := eq_true (hS 157 rfl (by decide))
  simp (disch := omega) only [f_X11_readings, ↓dhi_X, ↓dhG_X_0, ↓dhG_X_1, ↓dhG_X_2, ↓dhg_X_3, ↓dhq_X_3, ↓dhG_X_4, ↓dhG_X_5, ↓dhG_X_6, ↓dhg_X_7, ↓dhq_X_7, ↓dhG_X_8, ↓dhG_X_9, ↓dhG_X_10, ↓dhG_X_11, ↓dhG_X_12, ↓dhG_X_13, ↓dhG_X_14, ↓dhG_X_15, ↓dhG_X_16, ↓dhi_F, ↓dhG_F_0, ↓dhg_F_1, ↓dhq_F_1, ↓dhg_F_2, ↓dhq_F_2, ↓dhg_F_3, ↓dhq_F_3, ↓dhg_F_4, ↓dhq_F_4, ↓dhG_F_5, ↓dhG_F_6, ↓dhG_F_7, ↓dhG_F_8, ↓dhG_F_9, ↓dhg_F_10, ↓dhq_F_10, ↓dhG_F_11, ↓dhG_F_12, ↓dhG_F_13, ↓dhi_C, ↓dhG_C_0, ↓dhG_C_1, ↓dhG_C_2, ↓dhG_C_3, ↓dhG_C_4, Option.bind_some, ↓nm_eq, ↓sm_inl, ↓sm_inr, ↓dzo_0, ↓dzo_1, ↓drg_ok, ↓if_pos, ↓if_neg, if_pos, if_neg, if_true, if_false, Int.toNat_natCast, rg_ok, ↓bnd e, e07, d1, if_true, ↓bnd e2]
theorem op_repair {n : Nat} (hn : 1000000000000000000000000000000 ≤ n) : OPN (fun h => f_X11_repair n 0 h) (fun h => f_X12_repair n 161 h) := by
  intro u J L hI
  obtain ⟨ps, rs, ps1, rs1, t, lv, sd, w, nw, tp, tq, h⟩ := hI
  have hg := h.gr
  have hgm := gU_mem u
  have hnw := h.sw.1
  have ht7 := hg.2.1
  have ht : Gt (gtp ps tp) < 16 := by omega
  obtain ⟨J1, K, e, q, hF, hT⟩ := h.2.2.2.1.lrn (u := u) hn
  have et := X4_top (u := u) (L := K) hgm hT.1.1.1
  rw [hT.1.1.2] at et
  have ep := X3_isProductive (u := u) (L := K) (J := J1) hF ht
  -- the reference, from a state of the class
  have ref : ∀ J2, IV u ps rs ps1 rs1 t lv sd w nw tp tq J2 K → ∃ (J3 J4 K3 : Nat → Nat → Int) (v' : CV), f_X12_repair n 161 (hp u J2 K) = some ((if rLn J3 (Gt (gtp ps tp)) = 1000 then -1 else (mn 99 (v' (Gt (gtp ps tp)) 0 nw) : Int)), hp u J4 K3) ∧ rF (gtp ps tp) J3 K3 ∧ QFX (gtp ps tp) w v' (fun x y => x ≤ y ∧ y ≤ nw) ∧ IX u J4 K3 := by
    intro J2 h1
    have h2 := h1.r ((RQO.rf h1.2.2.2.2).thr (x := 0))
    obtain ⟨J3, K3, e3, q3, hF3, hE3⟩ := h2.2.2.2.2.fnd (u := u) hn
    have h3 := h2.r q3
    obtain ⟨J4, v', e4, f4, hx'⟩ := X12_repairB (u := u) hn hE3 hF3 h3.wse h3.sw
    refine ⟨J3, J4, K3, v', ?_, hF3, hx', ps, rs, ps1, rs1, t, lv, sd, w, nw, tp, tq, h3.r ⟨f4.up (fun a z => by simp at z; simp [RLQ]; omega), fun k hk => by rw [f4 161 (by decide)], fun _ _ => rfl, ?_⟩⟩
    · simp (disch := omega) only [f_X12_repair, ↓dhi_M, ↓dhG_M_0, ↓dhG_M_1, ↓dhG_M_2, ↓dhG_M_3, ↓dhG_M_4, ↓dhG_M_5, ↓dhG_M_6, ↓dhG_M_7, ↓dhG_M_8, ↓dhg_M_9, ↓dhq_M_9, ↓dhG_M_10, ↓dhG_M_11, ↓dhG_M_12, ↓dhg_M_13, ↓dhq_M_13, ↓dhG_M_14, ↓dhg_M_15, ↓dhq_M_15, ↓dhG_M_16, ↓dhg_M_17, ↓dhq_M_17, ↓dhg_M_18, ↓dhq_M_18, ↓dhG_M_19, ↓dhG_M_20, ↓dhG_M_21, ↓dhG_M_22, ↓dhG_M_23, ↓dhG_M_24, ↓dhg_M_25, ↓dhq_M_25, ↓dhG_M_26, ↓dhG_M_27, ↓dhG_M_28, ↓dhg_M_29, ↓dhq_M_29, ↓dhG_M_30, ↓dhG_M_31, ↓dhg_M_32, ↓dhq_M_32, ↓dhg_M_33, ↓dhq_M_33, ↓dhg_M_34, ↓dhq_M_34, ↓dhg_M_35, ↓dhq_M_35, ↓dhG_M_36, ↓dhG_M_37, ↓dhg_M_38, ↓dhq_M_38, ↓dhg_M_39, ↓dhq_M_39, ↓dhG_M_40, ↓dhG_M_41, ↓dhG_M_42, ↓dhG_M_43, ↓dhg_M_44, ↓dhq_M_44, Option.bind_some, ↓nm_eq, ↓sm_inl, ↓sm_inr, ↓dzo_0, ↓dzo_1, ↓drg_ok, ↓if_pos, ↓if_neg, if_pos, if_neg, if_true, if_false, Int.toNat_natCast, rg_ok, ↓bnd e3]
      exact e4
    · exact h3.2.2.2.2.eq (hE3.fr f4 (by rw [f4 161 (by decide)]) (by decide)) (fun a ha => f4 a (by simp at ha ⊢; omega)) (fun k hk => by rw [f4 161 (by decide)]) rfl
  by_cases c : cLe J1 (Gt (gtp ps tp)) = 1000
  · have h1 := h.c q (L1 := K) (fun _ _ => rfl)
    obtain ⟨J3, J4, K3, v', e4, hF3, -, hI4⟩ := ref J1 h1
    rw [if_pos ((sam_s hg hF hF3 ht).1.mp c)] at e4
    refine ⟨-1, u, J1, K, J4, K3, ?_, e4, by decide, hI4⟩
    rw [if_pos c] at ep
    simp (disch := omega) only [f_X11_repair, ↓dhi_X, ↓dhG_X_0, ↓dhG_X_1, ↓dhG_X_2, ↓dhg_X_3, ↓dhq_X_3, ↓dhG_X_4, ↓dhG_X_5, ↓dhG_X_6, ↓dhg_X_7, ↓dhq_X_7, ↓dhG_X_8, ↓dhG_X_9, ↓dhG_X_10, ↓dhG_X_11, ↓dhG_X_12, ↓dhG_X_13, ↓dhG_X_14, ↓dhG_X_15, ↓dhG_X_16, ↓dhi_F, ↓dhG_F_0, ↓dhg_F_1, ↓dhq_F_1, ↓dhg_F_2, ↓dhq_F_2, ↓dhg_F_3, ↓dhq_F_3, ↓dhg_F_4, ↓dhq_F_4, ↓dhG_F_5, ↓dhG_F_6, ↓dhG_F_7, ↓dhG_F_8, ↓dhG_F_9, ↓dhg_F_10, ↓dhq_F_10, ↓dhG_F_11, ↓dhG_F_12, ↓dhG_F_13, ↓dhi_G hgm, ↓dhG_G_0 hgm, ↓dhG_G_1 hgm, ↓dhG_G_2 hgm, ↓dhg_G_3 hgm, ↓dhq_G_3 hgm, ↓dhG_G_4 hgm, ↓dhG_G_5 hgm, ↓dhg_G_6 hgm, ↓dhq_G_6 hgm, ↓dhg_G_7 hgm, ↓dhq_G_7 hgm, ↓dhG_G_8 hgm, ↓dhG_G_9 hgm, ↓dha_G_1 hgm, ↓dhs_G_1 hgm, ↓dhl_G_1 hgm, ↓dha_G_2 hgm, ↓dhs_G_2 hgm, ↓dhl_G_2 hgm, ↓dha_G_3 hgm, ↓dhs_G_3 hgm, ↓dhl_G_3 hgm, ↓dha_G_4 hgm, ↓dhl_G_4 hgm, ↓dha_G_5 hgm, ↓dhs_G_5 hgm, ↓dhl_G_5 hgm, Option.bind_some, ↓nm_eq, ↓sm_inl, ↓sm_inr, ↓dzo_0, ↓dzo_1, ↓drg_ok, ↓if_pos, ↓if_neg, if_pos, if_neg, if_true, if_false, Int.toNat_natCast, rg_ok, ↓bnd e, ↓bnd et, ↓bnd ep]
  · obtain ⟨J2, v, e2, f2, hv, hx⟩ := X1_measure_5 (u := u) hn (kok_R (w := w) (nw := nw) hg hnw) hnw hT (h.cse.frq q.1) h.sw
    have q2 : CQO u (gtp ps tp) J1 K J2 K := ⟨f2.up (fun a z => by simp [CL5] at z; simp [CLQ]; omega), Fr.rf, (hT.own5 f2).1⟩
    have h1 := h.c (q.tr q2) (L1 := K) (fun _ _ => rfl)
    obtain ⟨J3, J4, K3, v', e4, hF3, hx', hI4⟩ := ref J2 h1
    rw [if_neg (fun z => c ((sam_s hg hF hF3 ht).1.mpr z))] at e4
    have h99 := prod_99 hg hnw hv hx hF.2.2.2.2.2.2.2.1.2 ht c (Nat.zero_le _) (Nat.le_refl nw)
    have heq := edit_eq hg hnw hv hx hx' (nw - 0) 0 nw (Nat.le_refl _) (Nat.zero_le _) (Nat.le_refl _) (Gt (gtp ps tp)) ht
    have hA : mn 99 (v' (Gt (gtp ps tp)) 0 nw) = v (Gt (gtp ps tp)) 0 nw := by
      have h1 : fi v' (Gt (gtp ps tp)) 0 nw = mn 99 (v' (Gt (gtp ps tp)) 0 nw) := rfl
      rw [← h1, ← heq]
      unfold fi mn
      split <;> omega
    rw [hA] at e4
    refine ⟨(v (Gt (gtp ps tp)) 0 nw : Int), u, J2, K, J4, K3, ?_, e4, ⟨by omega, by omega⟩, hI4⟩
    rw [if_neg c] at ep
    have e07 : J1 0 7 = (nw : Int) := by rw [q.1 0 (by decide)]; exact h.2.1.2.2.2.2.2.2.2.1
    have d1 : (gi_S (hp u J1 K) 159 = (0, 1)) = False := eq_false (fun z => by rw [hS 159 (s := (0, 5)) rfl (by decide)] at z; exact absurd z (by decide))
    simp (disch := omega) only [f_X11_repair, ↓dhi_X, ↓dhG_X_0, ↓dhG_X_1, ↓dhG_X_2, ↓dhg_X_3, ↓dhq_X_3, ↓dhG_X_4, ↓dhG_X_5, ↓dhG_X_6, ↓dhg_X_7, ↓dhq_X_7, ↓dhG_X_8, ↓dhG_X_9, ↓dhG_X_10, ↓dhG_X_11, ↓dhG_X_12, ↓dhG_X_13, ↓dhG_X_14, ↓dhG_X_15, ↓dhG_X_16, ↓dhi_F, ↓dhG_F_0, ↓dhg_F_1, ↓dhq_F_1, ↓dhg_F_2, ↓dhq_F_2, ↓dhg_F_3, ↓dhq_F_3, ↓dhg_F_4, ↓dhq_F_4, ↓dhG_F_5, ↓dhG_F_6, ↓dhG_F_7, ↓dhG_F_8, ↓dhG_F_9, ↓dhg_F_10, ↓dhq_F_10, ↓dhG_F_11, ↓dhG_F_12, ↓dhG_F_13, ↓dhi_D, ↓dhG_D_0, ↓dhG_D_1, ↓dhG_D_2, ↓dhG_D_3, ↓dhG_D_4, ↓dhi_G hgm, ↓dhG_G_0 hgm, ↓dhG_G_1 hgm, ↓dhG_G_2 hgm, ↓dhg_G_3 hgm, ↓dhq_G_3 hgm, ↓dhG_G_4 hgm, ↓dhG_G_5 hgm, ↓dhg_G_6 hgm, ↓dhq_G_6 hgm, ↓dhg_G_7 hgm, ↓dhq_G_7 hgm, ↓dhG_G_8 hgm, ↓dhG_G_9 hgm, ↓dha_G_1 hgm, ↓dhs_G_1 hgm, ↓dhl_G_1 hgm, ↓dha_G_2 hgm, ↓dhs_G_2 hgm, ↓dhl_G_2 hgm, ↓dha_G_3 hgm, ↓dhs_G_3 hgm, ↓dhl_G_3 hgm, ↓dha_G_4 hgm, ↓dhl_G_4 hgm, ↓dha_G_5 hgm, ↓dhs_G_5 hgm, ↓dhl_G_5 hgm, Option.bind_some, ↓nm_eq, ↓sm_inl, ↓sm_inr, ↓dzo_0, ↓dzo_1, ↓drg_ok, ↓if_pos, ↓if_neg, if_pos, if_neg, if_true, if_false, Int.toNat_natCast, rg_ok, ↓bnd e, ↓bnd et, ↓bnd ep, e07, d1, if_false, ↓bnd e2]
