/-! ===== calls that don't throw ===== -/
noncomputable def zch (g : GT) (lv : Nat → Int) : Nat → Int
  | 0 => -1
  | m + 1 => if zcc g (3 - m) lv false ≠ -2 ∧ zcc g (3 - m) lv false = zcc g (3 - m) lv true then ((3 - m : Nat) : Int) else zch g lv m
theorem zch_ok {g : GT} {lv : Nat → Int} : ∀ m, -1 ≤ zch g lv m ∧ zch g lv m ≤ 3
  | 0 => ⟨by unfold zch; omega, by unfold zch; omega⟩
  | m + 1 => by
    have := zch_ok (g := g) (lv := lv) m
    unfold zch
    split <;> omega
theorem zch_y {g : GT} {lv : Nat → Int} {m kd : Nat} (h : kd + (m + 1) = 4) (h1 : zcc g kd lv false ≠ -2) (h2 : zcc g kd lv false = zcc g kd lv true) : zch g lv (m + 1) = (kd : Int) := by
  have e : 3 - m = kd := by omega
  unfold zch
  rw [e, if_pos ⟨h1, h2⟩]
theorem zch_n {g : GT} {lv : Nat → Int} {m kd : Nat} (h : kd + (m + 1) = 4) (h1 : zcc g kd lv false = -2 ∨ zcc g kd lv false ≠ zcc g kd lv true) : zch g lv (m + 1) = zch g lv m := by
  have e : 3 - m = kd := by omega
  conv => lhs; unfold zch
  rw [e, if_neg (fun z => by rcases h1 with q | q; exact z.1 q; exact q z.2)]
theorem zsz_c {g : GT} {kd : Nat} {lv : Nat → Int} (h : 1 ≤ kd) : zsz g kd = -2 ↔ zcc g kd lv false = -2 := by
  have e1 : zsz g kd = if Sb (zS g (kb kd)) = true then -2 else (Sn (zS g (kb kd)) : Int) := if_neg (by omega)
  have e2 : zcc g kd lv false = if Sb (zS g (kb kd)) = true then -2 else (cB (zcv g kd lv false) (9 * Sn (zS g (kb kd))) : Int) := if_neg (by omega)
  rw [e1, e2]
  split
  · exact ⟨fun _ => rfl, fun _ => rfl⟩
  · exact ⟨fun z => by omega, fun z => by omega⟩
section CHO
variable {n u : Nat} {g : GT} {lv sd : Nat → Int}
theorem c_chosen (hn : 1000000000000000000000000000000 ≤ n) : ∀ (m f kd : Nat) (J L : Nat → Nat → Int), kd + m = 4 → m < f → CST u g J L → CLV lv sd J → ∃ J1 K, l_X11_chosen_2 n f 0 (kd : Int) (hp u J L) = some (zch g lv m, hp u J1 K) ∧ CQO u g J L J1 K := by
  intro m
  induction m with
  | zero =>
    intro f kd J L hm hf hc hl
    obtain ⟨f', rfl⟩ : ∃ f', f = f' + 1 := ⟨f - 1, by omega⟩
    refine ⟨J, L, ?_, CQO.rf hc⟩
    simp (disch := omega) only [l_X11_chosen_2, b_X11_chosen_2, ↓dhi_X, ↓dhG_X_0, ↓dhG_X_1, ↓dhG_X_2, ↓dhg_X_3, ↓dhq_X_3, ↓dhG_X_4, ↓dhG_X_5, ↓dhG_X_6, ↓dhg_X_7, ↓dhq_X_7, ↓dhG_X_8, ↓dhG_X_9, ↓dhG_X_10, ↓dhG_X_11, ↓dhG_X_12, ↓dhG_X_13, ↓dhG_X_14, ↓dhG_X_15, ↓dhG_X_16, Option.bind_some, ↓nm_eq, ↓sm_inl, ↓sm_inr, ↓dzo_0, ↓dzo_1, ↓drg_ok, ↓if_pos, ↓if_neg, if_pos, if_neg, if_true, if_false, Int.toNat_natCast, rg_ok]
    rfl
  | succ m ih =>
    intro f kd J L hm hf hc hl
    obtain ⟨f', rfl⟩ : ∃ f', f = f' + 1 := ⟨f - 1, by omega⟩
    have hk : kd ≤ 3 := by omega
    have hg := hc.gr
    have ok1 := zcc_ok (kd := kd) (lv := lv) (s := false) hg
    have ok2 := zcc_ok (kd := kd) (lv := lv) (s := true) hg
    have ok3 := zsz_ok (kd := kd) hg
    obtain ⟨J1, K, e, q, hT⟩ := c_tab (u := u) hn hc hk
    have next : ∀ J2, CQO u g J L J2 K → zch g lv (m + 1) = zch g lv m → l_X11_chosen_2 n (f' + 1) 0 (kd : Int) (hp u J L) = l_X11_chosen_2 n f' 0 ((kd + 1 : Nat) : Int) (hp u J2 K) → ∃ J3 K3, l_X11_chosen_2 n (f' + 1) 0 (kd : Int) (hp u J L) = some (zch g lv (m + 1), hp u J3 K3) ∧ CQO u g J L J3 K3 := by
      intro J2 q2 hz he
      obtain ⟨J3, K3, e3, q3⟩ := ih f' (kd + 1) J2 K (by omega) (by omega) q2.2.2 (hl.frq q2.1)
      rw [hz]
      exact ⟨J3, K3, he.trans e3, q2.tr q3⟩
    by_cases c0 : kd = 0
    · subst c0
      have e' : f_X11_table n 0 ((0 : Nat) : Int) (hp u J L) = some (145, hp u J1 K) := e
      obtain ⟨he1, he2⟩ := c_ext (u := u) hn hT
      have z1 : zcc g 0 lv false = (zpn g 2 : Int) := rfl
      have z2 : zcc g 0 lv true = 0 := rfl
      have z3 : zsz g 0 = (zpn g 1 : Int) := rfl
      rw [z1] at ok1
      rw [z3] at ok3
      by_cases c : (zpn g 2 : Int) = 0
      · refine ⟨J1, K, ?_, q⟩
        rw [zch_y (kd := 0) (by omega) (by rw [z1]; omega) (by rw [z1, z2]; exact c)]
        simp (disch := omega) only [l_X11_chosen_2, b_X11_chosen_2, b_X11_chosen_35, f_X5_easedClashes, ↓dhi_X, ↓dhG_X_0, ↓dhG_X_1, ↓dhG_X_2, ↓dhg_X_3, ↓dhq_X_3, ↓dhG_X_4, ↓dhG_X_5, ↓dhG_X_6, ↓dhg_X_7, ↓dhq_X_7, ↓dhG_X_8, ↓dhG_X_9, ↓dhG_X_10, ↓dhG_X_11, ↓dhG_X_12, ↓dhG_X_13, ↓dhG_X_14, ↓dhG_X_15, ↓dhG_X_16, ↓dhi_P, ↓dhg_P_0, ↓dhq_P_0, ↓dhG_P_1, ↓dhG_P_2, ↓dhG_P_3, ↓dhg_P_4, ↓dhq_P_4, ↓dhG_P_5, ↓dhg_P_6, ↓dhq_P_6, Option.bind_some, ↓nm_eq, ↓sm_inl, ↓sm_inr, ↓dzo_0, ↓dzo_1, ↓drg_ok, ↓if_pos, ↓if_neg, if_pos, if_neg, if_true, if_false, Int.toNat_natCast, rg_ok, ↓bnd e', ↓bnd he1, ↓bnd he2, dsp_0, if_true]
      · refine next J1 q (zch_n (kd := 0) (by omega) (Or.inr (by rw [z1, z2]; exact c))) ?_
        simp (disch := omega) only [l_X11_chosen_2, b_X11_chosen_2, b_X11_chosen_35, f_X5_easedClashes, ↓dhi_X, ↓dhG_X_0, ↓dhG_X_1, ↓dhG_X_2, ↓dhg_X_3, ↓dhq_X_3, ↓dhG_X_4, ↓dhG_X_5, ↓dhG_X_6, ↓dhg_X_7, ↓dhq_X_7, ↓dhG_X_8, ↓dhG_X_9, ↓dhG_X_10, ↓dhG_X_11, ↓dhG_X_12, ↓dhG_X_13, ↓dhG_X_14, ↓dhG_X_15, ↓dhG_X_16, ↓dhi_P, ↓dhg_P_0, ↓dhq_P_0, ↓dhG_P_1, ↓dhG_P_2, ↓dhG_P_3, ↓dhg_P_4, ↓dhq_P_4, ↓dhG_P_5, ↓dhg_P_6, ↓dhq_P_6, Option.bind_some, ↓nm_eq, ↓sm_inl, ↓sm_inr, ↓dzo_0, ↓dzo_1, ↓drg_ok, ↓if_pos, ↓if_neg, if_pos, if_neg, if_true, if_false, Int.toNat_natCast, rg_ok, ↓bnd e', ↓bnd he1, ↓bnd he2, dsp_0, if_true]
        rfl
    · have hk1 : 1 ≤ kd ∧ kd ≤ 3 := by omega
      obtain ⟨hv, hva⟩ := tb_m hk1
      have he := c_ext9 (u := u) hT hk1
      have hsc := zsz_c (g := g) (kd := kd) (lv := lv) hk1.1
      by_cases c1 : zsz g kd = -2
      · refine next J1 q (zch_n (kd := kd) hm (Or.inl (hsc.mp c1))) ?_
        simp (disch := omega) only [l_X11_chosen_2, b_X11_chosen_2, b_X11_chosen_35, ↓dhi_X, ↓dhG_X_0, ↓dhG_X_1, ↓dhG_X_2, ↓dhg_X_3, ↓dhq_X_3, ↓dhG_X_4, ↓dhG_X_5, ↓dhG_X_6, ↓dhg_X_7, ↓dhq_X_7, ↓dhG_X_8, ↓dhG_X_9, ↓dhG_X_10, ↓dhG_X_11, ↓dhG_X_12, ↓dhG_X_13, ↓dhG_X_14, ↓dhG_X_15, ↓dhG_X_16, ↓dhi_S hv, ↓dhg_S_0 hv, ↓dhq_S_0 hv, ↓dhG_S_1 hv, ↓dhg_S_2 hv, ↓dhq_S_2 hv, ↓dhG_S_3 hv, ↓dhG_S_4 hv, ↓dhG_S_5 hv, ↓dhg_S_6 hv, ↓dhq_S_6 hv, ↓dhg_S_7 hv, ↓dhq_S_7 hv, ↓dhg_S_8 hv, ↓dhq_S_8 hv, ↓dhg_S_9 hv, ↓dhq_S_9 hv, ↓dhG_S_10 hv, ↓dhG_S_11 hv, ↓dhg_S_12 hv, ↓dhq_S_12 hv, ↓dha_S_1 hv, ↓dhs_S_1 hv, ↓dhl_S_1 hv, ↓dha_S_2 hv, ↓dhs_S_2 hv, ↓dhl_S_2 hv, Option.bind_some, ↓nm_eq, ↓sm_inl, ↓sm_inr, ↓dzo_0, ↓dzo_1, ↓drg_ok, ↓if_pos, ↓if_neg, if_pos, if_neg, if_true, if_false, Int.toNat_natCast, rg_ok, ↓bnd e, ↓bnd he, dsp_1 hk1, if_false]
        rfl
      · obtain ⟨J2, e2, q2, hT2⟩ := c_cnt9 (u := u) hn hT (hl.frq q.1) hk1 false
        obtain ⟨J3, e3, q3, hT3⟩ := c_cnt9 (u := u) hn hT2 (hl.frq (q.tr q2).1) hk1 true
        rw [b01_f] at e2
        rw [b01_t] at e3
        have e2' : f_X9_clashes n (tb kd) (hp u J1 K) = some (zcc g kd lv false, hp u J2 K) := by
          simp (disch := omega) only [f_X9_clashes, ↓dhi_S hv, ↓dhg_S_0 hv, ↓dhq_S_0 hv, ↓dhG_S_1 hv, ↓dhg_S_2 hv, ↓dhq_S_2 hv, ↓dhG_S_3 hv, ↓dhG_S_4 hv, ↓dhG_S_5 hv, ↓dhg_S_6 hv, ↓dhq_S_6 hv, ↓dhg_S_7 hv, ↓dhq_S_7 hv, ↓dhg_S_8 hv, ↓dhq_S_8 hv, ↓dhg_S_9 hv, ↓dhq_S_9 hv, ↓dhG_S_10 hv, ↓dhG_S_11 hv, ↓dhg_S_12 hv, ↓dhq_S_12 hv, ↓dha_S_1 hv, ↓dhs_S_1 hv, ↓dhl_S_1 hv, ↓dha_S_2 hv, ↓dhs_S_2 hv, ↓dhl_S_2 hv, Option.bind_some, ↓nm_eq, ↓sm_inl, ↓sm_inr, ↓dzo_0, ↓dzo_1, ↓drg_ok, ↓if_pos, ↓if_neg, if_pos, if_neg, if_true, if_false, Int.toNat_natCast, rg_ok, ↓bnd e2]
        have e3' : f_X9_easedClashes n (tb kd) (hp u J2 K) = some (zcc g kd lv true, hp u J3 K) := by
          simp (disch := omega) only [f_X9_easedClashes, ↓dhi_S hv, ↓dhg_S_0 hv, ↓dhq_S_0 hv, ↓dhG_S_1 hv, ↓dhg_S_2 hv, ↓dhq_S_2 hv, ↓dhG_S_3 hv, ↓dhG_S_4 hv, ↓dhG_S_5 hv, ↓dhg_S_6 hv, ↓dhq_S_6 hv, ↓dhg_S_7 hv, ↓dhq_S_7 hv, ↓dhg_S_8 hv, ↓dhq_S_8 hv, ↓dhg_S_9 hv, ↓dhq_S_9 hv, ↓dhG_S_10 hv, ↓dhG_S_11 hv, ↓dhg_S_12 hv, ↓dhq_S_12 hv, ↓dha_S_1 hv, ↓dhs_S_1 hv, ↓dhl_S_1 hv, ↓dha_S_2 hv, ↓dhs_S_2 hv, ↓dhl_S_2 hv, Option.bind_some, ↓nm_eq, ↓sm_inl, ↓sm_inr, ↓dzo_0, ↓dzo_1, ↓drg_ok, ↓if_pos, ↓if_neg, if_pos, if_neg, if_true, if_false, Int.toNat_natCast, rg_ok, ↓bnd e3]
        by_cases c2 : zcc g kd lv false = zcc g kd lv true
        · refine ⟨J3, K, ?_, (q.tr q2).tr q3⟩
          rw [zch_y (kd := kd) hm (fun z => c1 (hsc.mpr z)) c2]
          simp (disch := omega) only [l_X11_chosen_2, b_X11_chosen_2, b_X11_chosen_35, ↓dhi_X, ↓dhG_X_0, ↓dhG_X_1, ↓dhG_X_2, ↓dhg_X_3, ↓dhq_X_3, ↓dhG_X_4, ↓dhG_X_5, ↓dhG_X_6, ↓dhg_X_7, ↓dhq_X_7, ↓dhG_X_8, ↓dhG_X_9, ↓dhG_X_10, ↓dhG_X_11, ↓dhG_X_12, ↓dhG_X_13, ↓dhG_X_14, ↓dhG_X_15, ↓dhG_X_16, ↓dhi_S hv, ↓dhg_S_0 hv, ↓dhq_S_0 hv, ↓dhG_S_1 hv, ↓dhg_S_2 hv, ↓dhq_S_2 hv, ↓dhG_S_3 hv, ↓dhG_S_4 hv, ↓dhG_S_5 hv, ↓dhg_S_6 hv, ↓dhq_S_6 hv, ↓dhg_S_7 hv, ↓dhq_S_7 hv, ↓dhg_S_8 hv, ↓dhq_S_8 hv, ↓dhg_S_9 hv, ↓dhq_S_9 hv, ↓dhG_S_10 hv, ↓dhG_S_11 hv, ↓dhg_S_12 hv, ↓dhq_S_12 hv, ↓dha_S_1 hv, ↓dhs_S_1 hv, ↓dhl_S_1 hv, ↓dha_S_2 hv, ↓dhs_S_2 hv, ↓dhl_S_2 hv, Option.bind_some, ↓nm_eq, ↓sm_inl, ↓sm_inr, ↓dzo_0, ↓dzo_1, ↓drg_ok, ↓if_pos, ↓if_neg, if_pos, if_neg, if_true, if_false, Int.toNat_natCast, rg_ok, ↓bnd e, ↓bnd he, ↓bnd e2', ↓bnd e3', dsp_1 hk1, if_false]
        · refine next J3 ((q.tr q2).tr q3) (zch_n (kd := kd) hm (Or.inr c2)) ?_
          simp (disch := omega) only [l_X11_chosen_2, b_X11_chosen_2, b_X11_chosen_35, ↓dhi_X, ↓dhG_X_0, ↓dhG_X_1, ↓dhG_X_2, ↓dhg_X_3, ↓dhq_X_3, ↓dhG_X_4, ↓dhG_X_5, ↓dhG_X_6, ↓dhg_X_7, ↓dhq_X_7, ↓dhG_X_8, ↓dhG_X_9, ↓dhG_X_10, ↓dhG_X_11, ↓dhG_X_12, ↓dhG_X_13, ↓dhG_X_14, ↓dhG_X_15, ↓dhG_X_16, ↓dhi_S hv, ↓dhg_S_0 hv, ↓dhq_S_0 hv, ↓dhG_S_1 hv, ↓dhg_S_2 hv, ↓dhq_S_2 hv, ↓dhG_S_3 hv, ↓dhG_S_4 hv, ↓dhG_S_5 hv, ↓dhg_S_6 hv, ↓dhq_S_6 hv, ↓dhg_S_7 hv, ↓dhq_S_7 hv, ↓dhg_S_8 hv, ↓dhq_S_8 hv, ↓dhg_S_9 hv, ↓dhq_S_9 hv, ↓dhG_S_10 hv, ↓dhG_S_11 hv, ↓dhg_S_12 hv, ↓dhq_S_12 hv, ↓dha_S_1 hv, ↓dhs_S_1 hv, ↓dhl_S_1 hv, ↓dha_S_2 hv, ↓dhs_S_2 hv, ↓dhl_S_2 hv, Option.bind_some, ↓nm_eq, ↓sm_inl, ↓sm_inr, ↓dzo_0, ↓dzo_1, ↓drg_ok, ↓if_pos, ↓if_neg, if_pos, if_neg, if_true, if_false, Int.toNat_natCast, rg_ok, ↓bnd e, ↓bnd he, ↓bnd e2', ↓bnd e3', dsp_1 hk1, if_false]
          rfl
end CHO
