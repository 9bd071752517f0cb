/-! ===== a text typed and told, a turn, the law ===== -/
section TT
variable {n : Nat} {L : Nat} {xs : Nat → Int} {u : Nat} {nw : Nat} {J K : Nat → Nat → Int} {r : Nat → Nat → Int → Int → Int → Int → gi_H → Option (Int × gi_H)} {i z : Nat}
variable {ps ps1 : List (Nat × List Nat)} {rs rs1 : List (Nat × List Int)} {t : List Int} {lv sd : Nat → Int} {w : Nat → Nat} {tp tq : Nat}
theorem getD_snoc {α : Type} (l : List α) (a d : α) : (l ++ [a]).getD ((l ++ [a]).length - 1) d = a ∧ (l ++ [a]).take ((l ++ [a]).length - 1) = l := by
  have e : (l ++ [a]).length - 1 = l.length := by rw [List.length_append, List.length_singleton]; omega
  rw [e]
  constructor
  · rw [List.getD_eq_getElem?_getD, List.getElem?_append_right (Nat.le_refl _), Nat.sub_self]; rfl
  · exact List.take_left
theorem t_told (hn : 1000000000000000000000000000000 ≤ n) (h : JV u ps rs ps1 rs1 t lv sd w nw tp tq J K) (h7 : nw ≤ 7) (hi : i < 26) (hv : vld t) (h0 : J 161 0 = tl t 0) (hs0 : 65 ≤ J 161 0 ∧ J 161 0 ≤ 68) : TRN n L xs r i (b_L_law_187 n L xs r 0 161 (u : Int) (nw : Int) 1 (i : Int) (hp u J K)) := by
  have e1 := k_productions h
  have h24 := h.r24
  rcases k_enter hn h hv with ⟨ps', J1, hrd, e2, h1, f1⟩ | ⟨hrd, J1, e2, h1, f1⟩
  · have hpx := rd0_px hrd
    have hlen := hpx.2
    have hl1 := h1.r24
    have e3 := k_productions h1
    have e4 := k_left h1 (p := ps'.length - 1) (by omega)
    rw [rd0_last hrd] at e4
    have e5 := k_leftN h1
    obtain ⟨hc, J2, e6, h2, f2⟩ := k_undo1 h1 (by simp)
    obtain ⟨q1, q2⟩ := getD_snoc rs (ps.length, t) (0, [])
    rw [q1] at hc e6 h2
    rw [q2, take_px hpx.1] at h2
    rcases k_enter hn h2 hv with ⟨ps'', J3, hrd', e7, h3, -⟩ | ⟨hrd', -⟩
    · have ee : ps'' = ps' := Option.some.inj (hrd'.symm.trans hrd)
      subst ee
      have f10 : J1 161 (Int.toNat 0) = tl t 0 := by show J1 161 0 = _; rw [f1, h0]
      rw [h0] at hs0
      obtain ⟨d, hd⟩ : ∃ d : Int, d = (((tl t 0 - 65).toNat : Nat) : Int) := ⟨_, rfl⟩
      have hd2 : d = tl t 0 - 65 := by omega
      have ec : ((ps''.length - 1 : Nat) : Int) = (ps''.length : Int) - 1 := by omega
      rw [← hd, ec] at e4
      have ep : ps.length = (ps.length, t).1 := rfl
      dsimp only at e6
      refine ⟨u, nw, J3, K, ?_, ⟨_, _, ps1, rs1, t, lv, sd, w, tp, tq, h3⟩, h7⟩
      clear hd hrd hrd' hpx
      generalize ps''.length = N at *
      generalize ps.length = M at *
      generalize tl t 0 = s0 at *
      have s1 : b_L_law_187 n L xs r 0 161 (u : Int) (nw : Int) 1 (i : Int) (hp u J K) = b_L_law_277 n L xs r 0 161 (u : Int) (nw : Int) (i : Int) (M : Int) (N : Int) 1 (hp u J1 K) := by
        simp (disch := omega) only [b_L_law_187, ↓dha_161, ↓dhs_161, ↓dhl_161, ↓dhi_X, ↓dhG_X_0, ↓dhG_X_1, ↓dhG_X_2, ↓dhg_X_3, ↓dhq_X_3, ↓dhG_X_4, ↓dhG_X_5, ↓dhG_X_6, ↓dhg_X_7, ↓dhq_X_7, ↓dhG_X_8, ↓dhG_X_9, ↓dhG_X_10, ↓dhG_X_11, ↓dhG_X_12, ↓dhG_X_13, ↓dhG_X_14, ↓dhG_X_15, ↓dhG_X_16, Option.bind_some, ↓nm_eq, ↓sm_inl, ↓sm_inr, ↓dzo_0, ↓dzo_1, ↓drg_ok, ↓if_pos, ↓if_neg, if_pos, if_neg, if_true, if_false, Int.toNat_natCast, rg_ok, ↓bnd e1, ↓bnd e2, ↓bnd e3, ↓bnd e4, ↓bnd e5, f10]
      rw [s1]
      simp (disch := omega) only [b_L_law_277, b_L_law_307, b_L_law_312, b_L_law_314, ↓dhi_X, ↓dhG_X_0, ↓dhG_X_1, ↓dhG_X_2, ↓dhg_X_3, ↓dhq_X_3, ↓dhG_X_4, ↓dhG_X_5, ↓dhG_X_6, ↓dhg_X_7, ↓dhq_X_7, ↓dhG_X_8, ↓dhG_X_9, ↓dhG_X_10, ↓dhG_X_11, ↓dhG_X_12, ↓dhG_X_13, ↓dhG_X_14, ↓dhG_X_15, ↓dhG_X_16, Option.bind_some, ↓nm_eq, ↓sm_inl, ↓sm_inr, ↓dzo_0, ↓dzo_1, ↓drg_ok, ↓if_pos, ↓if_neg, if_pos, if_neg, if_true, if_false, Int.toNat_natCast, rg_ok, ↓bnd e6, ↓bnd e7]
    · rw [hrd] at hrd'; cases hrd'
  · have e3 := k_productions h1
    refine ⟨u, nw, J1, K, ?_, ⟨ps, rs, ps1, rs1, t, lv, sd, w, tp, tq, h1⟩, h7⟩
    generalize ps.length = M at *
    have s1 : b_L_law_187 n L xs r 0 161 (u : Int) (nw : Int) 1 (i : Int) (hp u J K) = b_L_law_277 n L xs r 0 161 (u : Int) (nw : Int) (i : Int) (M : Int) (-103) 1 (hp u J1 K) := by
      simp (disch := omega) only [b_L_law_187, ↓dhi_X, ↓dhG_X_0, ↓dhG_X_1, ↓dhG_X_2, ↓dhg_X_3, ↓dhq_X_3, ↓dhG_X_4, ↓dhG_X_5, ↓dhG_X_6, ↓dhg_X_7, ↓dhq_X_7, ↓dhG_X_8, ↓dhG_X_9, ↓dhG_X_10, ↓dhG_X_11, ↓dhG_X_12, ↓dhG_X_13, ↓dhG_X_14, ↓dhG_X_15, ↓dhG_X_16, Option.bind_some, ↓nm_eq, ↓sm_inl, ↓sm_inr, ↓dzo_0, ↓dzo_1, ↓drg_ok, ↓if_pos, ↓if_neg, if_pos, if_neg, if_true, if_false, Int.toNat_natCast, rg_ok, ↓bnd e1, ↓bnd e2, ↓bnd e3]
    rw [s1]
    simp (disch := omega) only [b_L_law_277, b_L_law_307, b_L_law_312, b_L_law_314, ↓dhi_X, ↓dhG_X_0, ↓dhG_X_1, ↓dhG_X_2, ↓dhg_X_3, ↓dhq_X_3, ↓dhG_X_4, ↓dhG_X_5, ↓dhG_X_6, ↓dhg_X_7, ↓dhq_X_7, ↓dhG_X_8, ↓dhG_X_9, ↓dhG_X_10, ↓dhG_X_11, ↓dhG_X_12, ↓dhG_X_13, ↓dhG_X_14, ↓dhG_X_15, ↓dhG_X_16, Option.bind_some, ↓nm_eq, ↓sm_inl, ↓sm_inr, ↓dzo_0, ↓dzo_1, ↓drg_ok, ↓if_pos, ↓if_neg, if_pos, if_neg, if_true, if_false, Int.toNat_natCast, rg_ok]
theorem t_146 (hn : 1000000000000000000000000000000 ≤ n) {m F : Nat} {S : Nat → Nat → Int} (h : JV u ps rs ps1 rs1 (sg S F) lv sd w nw tp tq J K) (h7 : nw ≤ 7) (hi : i < 26) (hm : m ≤ 12) (hF : F ≤ m) (hS : J 161 = S 161) (hs : ∀ j, j < m → tk (S 161 j) ≠ 8) (hf : F ≠ m → tf (tl (sg S (F + 1))) (F + 1) (F + 1) 0 0 0 = (F : Int)) : TRN n L xs r i (b_L_law_146 n L xs r 0 161 (u : Int) (nw : Int) (i : Int) (m : Int) (F : Int) (hp u J K)) := by
  have h24 := h.r24
  by_cases c : F = m
  · refine ⟨u, nw, J, K, ?_, ⟨ps, rs, ps1, rs1, _, lv, sd, w, tp, tq, h⟩, h7⟩
    simp (disch := omega) only [b_L_law_146, b_L_law_177, b_L_law_182, b_L_law_314, ↓dhi_X, ↓dhG_X_0, ↓dhG_X_1, ↓dhG_X_2, ↓dhg_X_3, ↓dhq_X_3, ↓dhG_X_4, ↓dhG_X_5, ↓dhG_X_6, ↓dhg_X_7, ↓dhq_X_7, ↓dhG_X_8, ↓dhG_X_9, ↓dhG_X_10, ↓dhG_X_11, ↓dhG_X_12, ↓dhG_X_13, ↓dhG_X_14, ↓dhG_X_15, ↓dhG_X_16, Option.bind_some, ↓nm_eq, ↓sm_inl, ↓sm_inr, ↓dzo_0, ↓dzo_1, ↓drg_ok, ↓if_pos, ↓if_neg, if_pos, if_neg, if_true, if_false, Int.toNat_natCast, rg_ok]
  · obtain ⟨J1, e1, h1, f1⟩ := k_type h (x := S 161 F) (hs F (by omega)) (by rw [sg_len]; omega)
    rw [← sg_s] at h1
    have e2 := k_fault hn h1
    rw [sg_len] at e1 e2
    rw [hf c] at e2
    have ej : J 161 F = S 161 F := by rw [hS]
    refine ⟨u, nw, J1, K, ?_, ⟨ps, rs, ps1, rs1, _, lv, sd, w, tp, tq, h1⟩, h7⟩
    simp (disch := omega) only [b_L_law_146, b_L_law_177, b_L_law_182, b_L_law_314, ↓dha_161, ↓dhs_161, ↓dhl_161, ↓dhi_X, ↓dhG_X_0, ↓dhG_X_1, ↓dhG_X_2, ↓dhg_X_3, ↓dhq_X_3, ↓dhG_X_4, ↓dhG_X_5, ↓dhG_X_6, ↓dhg_X_7, ↓dhq_X_7, ↓dhG_X_8, ↓dhG_X_9, ↓dhG_X_10, ↓dhG_X_11, ↓dhG_X_12, ↓dhG_X_13, ↓dhG_X_14, ↓dhG_X_15, ↓dhG_X_16, Option.bind_some, ↓nm_eq, ↓sm_inl, ↓sm_inr, ↓dzo_0, ↓dzo_1, ↓drg_ok, ↓if_pos, ↓if_neg, if_pos, if_neg, if_true, if_false, Int.toNat_natCast, rg_ok, ↓bnd e1, ↓bnd e2, ej]
theorem sg_tf {S : Nat → Nat → Int} {m k : Nat} (hk : k ≤ m) (n' : Nat) : tf (tl (sg S m)) n' k 0 0 0 = tf (tl (sg S k)) n' k 0 0 0 := tf_congr _ _ _ _ (fun j _ hj => by rw [sg_at (by omega), sg_at (by omega)])
theorem t_text (hn : 1000000000000000000000000000000 ≤ n) (hL : L ≤ 260) (h : JX u nw J K) (h7 : nw ≤ 7) (hi : i < 26) (hz : z ≤ 200000000) {kd : Nat} (hk : kd < 4) : TRN n L xs r i (b_L_law_66 n L xs r 0 161 (u : Int) (nw : Int) 1 (i : Int) (z : Int) (kd : Int) (hp u J K)) := by
  obtain ⟨ps, rs, ps1, rs1, t, lv, sd, w, tp, tq, h⟩ := h
  have hmk : gi_mk (hp u J K) = some () := if_pos (show 162 < 100000 by omega)
  obtain ⟨m, Ja, e1, fa, hm, hs, h65, h68⟩ := c_draws (n := n) (xs := xs) hn hL (u := u) (J := J) (K := K) hi (z := z) (by omega)
  obtain ⟨Jb, e2, hb, fb⟩ := c_types (n := n) (h.sig fa) (m := m) (by omega) hs
  have e3 := k_fault hn hb
  rw [sg_len] at e3
  obtain ⟨F, hF⟩ : ∃ F, F = tf (tl (sg Ja m)) m m 0 0 0 := ⟨_, rfl⟩
  have hr := tf_rg (t := tl (sg Ja m)) (n := m) m 0 0 0 (by omega)
  rw [← hF] at e3 hr
  by_cases c : F < 0
  · have hv : vld (sg Ja m) := by unfold vld; rw [sg_len, ← hF]; omega
    have s1 : b_L_law_66 n L xs r 0 161 (u : Int) (nw : Int) 1 (i : Int) (z : Int) (kd : Int) (hp u J K) = b_L_law_187 n L xs r 0 161 (u : Int) (nw : Int) 1 (i : Int) (hp u Jb K) := by
      simp (disch := omega) only [b_L_law_66, ↓dhi_X, ↓dhG_X_0, ↓dhG_X_1, ↓dhG_X_2, ↓dhg_X_3, ↓dhq_X_3, ↓dhG_X_4, ↓dhG_X_5, ↓dhG_X_6, ↓dhg_X_7, ↓dhq_X_7, ↓dhG_X_8, ↓dhG_X_9, ↓dhG_X_10, ↓dhG_X_11, ↓dhG_X_12, ↓dhG_X_13, ↓dhG_X_14, ↓dhG_X_15, ↓dhG_X_16, Option.bind_some, ↓nm_eq, ↓sm_inl, ↓sm_inr, ↓dzo_0, ↓dzo_1, ↓drg_ok, ↓if_pos, ↓if_neg, if_pos, if_neg, if_true, if_false, Int.toNat_natCast, rg_ok, ↓bnd hmk, ↓bnd e1, ↓bnd e2, ↓bnd e3]
    rw [s1]
    exact t_told hn hb h7 hi hv (by rw [fb, sg_at (by omega)]) (by rw [fb]; exact ⟨h65, h68⟩)
  · obtain ⟨f, rfl⟩ : ∃ f : Nat, F = (f : Int) := ⟨F.toNat, by omega⟩
    obtain ⟨i1, i2, i3⟩ := tf_fault hF.symm
    have e4 := k_enter0 hn hb (by unfold vld; rw [sg_len, ← hF]; omega)
    obtain ⟨Jc, e5, hc, fc⟩ := c_types (n := n) hb (m := f) (by omega) (fun j hj => by rw [fb]; exact hs j (by omega))
    have e6 := k_fault hn hc
    have esg : sg Jb f = sg Ja f := by unfold sg; rw [fb]
    rw [sg_len, esg] at e6
    rw [esg] at hc
    rw [sg_tf i1] at i2
    have s1 : b_L_law_66 n L xs r 0 161 (u : Int) (nw : Int) 1 (i : Int) (z : Int) (kd : Int) (hp u J K) = b_L_law_146 n L xs r 0 161 (u : Int) (nw : Int) (i : Int) (m : Int) (f : Int) (hp u Jc K) := by
      rcases i2 with i2 | i2
      · rw [i2] at e6
        simp (disch := omega) only [b_L_law_66, ↓dhi_X, ↓dhG_X_0, ↓dhG_X_1, ↓dhG_X_2, ↓dhg_X_3, ↓dhq_X_3, ↓dhG_X_4, ↓dhG_X_5, ↓dhG_X_6, ↓dhg_X_7, ↓dhq_X_7, ↓dhG_X_8, ↓dhG_X_9, ↓dhG_X_10, ↓dhG_X_11, ↓dhG_X_12, ↓dhG_X_13, ↓dhG_X_14, ↓dhG_X_15, ↓dhG_X_16, Option.bind_some, ↓nm_eq, ↓sm_inl, ↓sm_inr, ↓dzo_0, ↓dzo_1, ↓drg_ok, ↓if_pos, ↓if_neg, if_pos, if_neg, if_true, if_false, Int.toNat_natCast, rg_ok, ↓bnd hmk, ↓bnd e1, ↓bnd e2, ↓bnd e3, ↓bnd e4, ↓bnd e5, ↓bnd e6]
      · rw [i2] at e6
        simp (disch := omega) only [b_L_law_66, ↓dhi_X, ↓dhG_X_0, ↓dhG_X_1, ↓dhG_X_2, ↓dhg_X_3, ↓dhq_X_3, ↓dhG_X_4, ↓dhG_X_5, ↓dhG_X_6, ↓dhg_X_7, ↓dhq_X_7, ↓dhG_X_8, ↓dhG_X_9, ↓dhG_X_10, ↓dhG_X_11, ↓dhG_X_12, ↓dhG_X_13, ↓dhG_X_14, ↓dhG_X_15, ↓dhG_X_16, Option.bind_some, ↓nm_eq, ↓sm_inl, ↓sm_inr, ↓dzo_0, ↓dzo_1, ↓drg_ok, ↓if_pos, ↓if_neg, if_pos, if_neg, if_true, if_false, Int.toNat_natCast, rg_ok, ↓bnd hmk, ↓bnd e1, ↓bnd e2, ↓bnd e3, ↓bnd e4, ↓bnd e5, ↓bnd e6]
    rw [s1]
    exact t_146 hn hc h7 hi hm.2 i1 (fc.trans fb) hs (fun z => by rw [← sg_tf (m := m) (by omega)]; exact i3 z)
theorem t_turn (hn : 1000000000000000000000000000000 ≤ n) (hL : L ≤ 260) (h : JX u nw J K) (h7 : nw ≤ 7) (hi : i < 26) : TRN n L xs r i (b_L_law_24 n L xs r 0 161 (u : Int) (nw : Int) 1 (i : Int) (hp u J K)) := by
  have hmk : gi_mk (hp u J K) = some () := if_pos (show 162 < 100000 by omega)
  have hu : u < 2 := by obtain ⟨ps, rs, ps1, rs1, t, lv, sd, w, tp, tq, h⟩ := h; exact h.1.1.1
  obtain ⟨c, hc, ec⟩ := c_cell (xs := xs) hL (k := (i : Int)) (by omega)
  have ec' := ec (hp u J K)
  obtain ⟨z, hz⟩ : ∃ z : Nat, (z : Int) = c / 16 := ⟨(c / 16).toNat, by omega⟩
  have key : ∃ kd : Nat, kd < 16 ∧ b_L_law_24 n L xs r 0 161 (u : Int) (nw : Int) 1 (i : Int) (hp u J K) = b_L_law_66 n L xs r 0 161 (u : Int) (nw : Int) 1 (i : Int) (z : Int) (kd : Int) (hp u J K) := by
    by_cases c4 : 4 ≤ i
    · obtain ⟨kd, hk⟩ : ∃ kd : Nat, (kd : Int) = c % 16 := ⟨(c % 16).toNat, by omega⟩
      refine ⟨kd, by omega, ?_⟩
      simp (disch := omega) only [b_L_law_24, dg_ok, Option.bind_some, ↓nm_eq, ↓sm_inl, ↓sm_inr, ↓dzo_0, ↓dzo_1, ↓drg_ok, ↓if_pos, ↓if_neg, if_pos, if_neg, if_true, if_false, Int.toNat_natCast, rg_ok, ↓bnd hmk, ↓bnd ec', ← hz, ← hk]
    · refine ⟨0, by omega, ?_⟩
      have e0 : ((0 : Nat) : Int) = 0 := rfl
      simp (disch := omega) only [b_L_law_24, dg_ok, Option.bind_some, ↓nm_eq, ↓sm_inl, ↓sm_inr, ↓dzo_0, ↓dzo_1, ↓drg_ok, ↓if_pos, ↓if_neg, if_pos, if_neg, if_true, if_false, Int.toNat_natCast, rg_ok, ↓bnd hmk, ↓bnd ec', ← hz, e0]
  obtain ⟨kd, hk, s1⟩ := key
  rw [s1]
  have hz2 : z ≤ 200000000 := by omega
  by_cases k4 : kd < 4
  · exact t_text hn hL h h7 hi hz2 k4
  by_cases k4 : kd = 4
  · subst k4; exact t_undo h h7 hi hz2
  by_cases k5 : kd = 5
  · subst k5; exact t_use h h7 hi hz2
  by_cases k6 : kd = 6 ∧ z % 2 = 0
  · obtain ⟨rfl, k6⟩ := k6; exact t_bring hn h h7 hi hz2 k6
  have s2 : b_L_law_66 n L xs r 0 161 (u : Int) (nw : Int) 1 (i : Int) (z : Int) (kd : Int) (hp u J K) = b_L_law_503 n L xs r 0 161 (u : Int) (nw : Int) 1 (i : Int) (z : Int) (kd : Int) (hp u J K) := by
    by_cases k7 : kd = 6
    · subst k7
      simp (disch := omega) only [b_L_law_66, dg_ok, Option.bind_some, ↓nm_eq, ↓sm_inl, ↓sm_inr, ↓dzo_0, ↓dzo_1, ↓drg_ok, ↓if_pos, ↓if_neg, if_pos, if_neg, if_true, if_false, Int.toNat_natCast, rg_ok]
    · simp (disch := omega) only [b_L_law_66, Option.bind_some, ↓nm_eq, ↓sm_inl, ↓sm_inr, ↓dzo_0, ↓dzo_1, ↓drg_ok, ↓if_pos, ↓if_neg, if_pos, if_neg, if_true, if_false, Int.toNat_natCast, rg_ok]
  rw [s2]
  exact t_503 hn h h7 hi hz2 hk
theorem t_loop (hn : 1000000000000000000000000000000 ≤ n) (hL : L ≤ 260) : ∀ (d i u nw : Nat) (J K : Nat → Nat → Int), i + d = 26 → JX u nw J K → nw ≤ 7 → ∃ h1, l_L_law_24 n L xs (d + 1) 0 161 (u : Int) (nw : Int) 1 (i : Int) (hp u J K) = some (1, h1)
  | 0, i, u, nw, J, K, hi, h, h7 => by
    refine ⟨hp u J K, ?_⟩
    show b_L_law_24 n L xs (l_L_law_24 n L xs 0) 0 161 (u : Int) (nw : Int) 1 (i : Int) (hp u J K) = _
    simp (disch := omega) only [b_L_law_24, Option.bind_some, ↓nm_eq, ↓sm_inl, ↓sm_inr, ↓dzo_0, ↓dzo_1, ↓drg_ok, ↓if_pos, ↓if_neg, if_pos, if_neg, if_true, if_false, Int.toNat_natCast, rg_ok]
  | d + 1, i, u, nw, J, K, hi, h, h7 => by
    obtain ⟨u1, nw1, J1, K1, e1, h1, h71⟩ := t_turn (r := l_L_law_24 n L xs (d + 1)) (xs := xs) hn hL h h7 (i := i) (by omega)
    obtain ⟨J2, K2, e2, h2⟩ := t_849 (L := L) (xs := xs) hn h1 (i := i) (by omega) (l_L_law_24 n L xs (d + 1))
    obtain ⟨h9, e9⟩ := t_loop hn hL d (i + 1) u1 nw1 J2 K2 (by omega) h2 h71
    refine ⟨h9, ?_⟩
    show b_L_law_24 n L xs (l_L_law_24 n L xs (d + 1)) 0 161 (u : Int) (nw : Int) 1 (i : Int) (hp u J K) = _
    rw [e1, e2, e9]
end TT
theorem law_pure (L : Nat) (xs : Nat → Int) (hL : L ≤ 260) (hx : ∀ j, gi_ok (xs j)) : ∃ (n : Nat) (h1 : gi_H), f_L_law n L xs (0, fun _ => (0, 0), fun _ _ => 0, fun _ _ => 0, fun _ _ => none) = some (1, h1) := by
  obtain ⟨h1, e1⟩ := t_loop (n := gN) (L := L) (xs := xs) (by decide) hL 26 0 0 0 (gi_I h0) (gi_L h0) (by omega) jx_0 (by omega)
  refine ⟨gN, h1, ?_⟩
  rw [law_h0, h0_eq]
  exact e1
