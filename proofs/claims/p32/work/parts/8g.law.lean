/-! ===== the law's turns ===== -/
section LW
variable {n : Nat} {L : Nat} {xs : Nat → Int} {u : Nat} {nw : Nat} {J K : Nat → Nat → Int}
/-- what every turn ends with -/
theorem t_849 (hn : 1000000000000000000000000000000 ≤ n) (h : JX u nw J K) {i : Nat} (hi : i < 26) (r : Nat → Nat → Int → Int → Int → Int → gi_H → Option (Int × gi_H)) : ∃ J1 K1, b_L_law_849 n L xs r 0 161 (u : Int) (nw : Int) 1 (i : Int) (hp u J K) = r 0 161 (u : Int) (nw : Int) 1 ((i + 1 : Nat) : Int) (hp u J1 K1) ∧ JX u nw J1 K1 := by
  obtain ⟨ps, rs, ps1, rs1, t, lv, sd, w, tp, tq, h⟩ := h
  have key : ∀ J K, JV u ps rs ps1 rs1 t lv sd w nw tp tq J K → ∃ J1 K1, b_L_law_868 n L xs r 0 161 (u : Int) (nw : Int) (i : Int) (hp u J K) = r 0 161 (u : Int) (nw : Int) 1 ((i + 1 : Nat) : Int) (hp u J1 K1) ∧ JX u nw J1 K1 := by
    intro J K h
    obtain ⟨J1, K1, e1, q1⟩ := ck_parses hn h
    have h1 := (h.c q1).1
    obtain ⟨J2, K2, e2, q2⟩ := ck_names hn h1
    have h2 := (h1.c q2).1
    have e3 := k_rightN h2
    refine ⟨J2, K2, ?_, ps, rs, ps1, rs1, t, lv, sd, w, tp, tq, h2⟩
    have ei : (i : Int) + 1 = ((i + 1 : Nat) : Int) := rfl
    simp (disch := omega) only [b_L_law_868, b_L_law_900, ↓bnd e1, ↓bnd e2, ↓bnd e3, Option.bind_some, ↓nm_eq, ↓sm_inl, ↓sm_inr, ↓dzo_0, ↓dzo_1, ↓drg_ok, ↓if_pos, ↓if_neg, if_pos, if_neg, if_true, if_false, Int.toNat_natCast, rg_ok, ei]
  by_cases c : i % 3 = 0
  · obtain ⟨J1, K1, e1, q1⟩ := ck_tables hn h
    obtain ⟨J2, K2, e2, h2⟩ := key J1 K1 (h.c q1).1
    refine ⟨J2, K2, ?_, h2⟩
    rw [← e2]
    simp (disch := omega) only [b_L_law_849, dg_ok, ↓bnd e1, Option.bind_some, ↓nm_eq, ↓sm_inl, ↓sm_inr, ↓dzo_0, ↓dzo_1, ↓drg_ok, ↓if_pos, ↓if_neg, if_pos, if_neg, if_true, if_false, Int.toNat_natCast, rg_ok]
  · obtain ⟨J2, K2, e2, h2⟩ := key J K h
    refine ⟨J2, K2, ?_, h2⟩
    rw [← e2]
    simp (disch := omega) only [b_L_law_849, dg_ok, Option.bind_some, ↓nm_eq, ↓sm_inl, ↓sm_inr, ↓dzo_0, ↓dzo_1, ↓drg_ok, ↓if_pos, ↓if_neg, if_pos, if_neg, if_true, if_false, Int.toNat_natCast, rg_ok]
/-- what a turn does first: it comes to its end -/
def TRN (n L : Nat) (xs : Nat → Int) (r : Nat → Nat → Int → Int → Int → Int → gi_H → Option (Int × gi_H)) (i : Nat) (A : Option (Int × gi_H)) : Prop := ∃ (u1 nw1 : Nat) (J1 K1 : Nat → Nat → Int), A = b_L_law_849 n L xs r 0 161 (u1 : Int) (nw1 : Int) 1 (i : Int) (hp u1 J1 K1) ∧ JX u1 nw1 J1 K1 ∧ nw1 ≤ 7
variable {r : Nat → Nat → Int → Int → Int → Int → gi_H → Option (Int × gi_H)} {i z : Nat}
theorem t_undo (h : JX u nw J K) (h7 : nw ≤ 7) (hi : i < 26) (hz : z ≤ 200000000) : TRN n L xs r i (b_L_law_66 n L xs r 0 161 (u : Int) (nw : Int) 1 (i : Int) (z : Int) 4 (hp u J K)) := by
  obtain ⟨ps, rs, ps1, rs1, t, lv, sd, w, tp, tq, h⟩ := h
  have e1 := k_productions h
  have h24 := h.r24
  by_cases c : rs = []
  · have hp0 : ps.length = 0 := by rw [h.1.2.1.1 c]; rfl
    have e2 := k_undo0 h c
    refine ⟨u, nw, J, K, ?_, ⟨ps, rs, ps1, rs1, t, lv, sd, w, tp, tq, h⟩, h7⟩
    simp (disch := omega) only [b_L_law_66, b_L_law_381, ↓dhi_X, ↓dhG_X_0, ↓dhG_X_1, ↓dhG_X_2, ↓dhg_X_3, ↓dhq_X_3, ↓dhG_X_4, ↓dhG_X_5, ↓dhG_X_6, ↓dhg_X_7, ↓dhq_X_7, ↓dhG_X_8, ↓dhG_X_9, ↓dhG_X_10, ↓dhG_X_11, ↓dhG_X_12, ↓dhG_X_13, ↓dhG_X_14, ↓dhG_X_15, ↓dhG_X_16, Option.bind_some, ↓nm_eq, ↓sm_inl, ↓sm_inr, ↓dzo_0, ↓dzo_1, ↓drg_ok, ↓if_pos, ↓if_neg, if_pos, if_neg, if_true, if_false, Int.toNat_natCast, rg_ok, ↓bnd e1, ↓bnd e2]
  · obtain ⟨hc, J1, e2, h1, -⟩ := k_undo1 h c
    have e3 := k_productions h1
    rw [List.length_take, Nat.min_eq_left (by omega)] at e3
    refine ⟨u, nw, J1, K, ?_, ⟨_, _, ps1, rs1, t, lv, sd, w, tp, tq, h1⟩, h7⟩
    generalize (rs.getD (rs.length - 1) (0, [])).1 = c at *
    simp (disch := omega) only [b_L_law_66, b_L_law_381, ↓dhi_X, ↓dhG_X_0, ↓dhG_X_1, ↓dhG_X_2, ↓dhg_X_3, ↓dhq_X_3, ↓dhG_X_4, ↓dhG_X_5, ↓dhG_X_6, ↓dhg_X_7, ↓dhq_X_7, ↓dhG_X_8, ↓dhG_X_9, ↓dhG_X_10, ↓dhG_X_11, ↓dhG_X_12, ↓dhG_X_13, ↓dhG_X_14, ↓dhG_X_15, ↓dhG_X_16, Option.bind_some, ↓nm_eq, ↓sm_inl, ↓sm_inr, ↓dzo_0, ↓dzo_1, ↓drg_ok, ↓if_pos, ↓if_neg, if_pos, if_neg, if_true, if_false, Int.toNat_natCast, rg_ok, ↓bnd e1, ↓bnd e2, ↓bnd e3]
theorem t_use (h : JX u nw J K) (h7 : nw ≤ 7) (hi : i < 26) (hz : z ≤ 200000000) : TRN n L xs r i (b_L_law_66 n L xs r 0 161 (u : Int) (nw : Int) 1 (i : Int) (z : Int) 5 (hp u J K)) := by
  obtain ⟨ps, rs, ps1, rs1, t, lv, sd, w, tp, tq, h⟩ := h
  have hu := h.1.1.1
  obtain ⟨b, hb⟩ : ∃ b, b = z % 2 := ⟨_, rfl⟩
  have eb : (z : Int) % 2 = (b : Int) := by omega
  by_cases c : b = u
  · subst c
    have e2 := k_use0 h
    refine ⟨b, nw, J, K, ?_, ⟨ps, rs, ps1, rs1, t, lv, sd, w, tp, tq, h⟩, h7⟩
    simp (disch := omega) only [b_L_law_66, b_L_law_409, dg_ok, eb, ↓dhi_X, ↓dhG_X_0, ↓dhG_X_1, ↓dhG_X_2, ↓dhg_X_3, ↓dhq_X_3, ↓dhG_X_4, ↓dhG_X_5, ↓dhG_X_6, ↓dhg_X_7, ↓dhq_X_7, ↓dhG_X_8, ↓dhG_X_9, ↓dhG_X_10, ↓dhG_X_11, ↓dhG_X_12, ↓dhG_X_13, ↓dhG_X_14, ↓dhG_X_15, ↓dhG_X_16, Option.bind_some, ↓nm_eq, ↓sm_inl, ↓sm_inr, ↓dzo_0, ↓dzo_1, ↓drg_ok, ↓if_pos, ↓if_neg, if_pos, if_neg, if_true, if_false, Int.toNat_natCast, rg_ok, ↓bnd e2]
  · have hb1 : b = 1 - u := by omega
    obtain ⟨J1, e2, h1, -⟩ := k_use1 h
    rw [← hb1] at e2 h1
    refine ⟨b, nw, J1, K, ?_, ⟨ps1, rs1, ps, rs, t, lv, sd, w, tq, tp, h1⟩, h7⟩
    simp (disch := omega) only [b_L_law_66, b_L_law_409, dg_ok, eb, ↓dhi_X, ↓dhG_X_0, ↓dhG_X_1, ↓dhG_X_2, ↓dhg_X_3, ↓dhq_X_3, ↓dhG_X_4, ↓dhG_X_5, ↓dhG_X_6, ↓dhg_X_7, ↓dhq_X_7, ↓dhG_X_8, ↓dhG_X_9, ↓dhG_X_10, ↓dhG_X_11, ↓dhG_X_12, ↓dhG_X_13, ↓dhG_X_14, ↓dhG_X_15, ↓dhG_X_16, Option.bind_some, ↓nm_eq, ↓sm_inl, ↓sm_inr, ↓dzo_0, ↓dzo_1, ↓drg_ok, ↓if_pos, ↓if_neg, if_pos, if_neg, if_true, if_false, Int.toNat_natCast, rg_ok, ↓bnd e2]
theorem INS_wi {w : Nat → Nat} {p q : Nat} : INS w (wi w p q) p := by
  refine ⟨fun i hi => if_pos hi, fun i hi => ?_⟩
  unfold wi
  rw [if_neg (by omega), if_neg (by omega), Nat.add_sub_cancel]
theorem INS_wc {w : Nat → Nat} {p : Nat} : INS (wc w p) w p := by
  refine ⟨fun i hi => (if_pos hi).symm, fun i hi => (if_neg (by omega)).symm⟩
theorem t_503 (hn : 1000000000000000000000000000000 ≤ n) (h : JX u nw J K) (h7 : nw ≤ 7) (hi : i < 26) (hz : z ≤ 200000000) {kd : Nat} (hk : kd < 16) : TRN n L xs r i (b_L_law_503 n L xs r 0 161 (u : Int) (nw : Int) 1 (i : Int) (z : Int) (kd : Int) (hp u J K)) := by
  have hI := h
  obtain ⟨ps, rs, ps1, rs1, t, lv, sd, w, tp, tq, h⟩ := h
  have hg := h.gr
  by_cases c7 : kd = 7
  · subst c7
    obtain ⟨s, hs⟩ : ∃ s, s = z % 3 := ⟨_, rfl⟩
    have es : (z : Int) % 3 = (s : Int) := by omega
    have htp := h.1.1.2.2.2.2.1
    obtain ⟨J1, e1, h1, -⟩ := k_start h (s := s) (by omega)
    obtain ⟨J2, e2, h2, -⟩ := k_start h1 (s := s) (by omega)
    refine ⟨u, nw, J2, K, ?_, ⟨ps, rs, ps1, rs1, t, lv, sd, w, _, tq, h2⟩, h7⟩
    simp (disch := omega) only [b_L_law_503, b_L_law_541, dg_ok, es, ↓dhi_X, ↓dhG_X_0, ↓dhG_X_1, ↓dhG_X_2, ↓dhg_X_3, ↓dhq_X_3, ↓dhG_X_4, ↓dhG_X_5, ↓dhG_X_6, ↓dhg_X_7, ↓dhq_X_7, ↓dhG_X_8, ↓dhG_X_9, ↓dhG_X_10, ↓dhG_X_11, ↓dhG_X_12, ↓dhG_X_13, ↓dhG_X_14, ↓dhG_X_15, ↓dhG_X_16, Option.bind_some, ↓nm_eq, ↓sm_inl, ↓sm_inr, ↓dzo_0, ↓dzo_1, ↓drg_ok, ↓if_pos, ↓if_neg, if_pos, if_neg, if_true, if_false, Int.toNat_natCast, rg_ok, ↓bnd e1, ↓bnd e2]
  by_cases c8 : kd = 8
  · subst c8
    obtain ⟨s, hs⟩ : ∃ s, s = z % 3 := ⟨_, rfl⟩
    have es : (z : Int) % 3 = (s : Int) := by omega
    obtain ⟨y, hy⟩ : ∃ y : Int, y = (z : Int) / 3 % 6 := ⟨_, rfl⟩
    obtain ⟨v, hv⟩ : ∃ v : Int, v = (z : Int) / 18 % 3 := ⟨_, rfl⟩
    have hlv := (h.clv.1 s (by omega)).1
    obtain ⟨J1, e1, h1, -⟩ := k_level h (p := s) (y := y) (z := v) (by omega) (by omega) (by omega)
    obtain ⟨J2, e2, h2, -⟩ := k_level h1 (p := s) (y := y) (z := v) (by omega) (by omega) (by omega)
    rw [zup_eq] at e2
    refine ⟨u, nw, J2, K, ?_, ⟨ps, rs, ps1, rs1, t, _, _, w, tp, tq, h2⟩, h7⟩
    generalize lv s = l0 at *
    simp (disch := omega) only [b_L_law_503, b_L_law_615, dg_ok, es, ← hy, ← hv, ↓dhi_X, ↓dhG_X_0, ↓dhG_X_1, ↓dhG_X_2, ↓dhg_X_3, ↓dhq_X_3, ↓dhG_X_4, ↓dhG_X_5, ↓dhG_X_6, ↓dhg_X_7, ↓dhq_X_7, ↓dhG_X_8, ↓dhG_X_9, ↓dhG_X_10, ↓dhG_X_11, ↓dhG_X_12, ↓dhG_X_13, ↓dhG_X_14, ↓dhG_X_15, ↓dhG_X_16, Option.bind_some, ↓nm_eq, ↓sm_inl, ↓sm_inr, ↓dzo_0, ↓dzo_1, ↓drg_ok, ↓if_pos, ↓if_neg, if_pos, if_neg, if_true, if_false, Int.toNat_natCast, rg_ok, ↓bnd e1, ↓bnd e2]
  by_cases cp : kd < 13 ∧ nw < 7
  · obtain ⟨x, J1, K1, e1, q1, hx⟩ := k_repair hn h
    have h1 := (h.c q1).1
    obtain ⟨p, hp0⟩ : ∃ p, p = z % (nw + 1) := ⟨_, rfl⟩
    have hpl : p < nw + 1 := by rw [hp0]; exact Nat.mod_lt _ (by omega)
    have ep : (z : Int) % ((nw : Int) + 1) = (p : Int) := by rw [hp0]; rfl
    obtain ⟨q, hq⟩ : ∃ q, q = z / 8 % 3 := ⟨_, rfl⟩
    have eq : (z : Int) / 8 % 3 = (q : Int) := by omega
    obtain ⟨J2, e2, h2, -⟩ := k_put hn h1 (p := p) (q := q) (by omega) (by omega) (by omega)
    obtain ⟨x', J3, K3, e3, q3, hx'⟩ := k_repair hn h2
    have h3 := (h2.c q3).1
    obtain ⟨l1, l2⟩ := rp_lip hg (INS_wi (w := w) (p := p) (q := q)) (by omega) (by omega) hx hx'
    have b1 : -1 ≤ x ∧ x ≤ 99 := by
      obtain ⟨d, -, ⟨-, rfl⟩ | ⟨-, v, -, -, rfl, h99⟩⟩ := hx <;> omega
    have b2 : -1 ≤ x' ∧ x' ≤ 99 := by
      obtain ⟨d, -, ⟨-, rfl⟩ | ⟨-, v, -, -, rfl, h99⟩⟩ := hx' <;> omega
    refine ⟨u, nw + 1, J3, K3, ?_, ⟨ps, rs, ps1, rs1, t, lv, sd, _, tp, tq, h3⟩, by omega⟩
    have en : (nw : Int) + 1 = ((nw + 1 : Nat) : Int) := rfl
    have s1 : b_L_law_503 n L xs r 0 161 (u : Int) (nw : Int) 1 (i : Int) (z : Int) (kd : Int) (hp u J K) = b_L_law_674 n L xs r 0 161 (u : Int) (nw : Int) (i : Int) x 1 (hp u J2 K1) := by
      simp (disch := omega) only [b_L_law_503, dg_ok, ep, eq, ↓dhi_X, ↓dhG_X_0, ↓dhG_X_1, ↓dhG_X_2, ↓dhg_X_3, ↓dhq_X_3, ↓dhG_X_4, ↓dhG_X_5, ↓dhG_X_6, ↓dhg_X_7, ↓dhq_X_7, ↓dhG_X_8, ↓dhG_X_9, ↓dhG_X_10, ↓dhG_X_11, ↓dhG_X_12, ↓dhG_X_13, ↓dhG_X_14, ↓dhG_X_15, ↓dhG_X_16, Option.bind_some, ↓nm_eq, ↓sm_inl, ↓sm_inr, ↓dzo_0, ↓dzo_1, ↓drg_ok, ↓if_pos, ↓if_neg, if_pos, if_neg, if_true, if_false, Int.toNat_natCast, rg_ok, ↓bnd e1, ↓bnd e2]
    rw [s1]
    clear hx hx' ep eq s1 e1 e2
    by_cases c1 : x = -1
    · have c2 := l1.mp c1
      simp (disch := omega) only [b_L_law_674, b_L_law_737, b_L_law_742, ↓dhi_X, ↓dhG_X_0, ↓dhG_X_1, ↓dhG_X_2, ↓dhg_X_3, ↓dhq_X_3, ↓dhG_X_4, ↓dhG_X_5, ↓dhG_X_6, ↓dhg_X_7, ↓dhq_X_7, ↓dhG_X_8, ↓dhG_X_9, ↓dhG_X_10, ↓dhG_X_11, ↓dhG_X_12, ↓dhG_X_13, ↓dhG_X_14, ↓dhG_X_15, ↓dhG_X_16, Option.bind_some, ↓nm_eq, ↓sm_inl, ↓sm_inr, ↓dzo_0, ↓dzo_1, ↓drg_ok, ↓if_pos, ↓if_neg, if_pos, if_neg, if_true, if_false, Int.toNat_natCast, rg_ok, ↓bnd e3, en]
    · have c2 : x' ≠ -1 := fun y => c1 (l1.mpr y)
      obtain ⟨d1, d2⟩ := l2 c1
      by_cases c3 : x = 99
      · simp (disch := omega) only [b_L_law_674, b_L_law_737, b_L_law_742, ↓dhi_X, ↓dhG_X_0, ↓dhG_X_1, ↓dhG_X_2, ↓dhg_X_3, ↓dhq_X_3, ↓dhG_X_4, ↓dhG_X_5, ↓dhG_X_6, ↓dhg_X_7, ↓dhq_X_7, ↓dhG_X_8, ↓dhG_X_9, ↓dhG_X_10, ↓dhG_X_11, ↓dhG_X_12, ↓dhG_X_13, ↓dhG_X_14, ↓dhG_X_15, ↓dhG_X_16, Option.bind_some, ↓nm_eq, ↓sm_inl, ↓sm_inr, ↓dzo_0, ↓dzo_1, ↓drg_ok, ↓if_pos, ↓if_neg, if_pos, if_neg, if_true, if_false, Int.toNat_natCast, rg_ok, ↓bnd e3, en]
      · by_cases c4 : x' = 99
        · simp (disch := omega) only [b_L_law_674, b_L_law_737, b_L_law_742, ↓dhi_X, ↓dhG_X_0, ↓dhG_X_1, ↓dhG_X_2, ↓dhg_X_3, ↓dhq_X_3, ↓dhG_X_4, ↓dhG_X_5, ↓dhG_X_6, ↓dhg_X_7, ↓dhq_X_7, ↓dhG_X_8, ↓dhG_X_9, ↓dhG_X_10, ↓dhG_X_11, ↓dhG_X_12, ↓dhG_X_13, ↓dhG_X_14, ↓dhG_X_15, ↓dhG_X_16, Option.bind_some, ↓nm_eq, ↓sm_inl, ↓sm_inr, ↓dzo_0, ↓dzo_1, ↓drg_ok, ↓if_pos, ↓if_neg, if_pos, if_neg, if_true, if_false, Int.toNat_natCast, rg_ok, ↓bnd e3, en]
        · simp (disch := omega) only [b_L_law_674, b_L_law_737, b_L_law_742, ↓dhi_X, ↓dhG_X_0, ↓dhG_X_1, ↓dhG_X_2, ↓dhg_X_3, ↓dhq_X_3, ↓dhG_X_4, ↓dhG_X_5, ↓dhG_X_6, ↓dhg_X_7, ↓dhq_X_7, ↓dhG_X_8, ↓dhG_X_9, ↓dhG_X_10, ↓dhG_X_11, ↓dhG_X_12, ↓dhG_X_13, ↓dhG_X_14, ↓dhG_X_15, ↓dhG_X_16, Option.bind_some, ↓nm_eq, ↓sm_inl, ↓sm_inr, ↓dzo_0, ↓dzo_1, ↓drg_ok, ↓if_pos, ↓if_neg, if_pos, if_neg, if_true, if_false, Int.toNat_natCast, rg_ok, ↓bnd e3, en]
  · have s0 : b_L_law_503 n L xs r 0 161 (u : Int) (nw : Int) 1 (i : Int) (z : Int) (kd : Int) (hp u J K) = b_L_law_747 n L xs r 0 161 (u : Int) (nw : Int) 1 (i : Int) (z : Int) (hp u J K) := by
      by_cases c13 : 13 ≤ kd
      · simp (disch := omega) only [b_L_law_503, ↓dhi_X, ↓dhG_X_0, ↓dhG_X_1, ↓dhG_X_2, ↓dhg_X_3, ↓dhq_X_3, ↓dhG_X_4, ↓dhG_X_5, ↓dhG_X_6, ↓dhg_X_7, ↓dhq_X_7, ↓dhG_X_8, ↓dhG_X_9, ↓dhG_X_10, ↓dhG_X_11, ↓dhG_X_12, ↓dhG_X_13, ↓dhG_X_14, ↓dhG_X_15, ↓dhG_X_16, Option.bind_some, ↓nm_eq, ↓sm_inl, ↓sm_inr, ↓dzo_0, ↓dzo_1, ↓drg_ok, ↓if_pos, ↓if_neg, if_pos, if_neg, if_true, if_false, Int.toNat_natCast, rg_ok]
      · simp (disch := omega) only [b_L_law_503, ↓dhi_X, ↓dhG_X_0, ↓dhG_X_1, ↓dhG_X_2, ↓dhg_X_3, ↓dhq_X_3, ↓dhG_X_4, ↓dhG_X_5, ↓dhG_X_6, ↓dhg_X_7, ↓dhq_X_7, ↓dhG_X_8, ↓dhG_X_9, ↓dhG_X_10, ↓dhG_X_11, ↓dhG_X_12, ↓dhG_X_13, ↓dhG_X_14, ↓dhG_X_15, ↓dhG_X_16, Option.bind_some, ↓nm_eq, ↓sm_inl, ↓sm_inr, ↓dzo_0, ↓dzo_1, ↓drg_ok, ↓if_pos, ↓if_neg, if_pos, if_neg, if_true, if_false, Int.toNat_natCast, rg_ok]
    rw [s0]
    by_cases c0 : nw = 0
    · refine ⟨u, nw, J, K, ?_, hI, h7⟩
      simp (disch := omega) only [b_L_law_747, ↓dhi_X, ↓dhG_X_0, ↓dhG_X_1, ↓dhG_X_2, ↓dhg_X_3, ↓dhq_X_3, ↓dhG_X_4, ↓dhG_X_5, ↓dhG_X_6, ↓dhg_X_7, ↓dhq_X_7, ↓dhG_X_8, ↓dhG_X_9, ↓dhG_X_10, ↓dhG_X_11, ↓dhG_X_12, ↓dhG_X_13, ↓dhG_X_14, ↓dhG_X_15, ↓dhG_X_16, Option.bind_some, ↓nm_eq, ↓sm_inl, ↓sm_inr, ↓dzo_0, ↓dzo_1, ↓drg_ok, ↓if_pos, ↓if_neg, if_pos, if_neg, if_true, if_false, Int.toNat_natCast, rg_ok]
    · obtain ⟨x, J1, K1, e1, q1, hx⟩ := k_repair hn h
      have h1 := (h.c q1).1
      obtain ⟨p, hp0⟩ : ∃ p, p = z % nw := ⟨_, rfl⟩
      have hpl : p < nw := by rw [hp0]; exact Nat.mod_lt _ (by omega)
      have ep : (z : Int) % (nw : Int) = (p : Int) := by rw [hp0]; rfl
      obtain ⟨J2, e2, h2, -⟩ := k_cut hn h1 (p := p) hpl
      have hwp := h.sw.2.1 p hpl
      obtain ⟨x', J3, K3, e3, q3, hx'⟩ := k_repair hn h2
      have h3 := (h2.c q3).1
      have hx2 : isRp (gtp ps tp) w (nw - 1 + 1) x := by rw [show nw - 1 + 1 = nw by omega]; exact hx
      obtain ⟨l1, l2⟩ := rp_lip hg (INS_wc (w := w) (p := p)) (by omega) (by omega) hx' hx2
      have b1 : -1 ≤ x ∧ x ≤ 99 := by
        obtain ⟨d, -, ⟨-, rfl⟩ | ⟨-, v, -, -, rfl, h99⟩⟩ := hx <;> omega
      have b2 : -1 ≤ x' ∧ x' ≤ 99 := by
        obtain ⟨d, -, ⟨-, rfl⟩ | ⟨-, v, -, -, rfl, h99⟩⟩ := hx' <;> omega
      refine ⟨u, nw - 1, J3, K3, ?_, ⟨ps, rs, ps1, rs1, t, lv, sd, _, tp, tq, h3⟩, by omega⟩
      have en : (nw : Int) + -1 = ((nw - 1 : Nat) : Int) := by omega
      generalize w p = wp at *
      have s1 : b_L_law_747 n L xs r 0 161 (u : Int) (nw : Int) 1 (i : Int) (z : Int) (hp u J K) = b_L_law_779 n L xs r 0 161 (u : Int) (nw : Int) (i : Int) x 1 (hp u J2 K1) := by
        simp (disch := omega) only [b_L_law_747, dg_ok, ep, ↓dhi_X, ↓dhG_X_0, ↓dhG_X_1, ↓dhG_X_2, ↓dhg_X_3, ↓dhq_X_3, ↓dhG_X_4, ↓dhG_X_5, ↓dhG_X_6, ↓dhg_X_7, ↓dhq_X_7, ↓dhG_X_8, ↓dhG_X_9, ↓dhG_X_10, ↓dhG_X_11, ↓dhG_X_12, ↓dhG_X_13, ↓dhG_X_14, ↓dhG_X_15, ↓dhG_X_16, Option.bind_some, ↓nm_eq, ↓sm_inl, ↓sm_inr, ↓dzo_0, ↓dzo_1, ↓drg_ok, ↓if_pos, ↓if_neg, if_pos, if_neg, if_true, if_false, Int.toNat_natCast, rg_ok, ↓bnd e1, ↓bnd e2]
      rw [s1]
      clear hx hx' hx2 ep s1 s0 e1 e2
      by_cases c1 : x = -1
      · have c2 := l1.mpr c1
        simp (disch := omega) only [b_L_law_779, b_L_law_842, b_L_law_847, ↓dhi_X, ↓dhG_X_0, ↓dhG_X_1, ↓dhG_X_2, ↓dhg_X_3, ↓dhq_X_3, ↓dhG_X_4, ↓dhG_X_5, ↓dhG_X_6, ↓dhg_X_7, ↓dhq_X_7, ↓dhG_X_8, ↓dhG_X_9, ↓dhG_X_10, ↓dhG_X_11, ↓dhG_X_12, ↓dhG_X_13, ↓dhG_X_14, ↓dhG_X_15, ↓dhG_X_16, Option.bind_some, ↓nm_eq, ↓sm_inl, ↓sm_inr, ↓dzo_0, ↓dzo_1, ↓drg_ok, ↓if_pos, ↓if_neg, if_pos, if_neg, if_true, if_false, Int.toNat_natCast, rg_ok, ↓bnd e3, en]
      · have c2 : x' ≠ -1 := fun y => c1 (l1.mp y)
        obtain ⟨d1, d2⟩ := l2 c2
        by_cases c3 : x = 99
        · simp (disch := omega) only [b_L_law_779, b_L_law_842, b_L_law_847, ↓dhi_X, ↓dhG_X_0, ↓dhG_X_1, ↓dhG_X_2, ↓dhg_X_3, ↓dhq_X_3, ↓dhG_X_4, ↓dhG_X_5, ↓dhG_X_6, ↓dhg_X_7, ↓dhq_X_7, ↓dhG_X_8, ↓dhG_X_9, ↓dhG_X_10, ↓dhG_X_11, ↓dhG_X_12, ↓dhG_X_13, ↓dhG_X_14, ↓dhG_X_15, ↓dhG_X_16, Option.bind_some, ↓nm_eq, ↓sm_inl, ↓sm_inr, ↓dzo_0, ↓dzo_1, ↓drg_ok, ↓if_pos, ↓if_neg, if_pos, if_neg, if_true, if_false, Int.toNat_natCast, rg_ok, ↓bnd e3, en]
        · by_cases c4 : x' = 99
          · simp (disch := omega) only [b_L_law_779, b_L_law_842, b_L_law_847, ↓dhi_X, ↓dhG_X_0, ↓dhG_X_1, ↓dhG_X_2, ↓dhg_X_3, ↓dhq_X_3, ↓dhG_X_4, ↓dhG_X_5, ↓dhG_X_6, ↓dhg_X_7, ↓dhq_X_7, ↓dhG_X_8, ↓dhG_X_9, ↓dhG_X_10, ↓dhG_X_11, ↓dhG_X_12, ↓dhG_X_13, ↓dhG_X_14, ↓dhG_X_15, ↓dhG_X_16, Option.bind_some, ↓nm_eq, ↓sm_inl, ↓sm_inr, ↓dzo_0, ↓dzo_1, ↓drg_ok, ↓if_pos, ↓if_neg, if_pos, if_neg, if_true, if_false, Int.toNat_natCast, rg_ok, ↓bnd e3, en]
          · simp (disch := omega) only [b_L_law_779, b_L_law_842, b_L_law_847, ↓dhi_X, ↓dhG_X_0, ↓dhG_X_1, ↓dhG_X_2, ↓dhg_X_3, ↓dhq_X_3, ↓dhG_X_4, ↓dhG_X_5, ↓dhG_X_6, ↓dhg_X_7, ↓dhq_X_7, ↓dhG_X_8, ↓dhG_X_9, ↓dhG_X_10, ↓dhG_X_11, ↓dhG_X_12, ↓dhG_X_13, ↓dhG_X_14, ↓dhG_X_15, ↓dhG_X_16, Option.bind_some, ↓nm_eq, ↓sm_inl, ↓sm_inr, ↓dzo_0, ↓dzo_1, ↓drg_ok, ↓if_pos, ↓if_neg, if_pos, if_neg, if_true, if_false, Int.toNat_natCast, rg_ok, ↓bnd e3, en]
theorem t_bring (hn : 1000000000000000000000000000000 ≤ n) (h : JX u nw J K) (h7 : nw ≤ 7) (hi : i < 26) (hz : z ≤ 200000000) (h2 : z % 2 = 0) : TRN n L xs r i (b_L_law_66 n L xs r 0 161 (u : Int) (nw : Int) 1 (i : Int) (z : Int) 6 (hp u J K)) := by
  obtain ⟨ps, rs, ps1, rs1, t, lv, sd, w, tp, tq, h⟩ := h
  have e1 := k_productions h
  have h24 := h.r24
  obtain ⟨s, hs⟩ : ∃ s, s = z / 2 % 8 := ⟨_, rfl⟩
  have es : (z : Int) / 2 % 8 = (s : Int) := by omega
  have e0 : (z : Int) % 2 = 0 := by omega
  rcases k_bring hn h (s := s) (by omega) with ⟨q, J1, hlen, e2, h1, -⟩ | ⟨J1, e2, h1, -⟩
  · have e3 := k_productions h1
    have h24' := h1.r24
    refine ⟨u, nw, J1, K, ?_, ⟨_, _, ps1, rs1, t, lv, sd, w, tp, tq, h1⟩, h7⟩
    simp (disch := omega) only [b_L_law_66, b_L_law_498, dg_ok, es, e0, ↓dhi_X, ↓dhG_X_0, ↓dhG_X_1, ↓dhG_X_2, ↓dhg_X_3, ↓dhq_X_3, ↓dhG_X_4, ↓dhG_X_5, ↓dhG_X_6, ↓dhg_X_7, ↓dhq_X_7, ↓dhG_X_8, ↓dhG_X_9, ↓dhG_X_10, ↓dhG_X_11, ↓dhG_X_12, ↓dhG_X_13, ↓dhG_X_14, ↓dhG_X_15, ↓dhG_X_16, Option.bind_some, ↓nm_eq, ↓sm_inl, ↓sm_inr, ↓dzo_0, ↓dzo_1, ↓drg_ok, ↓if_pos, ↓if_neg, if_pos, if_neg, if_true, if_false, Int.toNat_natCast, rg_ok, ↓bnd e1, ↓bnd e2, ↓bnd e3]
  · have e3 := k_productions h1
    refine ⟨u, nw, J1, K, ?_, ⟨ps, rs, ps1, rs1, t, lv, sd, w, tp, tq, h1⟩, h7⟩
    simp (disch := omega) only [b_L_law_66, b_L_law_498, dg_ok, es, e0, ↓dhi_X, ↓dhG_X_0, ↓dhG_X_1, ↓dhG_X_2, ↓dhg_X_3, ↓dhq_X_3, ↓dhG_X_4, ↓dhG_X_5, ↓dhG_X_6, ↓dhg_X_7, ↓dhq_X_7, ↓dhG_X_8, ↓dhG_X_9, ↓dhG_X_10, ↓dhG_X_11, ↓dhG_X_12, ↓dhG_X_13, ↓dhG_X_14, ↓dhG_X_15, ↓dhG_X_16, Option.bind_some, ↓nm_eq, ↓sm_inl, ↓sm_inr, ↓dzo_0, ↓dzo_1, ↓drg_ok, ↓if_pos, ↓if_neg, if_pos, if_neg, if_true, if_false, Int.toNat_natCast, rg_ok, ↓bnd e1, ↓bnd e2, ↓bnd e3]
end LW
