/-! ===== calls: the shortest sentence ===== -/
theorem q_gen {n : Nat} (hn : 1000000000000000000000000000000 ≤ n) {u : Nat} {J L : Nat → Nat → Int} (hI : IX u J L) {fL fM : gi_H → Option (Int × gi_H)} (hb : ∀ (g : GT) (J1 K : Nat → Nat → Int), GR g → cF g J1 K → f_X3_learn n 64 (hp u J L) = some (hp u J1 K) → ∃ (k A : Int) (L1 : Nat → Nat → Int), fL (hp u J L) = some (k, hp u J1 L1) ∧ (∀ a, a ≠ 193 → L1 a = K a) ∧ (k = 0 → L1 193 0 = A) ∧ gi_ok A ∧ (k = 0 ∨ k = 1 ∨ k = 2) ∧
      ∀ J2 K2, rF g J2 K2 → RE g J2 → f_X12_finds n 161 (hp u J1 L1) = some (hp u J2 K2) → fM (hp u J1 L1) = some (A, hp u (gx_u J2 161 44 k) K2)) :
    ∃ (k : Int) (u1 : Nat) (J1 L1 : Nat → Nat → Int) (B : Int) (J2 L2 : Nat → Nat → Int), fL (hp u J L) = some (k, hp u1 J1 L1) ∧ fM (hp u1 J1 L1) = some (B, hp u1 J2 L2) ∧ J2 161 44 = k ∧ (k = 0 ∨ k = 1 ∨ k = 2) ∧ gi_ok B ∧ (k = 0 → L2 193 0 = B) ∧ IX u1 J2 L2 := by
  obtain ⟨ps, rs, ps1, rs1, t, lv, sd, w, nw, tp, tq, h⟩ := hI
  obtain ⟨J1, K, e1, q1, hF, -⟩ := h.2.2.2.1.lrn (u := u) hn
  obtain ⟨k, A, L1, hA1, hA4, hA5, hA2, hA6, hA3⟩ := hb (gtp ps tp) J1 K h.gr hF e1
  have h1 := h.c q1 (L1 := L1) hA4
  obtain ⟨J2, K2, e2, q2, hF2, hE2⟩ := h1.2.2.2.2.fnd (u := u) hn
  have h2 := hA3 J2 K2 hF2 hE2 e2
  refine ⟨k, u, J1, _, A, _, K2, hA1, h2, gu_same _ _ _ _, hA6, hA2, fun z => ?_, ps, rs, ps1, rs1, t, lv, sd, w, nw, tp, tq, h1.r q2.thr⟩
  rw [q2.2.2.1 193 (by omega)]; exact hA5 z
theorem sent_c {g : GT} {u : Nat} {J L : Nat → Nat → Int} (hF : cF g J L) {a v : Nat} (ha : a < 16) (h1 : J 68 (16 + a) ≤ 20) (h2 : (v : Int) < J 68 (16 + a)) : ∃ k d : Nat, k ≤ 20 ∧ (k : Int) = J 68 (16 + a) - 1 - v ∧ (∃ e, grJ g e ∧ d = tx e a ∧ ln e a = cLe J a) ∧ f_X3_spelled 64 (a : Int) (v : Int) (hp u J L) = some ((d / 8 ^ k % 8 : Nat) : Int) ∧ cLe J a ≤ 20 := by
  obtain ⟨e, q1, q2, q3⟩ := hF.2.2.2.2.2.2.2.2.1
  have hl : cLe J a = (J 68 (16 + a)).toNat := by unfold cLe; rw [if_neg (by omega)]
  have hl2 : cLe J a ≤ 20 := by omega
  have hd := q3 a ha hl2
  have hln := q2 a ha
  rw [if_neg (by omega), if_pos (by omega)] at hln
  obtain ⟨k, hk⟩ : ∃ k : Nat, (k : Int) = J 68 (16 + a) - 1 - v := ⟨(J 68 (16 + a) - 1 - v).toNat, by omega⟩
  have el := X3_least (u := u) (L := L) (J := J) ha
  have hb : tx e a < 9223372036854775808 := by have : tx e a < 1152921504606846976 := Nat.mod_lt _ (by decide); omega
  have es : gi_shrL (L 69 (16 + a)) (3 * (k : Int)) = ((tx e a / 8 ^ k : Nat) : Int) := by rw [hd]; exact shrL_nat (by omega) hb
  have e16 : ((16 : Int) + (a : Int)).toNat = 16 + a := by omega
  refine ⟨k, tx e a, by omega, hk, ⟨e, q1, rfl, hln⟩, ?_, hl2⟩
  simp (disch := omega) only [f_X3_spelled, ↓dhi_F, ↓dhG_F_0, ↓dhg_F_1, ↓dhq_F_1, ↓dhg_F_2, ↓dhq_F_2, ↓dhg_F_3, ↓dhq_F_3, ↓dhg_F_4, ↓dhq_F_4, ↓dhG_F_5, ↓dhG_F_6, ↓dhG_F_7, ↓dhG_F_8, ↓dhG_F_9, ↓dhg_F_10, ↓dhq_F_10, ↓dhG_F_11, ↓dhG_F_12, ↓dhG_F_13, ↓dha_69, ↓dhs_69, ↓dhl_69, Option.bind_some, ↓nm_eq, ↓sm_inl, ↓sm_inr, ↓dzo_0, ↓dzo_1, ↓drg_ok, ↓if_pos, ↓if_neg, if_pos, if_neg, if_true, if_false, Int.toNat_natCast, rg_ok, ↓bnd el, ← hk, e16, es, and7]
theorem sent_r {g : GT} {J L : Nat → Nat → Int} (hF : rF g J L) {a : Nat} (ha : a < 16) (h1 : J 178 a ≤ 20) {k : Nat} (hk : k ≤ 20) : gi_andL (gi_shrL (L 179 a) (3 * (k : Int))) 7 = ((tx (eR J L) a / 8 ^ k % 8 : Nat) : Int) := by
  have hr := rLn_of hF.2.2.2.2.1 ha
  have h0 := (hF.2.2.2.2.1 a ha).1
  have h20 : rLn J a ≤ 20 := by omega
  have hd := (eR_20 hF.2.2.2.2.1 ha h20).2.1
  have hb : tx (eR J L) a < 9223372036854775808 := by have : tx (eR J L) a < 1152921504606846976 := Nat.mod_lt _ (by decide); omega
  rw [hd, shrL_nat hk hb]
  exact andL7 (Nat.lt_of_le_of_lt (Nat.div_le_self _ _) hb)
theorem op_sentence {n : Nat} {x y : Int} (hn : 1000000000000000000000000000000 ≤ n) (hx : gi_ok x) (hy : gi_ok y) : OPK (fun h => f_L_sentence n 0 x y 193 h) (fun h => f_X12_sentence n 161 x y h) := by
  intro u J L hI
  obtain ⟨hy1, hy2⟩ := id hy
  by_cases c : x < 0 ∨ 16 ≤ x
  · refine q_out hn hI ?_ (fun J1 K e => ?_)
    · simp (disch := omega) only [f_L_sentence, f_X11_sentence, ↓bnd (reqN_0 c hx _), ↓dhi_X, ↓dhG_X_0, ↓dhG_X_1, ↓dhG_X_2, ↓dhg_X_3, ↓dhq_X_3, ↓dhG_X_4, ↓dhG_X_5, ↓dhG_X_6, ↓dhg_X_7, ↓dhq_X_7, ↓dhG_X_8, ↓dhG_X_9, ↓dhG_X_10, ↓dhG_X_11, ↓dhG_X_12, ↓dhG_X_13, ↓dhG_X_14, ↓dhG_X_15, ↓dhG_X_16, Option.bind_some, ↓nm_eq, ↓sm_inl, ↓sm_inr, ↓dzo_0, ↓dzo_1, ↓drg_ok, ↓if_pos, ↓if_neg, if_pos, if_neg, if_true, if_false, Int.toNat_natCast, rg_ok, xI1, if_true]
    · simp (disch := omega) only [f_X12_sentence, b_X12_sentence_21, b_X12_sentence_22, b_X12_sentence_54, b_X12_sentence_55, ↓dhi_M, ↓dhG_M_0, ↓dhG_M_1, ↓dhG_M_2, ↓dhG_M_3, ↓dhG_M_4, ↓dhG_M_5, ↓dhG_M_6, ↓dhG_M_7, ↓dhG_M_8, ↓dhg_M_9, ↓dhq_M_9, ↓dhG_M_10, ↓dhG_M_11, ↓dhG_M_12, ↓dhg_M_13, ↓dhq_M_13, ↓dhG_M_14, ↓dhg_M_15, ↓dhq_M_15, ↓dhG_M_16, ↓dhg_M_17, ↓dhq_M_17, ↓dhg_M_18, ↓dhq_M_18, ↓dhG_M_19, ↓dhG_M_20, ↓dhG_M_21, ↓dhG_M_22, ↓dhG_M_23, ↓dhG_M_24, ↓dhg_M_25, ↓dhq_M_25, ↓dhG_M_26, ↓dhG_M_27, ↓dhG_M_28, ↓dhg_M_29, ↓dhq_M_29, ↓dhG_M_30, ↓dhG_M_31, ↓dhg_M_32, ↓dhq_M_32, ↓dhg_M_33, ↓dhq_M_33, ↓dhg_M_34, ↓dhq_M_34, ↓dhg_M_35, ↓dhq_M_35, ↓dhG_M_36, ↓dhG_M_37, ↓dhg_M_38, ↓dhq_M_38, ↓dhg_M_39, ↓dhq_M_39, ↓dhG_M_40, ↓dhG_M_41, ↓dhG_M_42, ↓dhG_M_43, ↓dhg_M_44, ↓dhq_M_44, Option.bind_some, ↓nm_eq, ↓sm_inl, ↓sm_inr, ↓dzo_0, ↓dzo_1, ↓drg_ok, ↓if_pos, ↓if_neg, if_pos, if_neg, if_true, if_false, Int.toNat_natCast, rg_ok, ↓bnd e, ↓bnd (isB_0 (m := 16) c hx (by omega) _), ↓bnd (goes_1 0 1)]
  · obtain ⟨a, rfl⟩ : ∃ a : Nat, x = (a : Int) := ⟨x.toNat, by omega⟩
    have ha : a < 16 := by omega
    by_cases c2 : y < 0
    · refine q_out hn hI ?_ (fun J1 K e => ?_)
      · simp (disch := omega) only [f_L_sentence, f_X11_sentence, ↓bnd (reqN_1 ha _), ↓dhi_X, ↓dhG_X_0, ↓dhG_X_1, ↓dhG_X_2, ↓dhg_X_3, ↓dhq_X_3, ↓dhG_X_4, ↓dhG_X_5, ↓dhG_X_6, ↓dhg_X_7, ↓dhq_X_7, ↓dhG_X_8, ↓dhG_X_9, ↓dhG_X_10, ↓dhG_X_11, ↓dhG_X_12, ↓dhG_X_13, ↓dhG_X_14, ↓dhG_X_15, ↓dhG_X_16, Option.bind_some, ↓nm_eq, ↓sm_inl, ↓sm_inr, ↓dzo_0, ↓dzo_1, ↓drg_ok, ↓if_pos, ↓if_neg, if_pos, if_neg, if_true, if_false, Int.toNat_natCast, rg_ok, xI1, if_true]
      · simp (disch := omega) only [f_X12_sentence, b_X12_sentence_21, b_X12_sentence_22, b_X12_sentence_54, b_X12_sentence_55, ↓dhi_M, ↓dhG_M_0, ↓dhG_M_1, ↓dhG_M_2, ↓dhG_M_3, ↓dhG_M_4, ↓dhG_M_5, ↓dhG_M_6, ↓dhG_M_7, ↓dhG_M_8, ↓dhg_M_9, ↓dhq_M_9, ↓dhG_M_10, ↓dhG_M_11, ↓dhG_M_12, ↓dhg_M_13, ↓dhq_M_13, ↓dhG_M_14, ↓dhg_M_15, ↓dhq_M_15, ↓dhG_M_16, ↓dhg_M_17, ↓dhq_M_17, ↓dhg_M_18, ↓dhq_M_18, ↓dhG_M_19, ↓dhG_M_20, ↓dhG_M_21, ↓dhG_M_22, ↓dhG_M_23, ↓dhG_M_24, ↓dhg_M_25, ↓dhq_M_25, ↓dhG_M_26, ↓dhG_M_27, ↓dhG_M_28, ↓dhg_M_29, ↓dhq_M_29, ↓dhG_M_30, ↓dhG_M_31, ↓dhg_M_32, ↓dhq_M_32, ↓dhg_M_33, ↓dhq_M_33, ↓dhg_M_34, ↓dhq_M_34, ↓dhg_M_35, ↓dhq_M_35, ↓dhG_M_36, ↓dhG_M_37, ↓dhg_M_38, ↓dhq_M_38, ↓dhg_M_39, ↓dhq_M_39, ↓dhG_M_40, ↓dhG_M_41, ↓dhG_M_42, ↓dhG_M_43, ↓dhg_M_44, ↓dhq_M_44, Option.bind_some, ↓nm_eq, ↓sm_inl, ↓sm_inr, ↓dzo_0, ↓dzo_1, ↓drg_ok, ↓if_pos, ↓if_neg, if_pos, if_neg, if_true, if_false, Int.toNat_natCast, rg_ok, ↓bnd e, ↓bnd (isB_1 (x := (a : Int)) (m := 16) (by omega) (by omega) _), ↓bnd (goes_1 0 1)]
    · obtain ⟨v, rfl⟩ : ∃ v : Nat, y = (v : Int) := ⟨y.toNat, by omega⟩
      refine q_gen hn hI (fun g J1 K hg hF e => ?_)
      have el := X3_least (u := u) (L := K) (J := J1) ha
      have hl := cF_len hF ha
      by_cases c3 : J1 68 (16 + a) ≤ 20 ∧ (v : Int) < J1 68 (16 + a)
      · obtain ⟨k, d, hk, hk2, ⟨w, w1, w2, w3⟩, es, h20⟩ := sent_c (u := u) hF ha c3.1 c3.2
        have hd8 : d / 8 ^ k % 8 < 8 := Nat.mod_lt _ (by decide)
        refine ⟨0, ((d / 8 ^ k % 8 : Nat) : Int), gx_u K 193 0 ((d / 8 ^ k % 8 : Nat) : Int), ?_, fun a ha => gu_ne ha, fun _ => gu_same _ _ _ _, ⟨by omega, by omega⟩, Or.inl rfl, fun J2 K2 hF2 hE2 e2 => ?_⟩
        · simp (disch := omega) only [f_L_sentence, f_X11_sentence, ↓bnd (reqN_1 ha _), ↓dhi_X, ↓dhG_X_0, ↓dhG_X_1, ↓dhG_X_2, ↓dhg_X_3, ↓dhq_X_3, ↓dhG_X_4, ↓dhG_X_5, ↓dhG_X_6, ↓dhg_X_7, ↓dhq_X_7, ↓dhG_X_8, ↓dhG_X_9, ↓dhG_X_10, ↓dhG_X_11, ↓dhG_X_12, ↓dhG_X_13, ↓dhG_X_14, ↓dhG_X_15, ↓dhG_X_16, ↓dhi_F, ↓dhG_F_0, ↓dhg_F_1, ↓dhq_F_1, ↓dhg_F_2, ↓dhq_F_2, ↓dhg_F_3, ↓dhq_F_3, ↓dhg_F_4, ↓dhq_F_4, ↓dhG_F_5, ↓dhG_F_6, ↓dhG_F_7, ↓dhG_F_8, ↓dhG_F_9, ↓dhg_F_10, ↓dhq_F_10, ↓dhG_F_11, ↓dhG_F_12, ↓dhG_F_13, ↓dha_193, ↓dhs_193, ↓dhl_193, Option.bind_some, ↓nm_eq, ↓sm_inl, ↓sm_inr, ↓dzo_0, ↓dzo_1, ↓drg_ok, ↓if_pos, ↓if_neg, if_pos, if_neg, if_true, if_false, Int.toNat_natCast, rg_ok, ↓bnd e, ↓bnd el, ↓bnd es]
          rfl
        · have hs := (sam_s hg hF hF2 ha).2
          have h0 := (hF2.2.2.2.2.1 a ha).1
          have h178 : J2 178 a = J1 68 (16 + a) := by
            rw [hs]
            split at hs
            · next z => rw [if_pos z]; split at hs <;> (first | rw [if_pos (by omega)] | omega)
            · omega
          have e3 : gx_u J2 161 44 0 178 a = J2 178 a := by rw [gu_ne (by decide)]
          have hr := sent_r hF2 ha (by omega) hk
          have hj := grJ_uniq w1 hF2.2.2.2.2.2.2.1 a ha
          have ht : tx (eR J2 K2) a = d := by rw [w2]; unfold tx; rw [hj]
          rw [ht] at hr
          have ek : J2 178 a - 1 - (v : Int) = (k : Int) := by omega
          simp (disch := omega) only [f_X12_sentence, b_X12_sentence_21, b_X12_sentence_22, b_X12_sentence_54, b_X12_sentence_55, ↓dhi_M, ↓dhG_M_0, ↓dhG_M_1, ↓dhG_M_2, ↓dhG_M_3, ↓dhG_M_4, ↓dhG_M_5, ↓dhG_M_6, ↓dhG_M_7, ↓dhG_M_8, ↓dhg_M_9, ↓dhq_M_9, ↓dhG_M_10, ↓dhG_M_11, ↓dhG_M_12, ↓dhg_M_13, ↓dhq_M_13, ↓dhG_M_14, ↓dhg_M_15, ↓dhq_M_15, ↓dhG_M_16, ↓dhg_M_17, ↓dhq_M_17, ↓dhg_M_18, ↓dhq_M_18, ↓dhG_M_19, ↓dhG_M_20, ↓dhG_M_21, ↓dhG_M_22, ↓dhG_M_23, ↓dhG_M_24, ↓dhg_M_25, ↓dhq_M_25, ↓dhG_M_26, ↓dhG_M_27, ↓dhG_M_28, ↓dhg_M_29, ↓dhq_M_29, ↓dhG_M_30, ↓dhG_M_31, ↓dhg_M_32, ↓dhq_M_32, ↓dhg_M_33, ↓dhq_M_33, ↓dhg_M_34, ↓dhq_M_34, ↓dhg_M_35, ↓dhq_M_35, ↓dhG_M_36, ↓dhG_M_37, ↓dhg_M_38, ↓dhq_M_38, ↓dhg_M_39, ↓dhq_M_39, ↓dhG_M_40, ↓dhG_M_41, ↓dhG_M_42, ↓dhG_M_43, ↓dhg_M_44, ↓dhq_M_44, ↓dha_178, ↓dhs_178, ↓dhl_178, ↓dha_179, ↓dhs_179, ↓dhl_179, Option.bind_some, ↓nm_eq, ↓sm_inl, ↓sm_inr, ↓dzo_0, ↓dzo_1, ↓drg_ok, ↓if_pos, ↓if_neg, if_pos, if_neg, if_true, if_false, Int.toNat_natCast, rg_ok, ↓bnd e2, ↓bnd (isB_1 (x := (a : Int)) (m := 16) (by omega) (by omega) _), ↓bnd goes_0, e3, ek, hr]
      · refine ⟨2, 0, K, ?_, fun _ _ => rfl, fun z => absurd z (by decide), by decide, Or.inr (Or.inr rfl), fun J2 K2 hF2 hE2 e2 => ?_⟩
        · by_cases z1 : J1 68 (16 + a) = -1
          · simp (disch := omega) only [f_L_sentence, f_X11_sentence, b_X11_sentence_50, ↓bnd (reqN_1 ha _), ↓dhi_X, ↓dhG_X_0, ↓dhG_X_1, ↓dhG_X_2, ↓dhg_X_3, ↓dhq_X_3, ↓dhG_X_4, ↓dhG_X_5, ↓dhG_X_6, ↓dhg_X_7, ↓dhq_X_7, ↓dhG_X_8, ↓dhG_X_9, ↓dhG_X_10, ↓dhG_X_11, ↓dhG_X_12, ↓dhG_X_13, ↓dhG_X_14, ↓dhG_X_15, ↓dhG_X_16, ↓dhi_F, ↓dhG_F_0, ↓dhg_F_1, ↓dhq_F_1, ↓dhg_F_2, ↓dhq_F_2, ↓dhg_F_3, ↓dhq_F_3, ↓dhg_F_4, ↓dhq_F_4, ↓dhG_F_5, ↓dhG_F_6, ↓dhG_F_7, ↓dhG_F_8, ↓dhG_F_9, ↓dhg_F_10, ↓dhq_F_10, ↓dhG_F_11, ↓dhG_F_12, ↓dhG_F_13, ↓dha_193, ↓dhs_193, ↓dhl_193, Option.bind_some, ↓nm_eq, ↓sm_inl, ↓sm_inr, ↓dzo_0, ↓dzo_1, ↓drg_ok, ↓if_pos, ↓if_neg, if_pos, if_neg, if_true, if_false, Int.toNat_natCast, rg_ok, ↓bnd e, ↓bnd el, xI6, xI3, if_true, if_false]
          · by_cases z2 : 20 < J1 68 (16 + a)
            · simp (disch := omega) only [f_L_sentence, f_X11_sentence, b_X11_sentence_50, ↓bnd (reqN_1 ha _), ↓dhi_X, ↓dhG_X_0, ↓dhG_X_1, ↓dhG_X_2, ↓dhg_X_3, ↓dhq_X_3, ↓dhG_X_4, ↓dhG_X_5, ↓dhG_X_6, ↓dhg_X_7, ↓dhq_X_7, ↓dhG_X_8, ↓dhG_X_9, ↓dhG_X_10, ↓dhG_X_11, ↓dhG_X_12, ↓dhG_X_13, ↓dhG_X_14, ↓dhG_X_15, ↓dhG_X_16, ↓dhi_F, ↓dhG_F_0, ↓dhg_F_1, ↓dhq_F_1, ↓dhg_F_2, ↓dhq_F_2, ↓dhg_F_3, ↓dhq_F_3, ↓dhg_F_4, ↓dhq_F_4, ↓dhG_F_5, ↓dhG_F_6, ↓dhG_F_7, ↓dhG_F_8, ↓dhG_F_9, ↓dhg_F_10, ↓dhq_F_10, ↓dhG_F_11, ↓dhG_F_12, ↓dhG_F_13, ↓dha_193, ↓dhs_193, ↓dhl_193, Option.bind_some, ↓nm_eq, ↓sm_inl, ↓sm_inr, ↓dzo_0, ↓dzo_1, ↓drg_ok, ↓if_pos, ↓if_neg, if_pos, if_neg, if_true, if_false, Int.toNat_natCast, rg_ok, ↓bnd e, ↓bnd el, xI6, xI3, if_true, if_false]
            · simp (disch := omega) only [f_L_sentence, f_X11_sentence, b_X11_sentence_50, ↓bnd (reqN_1 ha _), ↓dhi_X, ↓dhG_X_0, ↓dhG_X_1, ↓dhG_X_2, ↓dhg_X_3, ↓dhq_X_3, ↓dhG_X_4, ↓dhG_X_5, ↓dhG_X_6, ↓dhg_X_7, ↓dhq_X_7, ↓dhG_X_8, ↓dhG_X_9, ↓dhG_X_10, ↓dhG_X_11, ↓dhG_X_12, ↓dhG_X_13, ↓dhG_X_14, ↓dhG_X_15, ↓dhG_X_16, ↓dhi_F, ↓dhG_F_0, ↓dhg_F_1, ↓dhq_F_1, ↓dhg_F_2, ↓dhq_F_2, ↓dhg_F_3, ↓dhq_F_3, ↓dhg_F_4, ↓dhq_F_4, ↓dhG_F_5, ↓dhG_F_6, ↓dhG_F_7, ↓dhG_F_8, ↓dhG_F_9, ↓dhg_F_10, ↓dhq_F_10, ↓dhG_F_11, ↓dhG_F_12, ↓dhG_F_13, ↓dha_193, ↓dhs_193, ↓dhl_193, Option.bind_some, ↓nm_eq, ↓sm_inl, ↓sm_inr, ↓dzo_0, ↓dzo_1, ↓drg_ok, ↓if_pos, ↓if_neg, if_pos, if_neg, if_true, if_false, Int.toNat_natCast, rg_ok, ↓bnd e, ↓bnd el, xI6, xI3, if_true, if_false]
        · have hs := (sam_s hg hF hF2 ha).2
          have h0 := (hF2.2.2.2.2.1 a ha).1
          have hno : 20 < J2 178 a ∨ J2 178 a ≤ (v : Int) := by
            split at hs
            · split at hs <;> omega
            · omega
          by_cases z : 20 < J2 178 a
          · simp (disch := omega) only [f_X12_sentence, b_X12_sentence_21, b_X12_sentence_22, b_X12_sentence_54, b_X12_sentence_55, ↓dhi_M, ↓dhG_M_0, ↓dhG_M_1, ↓dhG_M_2, ↓dhG_M_3, ↓dhG_M_4, ↓dhG_M_5, ↓dhG_M_6, ↓dhG_M_7, ↓dhG_M_8, ↓dhg_M_9, ↓dhq_M_9, ↓dhG_M_10, ↓dhG_M_11, ↓dhG_M_12, ↓dhg_M_13, ↓dhq_M_13, ↓dhG_M_14, ↓dhg_M_15, ↓dhq_M_15, ↓dhG_M_16, ↓dhg_M_17, ↓dhq_M_17, ↓dhg_M_18, ↓dhq_M_18, ↓dhG_M_19, ↓dhG_M_20, ↓dhG_M_21, ↓dhG_M_22, ↓dhG_M_23, ↓dhG_M_24, ↓dhg_M_25, ↓dhq_M_25, ↓dhG_M_26, ↓dhG_M_27, ↓dhG_M_28, ↓dhg_M_29, ↓dhq_M_29, ↓dhG_M_30, ↓dhG_M_31, ↓dhg_M_32, ↓dhq_M_32, ↓dhg_M_33, ↓dhq_M_33, ↓dhg_M_34, ↓dhq_M_34, ↓dhg_M_35, ↓dhq_M_35, ↓dhG_M_36, ↓dhG_M_37, ↓dhg_M_38, ↓dhq_M_38, ↓dhg_M_39, ↓dhq_M_39, ↓dhG_M_40, ↓dhG_M_41, ↓dhG_M_42, ↓dhG_M_43, ↓dhg_M_44, ↓dhq_M_44, ↓dha_178, ↓dhs_178, ↓dhl_178, ↓dha_179, ↓dhs_179, ↓dhl_179, Option.bind_some, ↓nm_eq, ↓sm_inl, ↓sm_inr, ↓dzo_0, ↓dzo_1, ↓drg_ok, ↓if_pos, ↓if_neg, if_pos, if_neg, if_true, if_false, Int.toNat_natCast, rg_ok, ↓bnd e2, ↓bnd (isB_1 (x := (a : Int)) (m := 16) (by omega) (by omega) _), ↓bnd (goes_2 1)]
          · simp (disch := omega) only [f_X12_sentence, b_X12_sentence_21, b_X12_sentence_22, b_X12_sentence_54, b_X12_sentence_55, ↓dhi_M, ↓dhG_M_0, ↓dhG_M_1, ↓dhG_M_2, ↓dhG_M_3, ↓dhG_M_4, ↓dhG_M_5, ↓dhG_M_6, ↓dhG_M_7, ↓dhG_M_8, ↓dhg_M_9, ↓dhq_M_9, ↓dhG_M_10, ↓dhG_M_11, ↓dhG_M_12, ↓dhg_M_13, ↓dhq_M_13, ↓dhG_M_14, ↓dhg_M_15, ↓dhq_M_15, ↓dhG_M_16, ↓dhg_M_17, ↓dhq_M_17, ↓dhg_M_18, ↓dhq_M_18, ↓dhG_M_19, ↓dhG_M_20, ↓dhG_M_21, ↓dhG_M_22, ↓dhG_M_23, ↓dhG_M_24, ↓dhg_M_25, ↓dhq_M_25, ↓dhG_M_26, ↓dhG_M_27, ↓dhG_M_28, ↓dhg_M_29, ↓dhq_M_29, ↓dhG_M_30, ↓dhG_M_31, ↓dhg_M_32, ↓dhq_M_32, ↓dhg_M_33, ↓dhq_M_33, ↓dhg_M_34, ↓dhq_M_34, ↓dhg_M_35, ↓dhq_M_35, ↓dhG_M_36, ↓dhG_M_37, ↓dhg_M_38, ↓dhq_M_38, ↓dhg_M_39, ↓dhq_M_39, ↓dhG_M_40, ↓dhG_M_41, ↓dhG_M_42, ↓dhG_M_43, ↓dhg_M_44, ↓dhq_M_44, ↓dha_178, ↓dhs_178, ↓dhl_178, ↓dha_179, ↓dhs_179, ↓dhl_179, Option.bind_some, ↓nm_eq, ↓sm_inl, ↓sm_inr, ↓dzo_0, ↓dzo_1, ↓drg_ok, ↓if_pos, ↓if_neg, if_pos, if_neg, if_true, if_false, Int.toNat_natCast, rg_ok, ↓bnd e2, ↓bnd (isB_1 (x := (a : Int)) (m := 16) (by omega) (by omega) _), ↓bnd (goes_2 1)]
