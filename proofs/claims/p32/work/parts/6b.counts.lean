/-! ===== cells in conflict, counted ===== -/
noncomputable def zcv (g : GT) (kd : Nat) (lv : Nat → Int) (s : Bool) : Nat → Bool := fun i => if s = true then zst g kd lv (i / 9) (i % 9) else decide (1 < ztt g kd (i / 9) (i % 9))
noncomputable def zcn (g : GT) (kd : Nat) (lv : Nat → Int) (s : Bool) : Int := if Sb (zS g (kb kd)) = true then -2 else (cB (zcv g kd lv s) (9 * Sn (zS g (kb kd))) : Int)
theorem cB_s {f : Nat → Bool} {N : Nat} : cB f (N + 1) = cB f N + (if f N = true then 1 else 0) := rfl
theorem ztt_st {g : GT} {kd t y : Nat} {lv : Nat → Int} (h : zst g kd lv t y = true) : 1 < ztt g kd t y := by
  obtain ⟨h1, h2, h3, -⟩ := zst_iff.mp h
  unfold ztt
  rw [h1, h2, h3, b01_t, b01_f]; decide
theorem zat_rg {g : GT} {kd t y : Nat} {lv sd : Nat → Int} (hg : GR g) : -1 ≤ zat g kd lv sd t y ∧ zat g kd lv sd t y ≤ 25 := by
  have h24 := hg.1
  have hlo : -1 ≤ zlo g kd t y ∧ zlo g kd t y < 24 := by rcases zlo_rg (g := g) (kd := kd) (t := t) (y := y) with ⟨z, -⟩ | ⟨p, z, z2, -⟩ <;> omega
  unfold zat
  repeat' split
  all_goals omega
theorem zcd_rg {x : Int} (h : -1 ≤ x ∧ x ≤ 25) : -1 ≤ zcd x ∧ zcd x ≤ 2000 := by
  unfold zcd
  repeat' split
  all_goals omega
section CO_
variable {u : Nat} {n : Nat} {L : Nat → Nat → Int} {g : GT}
theorem X0_extent {kd : Nat} {J : Nat → Nat → Int} (h : CTB u g kd J L) (hk : 1 ≤ kd) : f_X0_extent (va (kb kd)) (hp u J L) = some (if Sb (zS g (kb kd)) = true then -2 else (Sn (zS g (kb kd)) : Int)) := by
  have hv := va_m (kb kd)
  rcases (h.2.2.2.2 hk).2 with ⟨z, z3⟩ | ⟨z, z3, z4, -⟩
  · have z' : Sb (zS g (kb kd)) = true := z
    rw [if_pos z']
    simp (disch := omega) only [f_X0_extent, ↓dhi_A hv, ↓dhG_A_0 hv, ↓dhg_A_1 hv, ↓dhq_A_1 hv, ↓dhg_A_2 hv, ↓dhq_A_2 hv, ↓dhg_A_3 hv, ↓dhq_A_3 hv, ↓dhg_A_4 hv, ↓dhq_A_4 hv, ↓dhG_A_5 hv, ↓dhG_A_6 hv, ↓dhG_A_7 hv, ↓dhG_A_8 hv, ↓dhG_A_9 hv, ↓dha_A_1 hv, ↓dhs_A_1 hv, ↓dhl_A_1 hv, ↓dha_A_2 hv, ↓dhs_A_2 hv, ↓dhl_A_2 hv, ↓dha_A_3 hv, ↓dhs_A_3 hv, ↓dhl_A_3 hv, ↓dha_A_4 hv, ↓dhs_A_4 hv, ↓dhl_A_4 hv, ↓dha_A_5 hv, ↓dhs_A_5 hv, ↓dhl_A_5 hv, Option.bind_some, ↓nm_eq, ↓sm_inl, ↓sm_inr, ↓dzo_0, ↓dzo_1, ↓drg_ok, ↓if_pos, ↓if_neg, if_pos, if_neg, if_true, if_false, Int.toNat_natCast, rg_ok, z3]
  · have z' : Sb (zS g (kb kd)) = false := z
    rw [z', if_neg (by decide)]
    simp (disch := omega) only [f_X0_extent, ↓dhi_A hv, ↓dhG_A_0 hv, ↓dhg_A_1 hv, ↓dhq_A_1 hv, ↓dhg_A_2 hv, ↓dhq_A_2 hv, ↓dhg_A_3 hv, ↓dhq_A_3 hv, ↓dhg_A_4 hv, ↓dhq_A_4 hv, ↓dhG_A_5 hv, ↓dhG_A_6 hv, ↓dhG_A_7 hv, ↓dhG_A_8 hv, ↓dhG_A_9 hv, ↓dha_A_1 hv, ↓dhs_A_1 hv, ↓dhl_A_1 hv, ↓dha_A_2 hv, ↓dhs_A_2 hv, ↓dhl_A_2 hv, ↓dha_A_3 hv, ↓dhs_A_3 hv, ↓dhl_A_3 hv, ↓dha_A_4 hv, ↓dhs_A_4 hv, ↓dhl_A_4 hv, ↓dha_A_5 hv, ↓dhs_A_5 hv, ↓dhl_A_5 hv, Option.bind_some, ↓nm_eq, ↓sm_inl, ↓sm_inr, ↓dzo_0, ↓dzo_1, ↓drg_ok, ↓if_pos, ↓if_neg, if_pos, if_neg, if_true, if_false, Int.toNat_natCast, rg_ok, z3, z4]
    rfl
theorem X9_cellsInConflict (hn : 1000000000000000000000000000000 ≤ n) {kd : Nat} {lv sd : Nat → Int} {J0 : Nat → Nat → Int} (h : CTB u g kd J0 L) (hl : CLV lv sd J0) (hk : 1 ≤ kd ∧ kd ≤ 3) (s : Bool) :
    ∃ J, f_X9_cellsInConflict n (tb kd) (b01 s) (hp u J0 L) = some (zcn g kd lv s, hp u J L) ∧ Fr [tb kd] J0 J ∧ J (tb kd) 2 = J0 (tb kd) 2 := by
  obtain ⟨hv, hva⟩ := tb_m hk
  have hg := h.1.gr
  have hn9 := zS_n (b := kb kd) hg
  have hA : ∀ J, gi_is (hp u J L) (va (kb kd)) 0 = some () := fun J => hi_A (va_m (kb kd))
  have hs01 := b01_rg s
  have e0 := X0_extent (u := u) h hk.1
  by_cases hb : Sb (zS g (kb kd)) = true
  · rw [if_pos hb] at e0
    refine ⟨J0, ?_, Fr.rf, rfl⟩
    unfold zcn
    rw [if_pos hb]
    simp (disch := omega) only [f_X9_cellsInConflict, ↓dhi_S hv, ↓dhg_S_0 hv, ↓dhq_S_0 hv, ↓dhG_S_1 hv, ↓dhg_S_2 hv, ↓dhq_S_2 hv, ↓dhG_S_3 hv, ↓dhG_S_4 hv, ↓dhG_S_5 hv, ↓dhg_S_6 hv, ↓dhq_S_6 hv, ↓dhg_S_7 hv, ↓dhq_S_7 hv, ↓dhg_S_8 hv, ↓dhq_S_8 hv, ↓dhg_S_9 hv, ↓dhq_S_9 hv, ↓dhG_S_10 hv, ↓dhG_S_11 hv, ↓dhg_S_12 hv, ↓dhq_S_12 hv, ↓dha_S_1 hv, ↓dhs_S_1 hv, ↓dhl_S_1 hv, ↓dha_S_2 hv, ↓dhs_S_2 hv, ↓dhl_S_2 hv, Option.bind_some, ↓nm_eq, ↓sm_inl, ↓sm_inr, ↓dzo_0, ↓dzo_1, ↓drg_ok, ↓if_pos, ↓if_neg, if_pos, if_neg, if_true, if_false, Int.toNat_natCast, rg_ok, hva, ↓bnd (hA _), ↓bnd e0]
  · have hb' : Sb (zS g (kb kd)) = false := by simpa using hb
    rw [if_neg hb] at e0
    have hown : ∀ J, Fr [tb kd] J0 J → J (tb kd) 2 = J0 (tb kd) 2 → CTB u g kd J L ∧ CLV lv sd J := fun J f q =>
      ⟨h.own hk f q, hl.fr (f 61 (by simpa using (tb_ne hk).2.1)) (f 62 (by simpa using (tb_ne hk).2.2.1))⟩
    have hcb : ∀ N, cB (zcv g kd lv s) N ≤ N := fun N => cB_le _ N
    have inn : ∀ (r19 : Nat → Int → Int → Int → gi_H → Option (Int × gi_H)) (t : Nat), t < Sn (zS g (kb kd)) → zLP 9 (fun f y (J : Nat → Nat → Int) => l_X9_cellsInConflict_33 n r19 f (tb kd) (b01 s) (cB (zcv g kd lv s) (9 * t + y) : Int) (t : Int) (y : Int) (hp u J L))
        (fun y J => Fr [tb kd] J0 J ∧ J (tb kd) 2 = J0 (tb kd) 2)
        (fun res => ∃ J, res = r19 (tb kd) (b01 s) (cB (zcv g kd lv s) (9 * (t + 1)) : Int) ((t + 1 : Nat) : Int) (hp u J L) ∧ Fr [tb kd] J0 J ∧ J (tb kd) 2 = J0 (tb kd) 2) := by
      intro r19 t ht
      refine zlp ?_ ?_
      · rintro f y J hy ⟨f1, q1⟩
        right
        obtain ⟨hC, hL⟩ := hown J f1 q1
        obtain ⟨J', e, f2, q2, c6, c7, c8, c9⟩ := X9_readCell (u := u) hn hC hk hb' ht hy
        have f3 := f1.tr f2
        have q3 : J' (tb kd) 2 = J0 (tb kd) 2 := (q2 2 (by decide) (by decide) (by decide) (by decide)).trans q1
        obtain ⟨hC', hL'⟩ := hown J' f3 q3
        have hc : CRD g kd t y J' := ⟨c6, c7, c8, c9⟩
        have ec := X9_isConflict (u := u) (L := L) hk hg hc
        have ek : (y : Int) + 1 = ((y + 1 : Nat) : Int) := by omega
        have hi := hcb (9 * t + y)
        have hdv : (9 * t + y) / 9 = t ∧ (9 * t + y) % 9 = y := by omega
        have es9 : cB (zcv g kd lv s) (9 * t + (y + 1)) = cB (zcv g kd lv s) (9 * t + y) + (if zcv g kd lv s (9 * t + y) = true then 1 else 0) := cB_s
        refine ⟨J', ?_, f3, q3⟩
        by_cases cc : ztt g kd t y ≤ 1
        · rw [if_pos cc] at ec
          have hz : zcv g kd lv s (9 * t + y) = false := by
            unfold zcv
            rw [hdv.1, hdv.2]
            split
            · cases w : zst g kd lv t y with
              | false => rfl
              | true => have := ztt_st w; omega
            · rw [decide_eq_false_iff_not]; omega
          rw [hz, if_neg (by decide)] at es9
          rw [es9]
          simp (disch := omega) only [l_X9_cellsInConflict_33, b_X9_cellsInConflict_33, b_X9_cellsInConflict_70, ↓dhi_S hv, ↓dhg_S_0 hv, ↓dhq_S_0 hv, ↓dhG_S_1 hv, ↓dhg_S_2 hv, ↓dhq_S_2 hv, ↓dhG_S_3 hv, ↓dhG_S_4 hv, ↓dhG_S_5 hv, ↓dhg_S_6 hv, ↓dhq_S_6 hv, ↓dhg_S_7 hv, ↓dhq_S_7 hv, ↓dhg_S_8 hv, ↓dhq_S_8 hv, ↓dhg_S_9 hv, ↓dhq_S_9 hv, ↓dhG_S_10 hv, ↓dhG_S_11 hv, ↓dhg_S_12 hv, ↓dhq_S_12 hv, ↓dha_S_1 hv, ↓dhs_S_1 hv, ↓dhl_S_1 hv, ↓dha_S_2 hv, ↓dhs_S_2 hv, ↓dhl_S_2 hv, Option.bind_some, ↓nm_eq, ↓sm_inl, ↓sm_inr, ↓dzo_0, ↓dzo_1, ↓drg_ok, ↓if_pos, ↓if_neg, if_pos, if_neg, if_true, if_false, Int.toNat_natCast, rg_ok, ↓bnd e, ↓bnd ec, ek, Nat.add_zero]
        · rw [if_neg cc] at ec
          have ec1 : (cB (zcv g kd lv s) (9 * t + y) : Int) + 1 = ((cB (zcv g kd lv s) (9 * t + y) + 1 : Nat) : Int) := by omega
          cases s with
          | false =>
            have hz : zcv g kd lv false (9 * t + y) = true := by
              unfold zcv
              rw [if_neg (by decide), hdv.1, hdv.2, decide_eq_true_eq]; omega
            rw [hz, if_pos rfl] at es9
            rw [es9, b01_f]
            simp (disch := omega) only [l_X9_cellsInConflict_33, b_X9_cellsInConflict_33, b_X9_cellsInConflict_70, b_X9_cellsInConflict_67, ↓dhi_S hv, ↓dhg_S_0 hv, ↓dhq_S_0 hv, ↓dhG_S_1 hv, ↓dhg_S_2 hv, ↓dhq_S_2 hv, ↓dhG_S_3 hv, ↓dhG_S_4 hv, ↓dhG_S_5 hv, ↓dhg_S_6 hv, ↓dhq_S_6 hv, ↓dhg_S_7 hv, ↓dhq_S_7 hv, ↓dhg_S_8 hv, ↓dhq_S_8 hv, ↓dhg_S_9 hv, ↓dhq_S_9 hv, ↓dhG_S_10 hv, ↓dhG_S_11 hv, ↓dhg_S_12 hv, ↓dhq_S_12 hv, ↓dha_S_1 hv, ↓dhs_S_1 hv, ↓dhl_S_1 hv, ↓dha_S_2 hv, ↓dhs_S_2 hv, ↓dhl_S_2 hv, Option.bind_some, ↓nm_eq, ↓sm_inl, ↓sm_inr, ↓dzo_0, ↓dzo_1, ↓drg_ok, ↓if_pos, ↓if_neg, if_pos, if_neg, if_true, if_false, Int.toNat_natCast, rg_ok, ↓bnd e, ↓bnd ec, ek, ec1]
          | true =>
            have es := X9_isSettled (u := u) (L := L) hn hk hL' hC'.1.1.1 hC'.1.1.2 hy hc
            have hz : zcv g kd lv true (9 * t + y) = zst g kd lv t y := by
              unfold zcv
              rw [if_pos rfl, hdv.1, hdv.2]
            rw [hz] at es9
            by_cases w : zst g kd lv t y = true
            · rw [w, b01_t] at es
              rw [if_pos w] at es9
              rw [es9, b01_t]
              simp (disch := omega) only [l_X9_cellsInConflict_33, b_X9_cellsInConflict_33, b_X9_cellsInConflict_70, b_X9_cellsInConflict_67, ↓dhi_S hv, ↓dhg_S_0 hv, ↓dhq_S_0 hv, ↓dhG_S_1 hv, ↓dhg_S_2 hv, ↓dhq_S_2 hv, ↓dhG_S_3 hv, ↓dhG_S_4 hv, ↓dhG_S_5 hv, ↓dhg_S_6 hv, ↓dhq_S_6 hv, ↓dhg_S_7 hv, ↓dhq_S_7 hv, ↓dhg_S_8 hv, ↓dhq_S_8 hv, ↓dhg_S_9 hv, ↓dhq_S_9 hv, ↓dhG_S_10 hv, ↓dhG_S_11 hv, ↓dhg_S_12 hv, ↓dhq_S_12 hv, ↓dha_S_1 hv, ↓dhs_S_1 hv, ↓dhl_S_1 hv, ↓dha_S_2 hv, ↓dhs_S_2 hv, ↓dhl_S_2 hv, Option.bind_some, ↓nm_eq, ↓sm_inl, ↓sm_inr, ↓dzo_0, ↓dzo_1, ↓drg_ok, ↓if_pos, ↓if_neg, if_pos, if_neg, if_true, if_false, Int.toNat_natCast, rg_ok, ↓bnd e, ↓bnd ec, ↓bnd es, ek, ec1]
            · have w' : zst g kd lv t y = false := by simpa using w
              rw [w', b01_f] at es
              rw [if_neg w] at es9
              rw [es9, b01_t]
              simp (disch := omega) only [l_X9_cellsInConflict_33, b_X9_cellsInConflict_33, b_X9_cellsInConflict_70, b_X9_cellsInConflict_67, ↓dhi_S hv, ↓dhg_S_0 hv, ↓dhq_S_0 hv, ↓dhG_S_1 hv, ↓dhg_S_2 hv, ↓dhq_S_2 hv, ↓dhG_S_3 hv, ↓dhG_S_4 hv, ↓dhG_S_5 hv, ↓dhg_S_6 hv, ↓dhq_S_6 hv, ↓dhg_S_7 hv, ↓dhq_S_7 hv, ↓dhg_S_8 hv, ↓dhq_S_8 hv, ↓dhg_S_9 hv, ↓dhq_S_9 hv, ↓dhG_S_10 hv, ↓dhG_S_11 hv, ↓dhg_S_12 hv, ↓dhq_S_12 hv, ↓dha_S_1 hv, ↓dhs_S_1 hv, ↓dhl_S_1 hv, ↓dha_S_2 hv, ↓dhs_S_2 hv, ↓dhl_S_2 hv, Option.bind_some, ↓nm_eq, ↓sm_inl, ↓sm_inr, ↓dzo_0, ↓dzo_1, ↓drg_ok, ↓if_pos, ↓if_neg, if_pos, if_neg, if_true, if_false, Int.toNat_natCast, rg_ok, ↓bnd e, ↓bnd ec, ↓bnd es, ek, Nat.add_zero]
      · rintro f J ⟨f1, q1⟩
        refine ⟨J, ?_, f1, q1⟩
        have ek : (t : Int) + 1 = ((t + 1 : Nat) : Int) := by omega
        have e9 : 9 * t + 9 = 9 * (t + 1) := by omega
        rw [e9]
        simp (disch := omega) only [l_X9_cellsInConflict_33, b_X9_cellsInConflict_33, b_X9_cellsInConflict_76, Option.bind_some, ↓nm_eq, ↓sm_inl, ↓sm_inr, ↓dzo_0, ↓dzo_1, ↓drg_ok, ↓if_pos, ↓if_neg, if_pos, if_neg, if_true, if_false, Int.toNat_natCast, rg_ok, ek]
    have out : zLP (Sn (zS g (kb kd))) (fun f t (J : Nat → Nat → Int) => l_X9_cellsInConflict_19 n f (tb kd) (b01 s) (cB (zcv g kd lv s) (9 * t) : Int) (t : Int) (hp u J L))
        (fun t J => Fr [tb kd] J0 J ∧ J (tb kd) 2 = J0 (tb kd) 2)
        (fun res => ∃ J, res = some (zcn g kd lv s, hp u J L) ∧ Fr [tb kd] J0 J ∧ J (tb kd) 2 = J0 (tb kd) 2) := by
      refine zlp ?_ ?_
      · rintro f t J ht ⟨f1, q1⟩
        right
        obtain ⟨hC, hL⟩ := hown J f1 q1
        have ee := X0_extent (u := u) hC hk.1
        rw [if_neg hb] at ee
        obtain ⟨J', e, f2, q2⟩ := inn (l_X9_cellsInConflict_19 n f) t ht 9 n 0 J (by omega) (by omega) ⟨f1, q1⟩
        have e' : l_X9_cellsInConflict_33 n (l_X9_cellsInConflict_19 n f) n (tb kd) (b01 s) (cB (zcv g kd lv s) (9 * t) : Int) (t : Int) 0 (hp u J L) = l_X9_cellsInConflict_19 n f (tb kd) (b01 s) (cB (zcv g kd lv s) (9 * (t + 1)) : Int) ((t + 1 : Nat) : Int) (hp u J' L) := e
        refine ⟨J', ?_, f2, q2⟩
        rw [← e']
        simp (disch := omega) only [l_X9_cellsInConflict_19, b_X9_cellsInConflict_19, ↓dhi_S hv, ↓dhg_S_0 hv, ↓dhq_S_0 hv, ↓dhG_S_1 hv, ↓dhg_S_2 hv, ↓dhq_S_2 hv, ↓dhG_S_3 hv, ↓dhG_S_4 hv, ↓dhG_S_5 hv, ↓dhg_S_6 hv, ↓dhq_S_6 hv, ↓dhg_S_7 hv, ↓dhq_S_7 hv, ↓dhg_S_8 hv, ↓dhq_S_8 hv, ↓dhg_S_9 hv, ↓dhq_S_9 hv, ↓dhG_S_10 hv, ↓dhG_S_11 hv, ↓dhg_S_12 hv, ↓dhq_S_12 hv, ↓dha_S_1 hv, ↓dhs_S_1 hv, ↓dhl_S_1 hv, ↓dha_S_2 hv, ↓dhs_S_2 hv, ↓dhl_S_2 hv, Option.bind_some, ↓nm_eq, ↓sm_inl, ↓sm_inr, ↓dzo_0, ↓dzo_1, ↓drg_ok, ↓if_pos, ↓if_neg, if_pos, if_neg, if_true, if_false, Int.toNat_natCast, rg_ok, hva, ↓bnd (hA _), ↓bnd ee]
      · rintro f J ⟨f1, q1⟩
        obtain ⟨hC, hL⟩ := hown J f1 q1
        have ee := X0_extent (u := u) hC hk.1
        rw [if_neg hb] at ee
        refine ⟨J, ?_, f1, q1⟩
        unfold zcn
        rw [if_neg hb]
        simp (disch := omega) only [l_X9_cellsInConflict_19, b_X9_cellsInConflict_19, ↓dhi_S hv, ↓dhg_S_0 hv, ↓dhq_S_0 hv, ↓dhG_S_1 hv, ↓dhg_S_2 hv, ↓dhq_S_2 hv, ↓dhG_S_3 hv, ↓dhG_S_4 hv, ↓dhG_S_5 hv, ↓dhg_S_6 hv, ↓dhq_S_6 hv, ↓dhg_S_7 hv, ↓dhq_S_7 hv, ↓dhg_S_8 hv, ↓dhq_S_8 hv, ↓dhg_S_9 hv, ↓dhq_S_9 hv, ↓dhG_S_10 hv, ↓dhG_S_11 hv, ↓dhg_S_12 hv, ↓dhq_S_12 hv, ↓dha_S_1 hv, ↓dhs_S_1 hv, ↓dhl_S_1 hv, ↓dha_S_2 hv, ↓dhs_S_2 hv, ↓dhl_S_2 hv, Option.bind_some, ↓nm_eq, ↓sm_inl, ↓sm_inr, ↓dzo_0, ↓dzo_1, ↓drg_ok, ↓if_pos, ↓if_neg, if_pos, if_neg, if_true, if_false, Int.toNat_natCast, rg_ok, hva, ↓bnd (hA _), ↓bnd ee]
    obtain ⟨J, e, q⟩ := out (Sn (zS g (kb kd))) n 0 J0 (by omega) (by omega) ⟨Fr.rf, rfl⟩
    have e' : l_X9_cellsInConflict_19 n n (tb kd) (b01 s) 0 0 (hp u J0 L) = some (zcn g kd lv s, hp u J L) := e
    refine ⟨J, ?_, q⟩
    rw [← e']
    simp (disch := omega) only [f_X9_cellsInConflict, ↓dhi_S hv, ↓dhg_S_0 hv, ↓dhq_S_0 hv, ↓dhG_S_1 hv, ↓dhg_S_2 hv, ↓dhq_S_2 hv, ↓dhG_S_3 hv, ↓dhG_S_4 hv, ↓dhG_S_5 hv, ↓dhg_S_6 hv, ↓dhq_S_6 hv, ↓dhg_S_7 hv, ↓dhq_S_7 hv, ↓dhg_S_8 hv, ↓dhq_S_8 hv, ↓dhg_S_9 hv, ↓dhq_S_9 hv, ↓dhG_S_10 hv, ↓dhG_S_11 hv, ↓dhg_S_12 hv, ↓dhq_S_12 hv, ↓dha_S_1 hv, ↓dhs_S_1 hv, ↓dhl_S_1 hv, ↓dha_S_2 hv, ↓dhs_S_2 hv, ↓dhl_S_2 hv, Option.bind_some, ↓nm_eq, ↓sm_inl, ↓sm_inr, ↓dzo_0, ↓dzo_1, ↓drg_ok, ↓if_pos, ↓if_neg, if_pos, if_neg, if_true, if_false, Int.toNat_natCast, rg_ok, hva, ↓bnd (hA _), ↓bnd e0]
theorem zce_c {kd : Nat} {lv sd : Nat → Int} (hg : GR g) {t y : Nat} : (20000 ≤ zce g kd lv sd t y ↔ zst g kd lv t y = true) ∧ (10000 ≤ zce g kd lv sd t y ↔ 1 < ztt g kd t y) ∧ 0 ≤ zce g kd lv sd t y ∧ zce g kd lv sd t y ≤ 30000 := by
  have hc := zcd_rg (zat_rg (g := g) (kd := kd) (t := t) (y := y) (lv := lv) (sd := sd) hg)
  unfold zce
  by_cases h : zst g kd lv t y = true
  · have := ztt_st h
    rw [if_pos h]
    exact ⟨⟨fun _ => h, fun _ => by omega⟩, ⟨fun _ => this, fun _ => by omega⟩, by omega, by omega⟩
  · rw [if_neg h]
    by_cases h2 : ztt g kd t y ≤ 1
    · rw [if_pos h2]
      exact ⟨⟨fun z => by omega, fun z => absurd z h⟩, ⟨fun z => by omega, fun z => by omega⟩, by omega, by omega⟩
    · rw [if_neg h2]
      exact ⟨⟨fun z => by omega, fun z => absurd z h⟩, ⟨fun z => by omega, fun z => by omega⟩, by omega, by omega⟩
end CO_
