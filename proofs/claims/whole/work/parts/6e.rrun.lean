/-! ===== the reference: a table of states runs ===== -/
theorem ws_cast2 (m x : Nat) : ((m + 1 : Nat) : Int) * (x : Int) = (((m + 1) * x : Nat) : Int) := (Int.natCast_mul _ _).symm
def RRs (J : Nat → Nat → Int) (st wo : Nat → Nat) (t : Nat) : Prop := J 161 38 = (t : Int) ∧ (∀ i, i ≤ t → J 187 i = (st i : Int)) ∧ ∀ i, 1 ≤ i → i ≤ t → J 188 i = (wo i : Int)
def WSE (w : Nat → Nat) (nw : Nat) (J : Nat → Nat → Int) : Prop := J 161 17 = (nw : Int) ∧ ∀ i, i < nw → J 175 i = (w i : Int)
def RUL : List Nat := [161, 187, 188]
def RUK (J0 J : Nat → Nat → Int) : Prop := ∀ k, k ≠ 38 → k ≠ 39 → J 161 k = J0 161 k
theorem RTB.run {g : GT} {kd : Nat} {J J' L : Nat → Nat → Int} (h : RTB g kd J L) (f : Fr RUL J J') (q : RUK J J') : RTB g kd J' L := by
  have hA : ∀ b, RAT g b J → RAT g b J' := fun b z => z.fr (q _ (by cases b <;> decide) (by cases b <;> decide)) (f _ (by cases b <;> decide)) (f _ (by cases b <;> decide))
  exact ⟨h.1.fr f (q 9 (by decide) (by decide)) (by decide), rF_fr (f 176 (by decide)) (f 177 (by decide)) (f 178 (by decide)) (f 180 (by decide)) (q 18 (by decide) (by decide)) rfl h.2.1, fun k1 => ⟨hA _ (h.2.2 k1).1, (h.2.2 k1).2.fr (f 181 (by decide)) (q 25 (by decide) (by decide))⟩⟩
theorem zce_m {g : GT} {kd t y : Nat} {lv sd : Nat → Int} (hg : GR g) : zce g kd lv sd t y % 10000 - 1 = zcd (zat g kd lv sd t y) ∧ 0 ≤ zce g kd lv sd t y ∧ zce g kd lv sd t y ≤ 30000 := by
  have h1 := zcd_rg (zat_rg (g := g) (kd := kd) (t := t) (y := y) (lv := lv) (sd := sd) hg)
  unfold zce
  split
  · omega
  · split <;> omega
theorem zcd_q {q : Nat} (h : q < 24) : zcd (q : Int) = (q : Int) := by unfold zcd; rw [if_neg (by omega), if_neg (by omega)]
section RN_
variable {u : Nat} {n : Nat} {L : Nat → Nat → Int} {g : GT}
theorem X12_reduced (hn : 1000000000000000000000000000000 ≤ n) {kd : Nat} {J : Nat → Nat → Int} (h : RTB g kd J L) (hk : 1 ≤ kd ∧ kd ≤ 3) (hb : Sb (zS g (kb kd)) = false) {st wo : Nat → Nat} {t : Nat} (hI : LI g kd st wo t) (hR : RRs J st wo t) (ht : t < 300) {q t0 : Nat} (hq : q < Gn g) (hl : Gl g q ≤ t) (hm : Sm (zS g (kb kd)) (st (t - Gl g q)) (8 + Go g q) = (t0 : Int)) :
    ∃ J', f_X12_reduced n 161 (kd : Int) (q : Int) (hp u J L) = some (hp u J' L) ∧ Fr RUL J J' ∧ RUK J J' ∧ RRs J' (up st (t + 1 - Gl g q) t0) (up wo (t + 1 - Gl g q) ((q + 1 + ws wo (t + 1 - Gl g q) (Gl g q)) % 1009)) (t + 1 - Gl g q) := by
  have hE := h.1
  have hg := hE.gr
  have h24 := hg.1
  have h5 := hg.2.2.2.1 q
  have ho := hg.2.2.1 q
  have hws := hI.wsle hg hl
  have esz := re_size (u := u) (L := L) hE hq
  have loop : zLP (Gl g q) (fun f k (_ : Unit) => l_X12_reduced_14 n f 161 (kd : Int) (q : Int) ((q + 1 + ws wo (t + 1 - Gl g q) k : Nat) : Int) (Gl g q : Int) (k : Int) (hp u J L)) (fun _ _ => True)
      (fun res => res = b_X12_reduced_52 n 161 (kd : Int) (q : Int) ((q + 1 + ws wo (t + 1 - Gl g q) (Gl g q) : Nat) : Int) (Gl g q : Int) (hp u J L)) := by
    refine zlp ?_ ?_
    · rintro f k _ hk' -
      right
      refine ⟨(), ?_, trivial⟩
      have e38 := hR.1
      have ev := hR.2.2 (t + 1 - Gl g q + k) (by omega) (by omega)
      have ei : ((t : Int) - (Gl g q : Int) + 1 + (k : Int)).toNat = t + 1 - Gl g q + k := by omega
      have em := ws_cast k (wo (t + 1 - Gl g q + k))
      have ek : (k : Int) + 1 = ((k + 1 : Nat) : Int) := rfl
      have ea : ((q + 1 + ws wo (t + 1 - Gl g q) k : Nat) : Int) + (((k + 1) * wo (t + 1 - Gl g q + k) : Nat) : Int) = ((q + 1 + ws wo (t + 1 - Gl g q) (k + 1) : Nat) : Int) := by
        rw [ws_s, ← Int.natCast_add]; congr 1
        omega
      simp (disch := omega) only [l_X12_reduced_14, b_X12_reduced_14, ↓dhi_M, ↓dhG_M_0, ↓dhG_M_1, ↓dhG_M_2, ↓dhG_M_3, ↓dhG_M_4, ↓dhG_M_5, ↓dhG_M_6, ↓dhG_M_7, ↓dhG_M_8, ↓dhg_M_9, ↓dhq_M_9, ↓dhG_M_10, ↓dhG_M_11, ↓dhG_M_12, ↓dhg_M_13, ↓dhq_M_13, ↓dhG_M_14, ↓dhg_M_15, ↓dhq_M_15, ↓dhG_M_16, ↓dhg_M_17, ↓dhq_M_17, ↓dhg_M_18, ↓dhq_M_18, ↓dhG_M_19, ↓dhG_M_20, ↓dhG_M_21, ↓dhG_M_22, ↓dhG_M_23, ↓dhG_M_24, ↓dhg_M_25, ↓dhq_M_25, ↓dhG_M_26, ↓dhG_M_27, ↓dhG_M_28, ↓dhg_M_29, ↓dhq_M_29, ↓dhG_M_30, ↓dhG_M_31, ↓dhg_M_32, ↓dhq_M_32, ↓dhg_M_33, ↓dhq_M_33, ↓dhg_M_34, ↓dhq_M_34, ↓dhg_M_35, ↓dhq_M_35, ↓dhG_M_36, ↓dhG_M_37, ↓dhg_M_38, ↓dhq_M_38, ↓dhg_M_39, ↓dhq_M_39, ↓dhG_M_40, ↓dhG_M_41, ↓dhG_M_42, ↓dhG_M_43, ↓dhg_M_44, ↓dhq_M_44, ↓dha_188, ↓dhs_188, ↓dhl_188, Option.bind_some, ↓nm_eq, ↓sm_inl, ↓sm_inr, ↓dzo_0, ↓dzo_1, ↓drg_ok, ↓if_pos, ↓if_neg, if_pos, if_neg, if_true, if_false, Int.toNat_natCast, rg_ok, e38, ei, ev, em, ws_cast2, ea, ek]
    · rintro f _ -
      simp (disch := omega) only [l_X12_reduced_14, b_X12_reduced_14, Option.bind_some, ↓nm_eq, ↓sm_inl, ↓sm_inr, ↓dzo_0, ↓dzo_1, ↓drg_ok, ↓if_pos, ↓if_neg, if_pos, if_neg, if_true, if_false, Int.toNat_natCast, rg_ok]
  have el := loop (Gl g q) n 0 () (by omega) (by omega) trivial
  dsimp only at el
  -- the rest
  have ed : (t : Int) - (Gl g q : Int) = ((t - Gl g q : Nat) : Int) := by omega
  have ed1 : ((t - Gl g q : Nat) : Int) + 1 = ((t + 1 - Gl g q : Nat) : Int) := by omega
  have f1 : Fr RUL J (gx_u J 161 38 ((t - Gl g q : Nat) : Int)) := Fr.rf.wr (by decide)
  have k1 : RUK J (gx_u J 161 38 ((t - Gl g q : Nat) : Int)) := fun k a _ => gu_at_ne a
  have h1 := h.run f1 k1
  have est : gx_u J 161 38 ((t - Gl g q : Nat) : Int) 187 (t - Gl g q) = (st (t - Gl g q) : Int) := by rw [gu_ne (by decide)]; exact hR.2.1 _ (by omega)
  have elead := re_lead (u := u) (L := L) h1.1 hq
  have ego := X12_goTo (u := u) (L := L) h1 hk hb (t := st (t - Gl g q)) (x := 8 + Go g q) (hI.2.1 _ (by omega)).1 (by omega)
  rw [hm] at ego
  have e8 : (8 : Int) + (Go g q : Int) = ((8 + Go g q : Nat) : Int) := by omega
  have emd : ((q + 1 + ws wo (t + 1 - Gl g q) (Gl g q) : Nat) : Int) % 1009 = (((q + 1 + ws wo (t + 1 - Gl g q) (Gl g q)) % 1009 : Nat) : Int) := by omega
  have hdg : gi_dg ((q + 1 + ws wo (t + 1 - Gl g q) (Gl g q) : Nat) : Int) 1009 = some () := dg_ok (by omega) (by omega) (by decide) (by decide)
  have e38 := hR.1
  have g38 : ∀ (K : Nat → Nat → Int) x, gx_u K 161 38 x 161 38 = x := fun K x => gu_at_eq rfl
  have g187 : ∀ (K : Nat → Nat → Int) i x, gx_u K 187 i x 161 = K 161 := fun K i x => gu_ne (by decide)
  have e52 : b_X12_reduced_52 n 161 (kd : Int) (q : Int) ((q + 1 + ws wo (t + 1 - Gl g q) (Gl g q) : Nat) : Int) (Gl g q : Int) (hp u J L) = some (hp u (gx_u (gx_u (gx_u (gx_u J 161 38 ((t - Gl g q : Nat) : Int)) 161 38 ((t + 1 - Gl g q : Nat) : Int)) 187 (t + 1 - Gl g q) (t0 : Int)) 188 (t + 1 - Gl g q) (((q + 1 + ws wo (t + 1 - Gl g q) (Gl g q)) % 1009 : Nat) : Int)) L) := by
    simp (disch := omega) only [b_X12_reduced_52, ↓dhi_M, ↓dhG_M_0, ↓dhG_M_1, ↓dhG_M_2, ↓dhG_M_3, ↓dhG_M_4, ↓dhG_M_5, ↓dhG_M_6, ↓dhG_M_7, ↓dhG_M_8, ↓dhg_M_9, ↓dhq_M_9, ↓dhG_M_10, ↓dhG_M_11, ↓dhG_M_12, ↓dhg_M_13, ↓dhq_M_13, ↓dhG_M_14, ↓dhg_M_15, ↓dhq_M_15, ↓dhG_M_16, ↓dhg_M_17, ↓dhq_M_17, ↓dhg_M_18, ↓dhq_M_18, ↓dhG_M_19, ↓dhG_M_20, ↓dhG_M_21, ↓dhG_M_22, ↓dhG_M_23, ↓dhG_M_24, ↓dhg_M_25, ↓dhq_M_25, ↓dhG_M_26, ↓dhG_M_27, ↓dhG_M_28, ↓dhg_M_29, ↓dhq_M_29, ↓dhG_M_30, ↓dhG_M_31, ↓dhg_M_32, ↓dhq_M_32, ↓dhg_M_33, ↓dhq_M_33, ↓dhg_M_34, ↓dhq_M_34, ↓dhg_M_35, ↓dhq_M_35, ↓dhG_M_36, ↓dhG_M_37, ↓dhg_M_38, ↓dhq_M_38, ↓dhg_M_39, ↓dhq_M_39, ↓dhG_M_40, ↓dhG_M_41, ↓dhG_M_42, ↓dhG_M_43, ↓dhg_M_44, ↓dhq_M_44, ↓dha_187, ↓dhs_187, ↓dhl_187, ↓dha_188, ↓dhs_188, ↓dhl_188, Option.bind_some, ↓nm_eq, ↓sm_inl, ↓sm_inr, ↓dzo_0, ↓dzo_1, ↓drg_ok, ↓if_pos, ↓if_neg, if_pos, if_neg, if_true, if_false, Int.toNat_natCast, rg_ok, ↓bnd elead, e38, ed, g38, g187, Int.toNat_natCast, est, e8, ↓bnd ego, ed1, ↓bnd hdg, emd]
  refine ⟨gx_u (gx_u (gx_u (gx_u J 161 38 ((t - Gl g q : Nat) : Int)) 161 38 ((t + 1 - Gl g q : Nat) : Int)) 187 (t + 1 - Gl g q) (t0 : Int)) 188 (t + 1 - Gl g q) (((q + 1 + ws wo (t + 1 - Gl g q) (Gl g q)) % 1009 : Nat) : Int), ?_, ((f1.wr (by decide)).wr (by decide)).wr (by decide), fun k a b => by rw [gu_ne (by decide), gu_ne (by decide), gu_at_ne a, gu_at_ne a], by rw [gu_ne (by decide), gu_ne (by decide), gu_at_eq rfl], fun i hi => ?_, fun i h1 hi => ?_⟩
  · rw [← e52, ← el]
    simp (disch := omega) only [f_X12_reduced, ↓dhi_M, ↓dhG_M_0, ↓dhG_M_1, ↓dhG_M_2, ↓dhG_M_3, ↓dhG_M_4, ↓dhG_M_5, ↓dhG_M_6, ↓dhG_M_7, ↓dhG_M_8, ↓dhg_M_9, ↓dhq_M_9, ↓dhG_M_10, ↓dhG_M_11, ↓dhG_M_12, ↓dhg_M_13, ↓dhq_M_13, ↓dhG_M_14, ↓dhg_M_15, ↓dhq_M_15, ↓dhG_M_16, ↓dhg_M_17, ↓dhq_M_17, ↓dhg_M_18, ↓dhq_M_18, ↓dhG_M_19, ↓dhG_M_20, ↓dhG_M_21, ↓dhG_M_22, ↓dhG_M_23, ↓dhG_M_24, ↓dhg_M_25, ↓dhq_M_25, ↓dhG_M_26, ↓dhG_M_27, ↓dhG_M_28, ↓dhg_M_29, ↓dhq_M_29, ↓dhG_M_30, ↓dhG_M_31, ↓dhg_M_32, ↓dhq_M_32, ↓dhg_M_33, ↓dhq_M_33, ↓dhg_M_34, ↓dhq_M_34, ↓dhg_M_35, ↓dhq_M_35, ↓dhG_M_36, ↓dhG_M_37, ↓dhg_M_38, ↓dhq_M_38, ↓dhg_M_39, ↓dhq_M_39, ↓dhG_M_40, ↓dhG_M_41, ↓dhG_M_42, ↓dhG_M_43, ↓dhg_M_44, ↓dhq_M_44, Option.bind_some, ↓nm_eq, ↓sm_inl, ↓sm_inr, ↓dzo_0, ↓dzo_1, ↓drg_ok, ↓if_pos, ↓if_neg, if_pos, if_neg, if_true, if_false, Int.toNat_natCast, rg_ok, ↓bnd esz] <;> rfl
  · rw [gu_ne (by decide)]
    by_cases e : i = t + 1 - Gl g q
    · rw [gu_at_eq e, e, up_eq]
    · rw [gu_at_ne e, up_ne e, gu_ne (by decide), gu_ne (by decide)]; exact hR.2.1 i (by omega)
  · by_cases e : i = t + 1 - Gl g q
    · rw [gu_at_eq e, e, up_eq]
    · rw [gu_at_ne e, up_ne e, gu_ne (by decide), gu_ne (by decide), gu_ne (by decide)]; exact hR.2.2 i h1 (by omega)
theorem X12_runl (hn : 1000000000000000000000000000000 ≤ n) {kd : Nat} {lv sd : Nat → Int} {w : Nat → Nat} {nw : Nat} {J0 : Nat → Nat → Int} (h : RTB g kd J0 L) (hl : RLV lv sd J0) (hs : WSE w nw J0) (hsw : SW w nw) (hk : 1 ≤ kd ∧ kd ≤ 3) (hb : Sb (zS g (kb kd)) = false) :
    ∀ (r f : Nat) (J : Nat → Nat → Int) (st wo : Nat → Nat) (t pl : Nat), r + 1 < f → r ≤ 300 → Fr RUL J0 J → RUK J0 J → LI g kd st wo t → RRs J st wo t → t + r ≤ 300 → pl ≤ nw →
    ∃ J', l_X12_runs_29 n f 161 (kd : Int) (pl : Int) ((300 - r : Nat) : Int) (hp u J L) = some ((lrq g kd lv sd w r st wo t pl).1, hp u J' L) ∧ Fr RUL J0 J' ∧ RUK J0 J' ∧ ((lrq g kd lv sd w r st wo t pl).1 = -1 → J' 161 39 = (lrq g kd lv sd w r st wo t pl).2) := by
  have hg := h.1.gr
  have h24 := hg.1
  have h12 := hsw.1
  have hn80 := zS_n (b := kb kd) hg
  intro r
  induction r with
  | zero =>
    intro f J st wo t pl hf hr f1 q2 hI hR ht hpl
    obtain ⟨f', rfl⟩ : ∃ f', f = f' + 1 + 1 := ⟨f - 2, by omega⟩
    have hC := h.run f1 q2
    have hL := hl.fr (f1 171 (by decide)) (f1 172 (by decide))
    have hst := (hI.2.1 t (Nat.le_refl _)).1
    have ec := X12_cell (u := u) (L := L) hn hC hL hk hb (t := st t) (y := w pl) hst (hsw.le pl)
    obtain ⟨zm, zr⟩ := zce_m (g := g) (kd := kd) (t := st t) (y := w pl) (lv := lv) (sd := sd) hg
    have e38 := hR.1
    have est := hR.2.1 t (Nat.le_refl _)
    have e17 : J 161 17 = (nw : Int) := (q2 17 (by decide) (by decide)).trans hs.1
    have e29 : l_X12_runs_29 n (f' + 1 + 1) 161 (kd : Int) (pl : Int) ((300 - 0 : Nat) : Int) (hp u J L) = b_X12_runs_55 n (l_X12_runs_29 n (f' + 1)) 161 (kd : Int) (pl : Int) ((300 - 0 : Nat) : Int) (w pl : Int) (hp u J L) := by
      by_cases c : nw ≤ pl
      · have e8 : (w pl : Int) = 8 := by rw [hsw.2.2 pl c]; rfl
        rw [e8]
        simp (disch := omega) only [l_X12_runs_29, b_X12_runs_29, ↓dhi_M, ↓dhG_M_0, ↓dhG_M_1, ↓dhG_M_2, ↓dhG_M_3, ↓dhG_M_4, ↓dhG_M_5, ↓dhG_M_6, ↓dhG_M_7, ↓dhG_M_8, ↓dhg_M_9, ↓dhq_M_9, ↓dhG_M_10, ↓dhG_M_11, ↓dhG_M_12, ↓dhg_M_13, ↓dhq_M_13, ↓dhG_M_14, ↓dhg_M_15, ↓dhq_M_15, ↓dhG_M_16, ↓dhg_M_17, ↓dhq_M_17, ↓dhg_M_18, ↓dhq_M_18, ↓dhG_M_19, ↓dhG_M_20, ↓dhG_M_21, ↓dhG_M_22, ↓dhG_M_23, ↓dhG_M_24, ↓dhg_M_25, ↓dhq_M_25, ↓dhG_M_26, ↓dhG_M_27, ↓dhG_M_28, ↓dhg_M_29, ↓dhq_M_29, ↓dhG_M_30, ↓dhG_M_31, ↓dhg_M_32, ↓dhq_M_32, ↓dhg_M_33, ↓dhq_M_33, ↓dhg_M_34, ↓dhq_M_34, ↓dhg_M_35, ↓dhq_M_35, ↓dhG_M_36, ↓dhG_M_37, ↓dhg_M_38, ↓dhq_M_38, ↓dhg_M_39, ↓dhq_M_39, ↓dhG_M_40, ↓dhG_M_41, ↓dhG_M_42, ↓dhG_M_43, ↓dhg_M_44, ↓dhq_M_44, Option.bind_some, ↓nm_eq, ↓sm_inl, ↓sm_inr, ↓dzo_0, ↓dzo_1, ↓drg_ok, ↓if_pos, ↓if_neg, if_pos, if_neg, if_true, if_false, Int.toNat_natCast, rg_ok, e17]
      · have ew : J 175 pl = (w pl : Int) := by rw [f1 175 (by decide)]; exact hs.2 pl (by omega)
        simp (disch := omega) only [l_X12_runs_29, b_X12_runs_29, ↓dhi_M, ↓dhG_M_0, ↓dhG_M_1, ↓dhG_M_2, ↓dhG_M_3, ↓dhG_M_4, ↓dhG_M_5, ↓dhG_M_6, ↓dhG_M_7, ↓dhG_M_8, ↓dhg_M_9, ↓dhq_M_9, ↓dhG_M_10, ↓dhG_M_11, ↓dhG_M_12, ↓dhg_M_13, ↓dhq_M_13, ↓dhG_M_14, ↓dhg_M_15, ↓dhq_M_15, ↓dhG_M_16, ↓dhg_M_17, ↓dhq_M_17, ↓dhg_M_18, ↓dhq_M_18, ↓dhG_M_19, ↓dhG_M_20, ↓dhG_M_21, ↓dhG_M_22, ↓dhG_M_23, ↓dhG_M_24, ↓dhg_M_25, ↓dhq_M_25, ↓dhG_M_26, ↓dhG_M_27, ↓dhG_M_28, ↓dhg_M_29, ↓dhq_M_29, ↓dhG_M_30, ↓dhG_M_31, ↓dhg_M_32, ↓dhq_M_32, ↓dhg_M_33, ↓dhq_M_33, ↓dhg_M_34, ↓dhq_M_34, ↓dhg_M_35, ↓dhq_M_35, ↓dhG_M_36, ↓dhG_M_37, ↓dhg_M_38, ↓dhq_M_38, ↓dhg_M_39, ↓dhq_M_39, ↓dhG_M_40, ↓dhG_M_41, ↓dhG_M_42, ↓dhG_M_43, ↓dhg_M_44, ↓dhq_M_44, ↓dha_175, ↓dhs_175, ↓dhl_175, Option.bind_some, ↓nm_eq, ↓sm_inl, ↓sm_inr, ↓dzo_0, ↓dzo_1, ↓drg_ok, ↓if_pos, ↓if_neg, if_pos, if_neg, if_true, if_false, Int.toNat_natCast, rg_ok, e17, ew]
    rw [e29]
    rcases zat_c (g := g) (kd := kd) (lv := lv) (sd := sd) (t := st t) (y := w pl) hg with z | z | ⟨z, -⟩ | ⟨q, z, hq, -⟩
    · rw [lrq_25 0 z]
      rw [z, zcd_25] at zm
      have h1t : 1 ≤ t := by
        have hz : zac g kd (st t) (w pl) = true := by
          apply Classical.byContradiction
          intro y
          unfold zat at z
          have hlo := zlo_rg (g := g) (kd := kd) (t := st t) (y := w pl)
          have hlo2 : zlo g kd (st t) (w pl) < 24 := by rcases hlo with ⟨x, -⟩ | ⟨p, x, x2, -⟩ <;> omega
          rw [if_neg y] at z
          split at z
          · split at z
            · split at z
              · omega
              · split at z <;> omega
            · split at z <;> omega
          · split at z <;> omega
        exact (LI.item hg hb 1 t 24 hI (zdb_t.mp hz).1).1
      have ewo := hR.2.2 t h1t (Nat.le_refl _)
      refine ⟨gx_u J 161 39 (wo t : Int), ?_, f1.wr (by decide), fun k a b => by rw [gu_at_ne b]; exact q2 k a b, fun _ => gu_at_eq rfl⟩
      simp (disch := omega) only [b_X12_runs_55, b_X12_runs_95, ↓dhi_M, ↓dhG_M_0, ↓dhG_M_1, ↓dhG_M_2, ↓dhG_M_3, ↓dhG_M_4, ↓dhG_M_5, ↓dhG_M_6, ↓dhG_M_7, ↓dhG_M_8, ↓dhg_M_9, ↓dhq_M_9, ↓dhG_M_10, ↓dhG_M_11, ↓dhG_M_12, ↓dhg_M_13, ↓dhq_M_13, ↓dhG_M_14, ↓dhg_M_15, ↓dhq_M_15, ↓dhG_M_16, ↓dhg_M_17, ↓dhq_M_17, ↓dhg_M_18, ↓dhq_M_18, ↓dhG_M_19, ↓dhG_M_20, ↓dhG_M_21, ↓dhG_M_22, ↓dhG_M_23, ↓dhG_M_24, ↓dhg_M_25, ↓dhq_M_25, ↓dhG_M_26, ↓dhG_M_27, ↓dhG_M_28, ↓dhg_M_29, ↓dhq_M_29, ↓dhG_M_30, ↓dhG_M_31, ↓dhg_M_32, ↓dhq_M_32, ↓dhg_M_33, ↓dhq_M_33, ↓dhg_M_34, ↓dhq_M_34, ↓dhg_M_35, ↓dhq_M_35, ↓dhG_M_36, ↓dhG_M_37, ↓dhg_M_38, ↓dhq_M_38, ↓dhg_M_39, ↓dhq_M_39, ↓dhG_M_40, ↓dhG_M_41, ↓dhG_M_42, ↓dhG_M_43, ↓dhg_M_44, ↓dhq_M_44, ↓dha_187, ↓dhs_187, ↓dhl_187, ↓dha_188, ↓dhs_188, ↓dhl_188, Option.bind_some, ↓nm_eq, ↓sm_inl, ↓sm_inr, ↓dzo_0, ↓dzo_1, ↓drg_ok, ↓if_pos, ↓if_neg, if_pos, if_neg, if_true, if_false, Int.toNat_natCast, rg_ok, e38, Int.toNat_natCast, est, ↓bnd ec, ↓ddg_ok, zm, ewo]
    · rw [lrq_m 0 z]
      rw [z, zcd_m] at zm
      refine ⟨gx_u J 161 39 (J 188 t), ?_, f1.wr (by decide), fun k a b => by rw [gu_at_ne b]; exact q2 k a b, fun y => by omega⟩
      simp (disch := omega) only [b_X12_runs_55, b_X12_runs_95, ↓dhi_M, ↓dhG_M_0, ↓dhG_M_1, ↓dhG_M_2, ↓dhG_M_3, ↓dhG_M_4, ↓dhG_M_5, ↓dhG_M_6, ↓dhG_M_7, ↓dhG_M_8, ↓dhg_M_9, ↓dhq_M_9, ↓dhG_M_10, ↓dhG_M_11, ↓dhG_M_12, ↓dhg_M_13, ↓dhq_M_13, ↓dhG_M_14, ↓dhg_M_15, ↓dhq_M_15, ↓dhG_M_16, ↓dhg_M_17, ↓dhq_M_17, ↓dhg_M_18, ↓dhq_M_18, ↓dhG_M_19, ↓dhG_M_20, ↓dhG_M_21, ↓dhG_M_22, ↓dhG_M_23, ↓dhG_M_24, ↓dhg_M_25, ↓dhq_M_25, ↓dhG_M_26, ↓dhG_M_27, ↓dhG_M_28, ↓dhg_M_29, ↓dhq_M_29, ↓dhG_M_30, ↓dhG_M_31, ↓dhg_M_32, ↓dhq_M_32, ↓dhg_M_33, ↓dhq_M_33, ↓dhg_M_34, ↓dhq_M_34, ↓dhg_M_35, ↓dhq_M_35, ↓dhG_M_36, ↓dhG_M_37, ↓dhg_M_38, ↓dhq_M_38, ↓dhg_M_39, ↓dhq_M_39, ↓dhG_M_40, ↓dhG_M_41, ↓dhG_M_42, ↓dhG_M_43, ↓dhg_M_44, ↓dhq_M_44, ↓dha_187, ↓dhs_187, ↓dhl_187, ↓dha_188, ↓dhs_188, ↓dhl_188, Option.bind_some, ↓nm_eq, ↓sm_inl, ↓sm_inr, ↓dzo_0, ↓dzo_1, ↓drg_ok, ↓if_pos, ↓if_neg, if_pos, if_neg, if_true, if_false, Int.toNat_natCast, rg_ok, e38, Int.toNat_natCast, est, ↓bnd ec, ↓ddg_ok, zm]
    · rw [lrq_0 (by rw [z]; decide) (by rw [z]; decide)]
      rw [z, zcd_24] at zm
      refine ⟨J, ?_, f1, q2, fun y => by omega⟩
      simp (disch := omega) only [b_X12_runs_55, b_X12_runs_193, b_X12_runs_207, l_X12_runs_29, b_X12_runs_29, ↓dhi_M, ↓dhG_M_0, ↓dhG_M_1, ↓dhG_M_2, ↓dhG_M_3, ↓dhG_M_4, ↓dhG_M_5, ↓dhG_M_6, ↓dhG_M_7, ↓dhG_M_8, ↓dhg_M_9, ↓dhq_M_9, ↓dhG_M_10, ↓dhG_M_11, ↓dhG_M_12, ↓dhg_M_13, ↓dhq_M_13, ↓dhG_M_14, ↓dhg_M_15, ↓dhq_M_15, ↓dhG_M_16, ↓dhg_M_17, ↓dhq_M_17, ↓dhg_M_18, ↓dhq_M_18, ↓dhG_M_19, ↓dhG_M_20, ↓dhG_M_21, ↓dhG_M_22, ↓dhG_M_23, ↓dhG_M_24, ↓dhg_M_25, ↓dhq_M_25, ↓dhG_M_26, ↓dhG_M_27, ↓dhG_M_28, ↓dhg_M_29, ↓dhq_M_29, ↓dhG_M_30, ↓dhG_M_31, ↓dhg_M_32, ↓dhq_M_32, ↓dhg_M_33, ↓dhq_M_33, ↓dhg_M_34, ↓dhq_M_34, ↓dhg_M_35, ↓dhq_M_35, ↓dhG_M_36, ↓dhG_M_37, ↓dhg_M_38, ↓dhq_M_38, ↓dhg_M_39, ↓dhq_M_39, ↓dhG_M_40, ↓dhG_M_41, ↓dhG_M_42, ↓dhG_M_43, ↓dhg_M_44, ↓dhq_M_44, ↓dha_187, ↓dhs_187, ↓dhl_187, ↓dha_188, ↓dhs_188, ↓dhl_188, Option.bind_some, ↓nm_eq, ↓sm_inl, ↓sm_inr, ↓dzo_0, ↓dzo_1, ↓drg_ok, ↓if_pos, ↓if_neg, if_pos, if_neg, if_true, if_false, Int.toNat_natCast, rg_ok, e38, Int.toNat_natCast, est, ↓bnd ec, ↓ddg_ok, zm]
    · rw [lrq_0 (by rw [z]; omega) (by rw [z]; omega)]
      rw [z, zcd_q (by omega)] at zm
      refine ⟨J, ?_, f1, q2, fun y => by omega⟩
      simp (disch := omega) only [b_X12_runs_55, b_X12_runs_193, b_X12_runs_207, l_X12_runs_29, b_X12_runs_29, ↓dhi_M, ↓dhG_M_0, ↓dhG_M_1, ↓dhG_M_2, ↓dhG_M_3, ↓dhG_M_4, ↓dhG_M_5, ↓dhG_M_6, ↓dhG_M_7, ↓dhG_M_8, ↓dhg_M_9, ↓dhq_M_9, ↓dhG_M_10, ↓dhG_M_11, ↓dhG_M_12, ↓dhg_M_13, ↓dhq_M_13, ↓dhG_M_14, ↓dhg_M_15, ↓dhq_M_15, ↓dhG_M_16, ↓dhg_M_17, ↓dhq_M_17, ↓dhg_M_18, ↓dhq_M_18, ↓dhG_M_19, ↓dhG_M_20, ↓dhG_M_21, ↓dhG_M_22, ↓dhG_M_23, ↓dhG_M_24, ↓dhg_M_25, ↓dhq_M_25, ↓dhG_M_26, ↓dhG_M_27, ↓dhG_M_28, ↓dhg_M_29, ↓dhq_M_29, ↓dhG_M_30, ↓dhG_M_31, ↓dhg_M_32, ↓dhq_M_32, ↓dhg_M_33, ↓dhq_M_33, ↓dhg_M_34, ↓dhq_M_34, ↓dhg_M_35, ↓dhq_M_35, ↓dhG_M_36, ↓dhG_M_37, ↓dhg_M_38, ↓dhq_M_38, ↓dhg_M_39, ↓dhq_M_39, ↓dhG_M_40, ↓dhG_M_41, ↓dhG_M_42, ↓dhG_M_43, ↓dhg_M_44, ↓dhq_M_44, ↓dha_187, ↓dhs_187, ↓dhl_187, ↓dha_188, ↓dhs_188, ↓dhl_188, Option.bind_some, ↓nm_eq, ↓sm_inl, ↓sm_inr, ↓dzo_0, ↓dzo_1, ↓drg_ok, ↓if_pos, ↓if_neg, if_pos, if_neg, if_true, if_false, Int.toNat_natCast, rg_ok, e38, Int.toNat_natCast, est, ↓bnd ec, ↓ddg_ok, zm]
  | succ r ih =>
    intro f J st wo t pl hf hr f1 q2 hI hR ht hpl
    obtain ⟨f', rfl⟩ : ∃ f', f = f' + 1 := ⟨f - 1, by omega⟩
    have hC := h.run f1 q2
    have hL := hl.fr (f1 171 (by decide)) (f1 172 (by decide))
    have hst := (hI.2.1 t (Nat.le_refl _)).1
    have ec := X12_cell (u := u) (L := L) hn hC hL hk hb (t := st t) (y := w pl) hst (hsw.le pl)
    obtain ⟨zm, zr⟩ := zce_m (g := g) (kd := kd) (t := st t) (y := w pl) (lv := lv) (sd := sd) hg
    have e38 := hR.1
    have est := hR.2.1 t (Nat.le_refl _)
    have e17 : J 161 17 = (nw : Int) := (q2 17 (by decide) (by decide)).trans hs.1
    have estep : ((300 - (r + 1) : Nat) : Int) + 1 = ((300 - r : Nat) : Int) := by omega
    have e29 : l_X12_runs_29 n (f' + 1) 161 (kd : Int) (pl : Int) ((300 - (r + 1) : Nat) : Int) (hp u J L) = b_X12_runs_55 n (l_X12_runs_29 n f') 161 (kd : Int) (pl : Int) ((300 - (r + 1) : Nat) : Int) (w pl : Int) (hp u J L) := by
      by_cases c : nw ≤ pl
      · have e8 : (w pl : Int) = 8 := by rw [hsw.2.2 pl c]; rfl
        rw [e8]
        simp (disch := omega) only [l_X12_runs_29, b_X12_runs_29, ↓dhi_M, ↓dhG_M_0, ↓dhG_M_1, ↓dhG_M_2, ↓dhG_M_3, ↓dhG_M_4, ↓dhG_M_5, ↓dhG_M_6, ↓dhG_M_7, ↓dhG_M_8, ↓dhg_M_9, ↓dhq_M_9, ↓dhG_M_10, ↓dhG_M_11, ↓dhG_M_12, ↓dhg_M_13, ↓dhq_M_13, ↓dhG_M_14, ↓dhg_M_15, ↓dhq_M_15, ↓dhG_M_16, ↓dhg_M_17, ↓dhq_M_17, ↓dhg_M_18, ↓dhq_M_18, ↓dhG_M_19, ↓dhG_M_20, ↓dhG_M_21, ↓dhG_M_22, ↓dhG_M_23, ↓dhG_M_24, ↓dhg_M_25, ↓dhq_M_25, ↓dhG_M_26, ↓dhG_M_27, ↓dhG_M_28, ↓dhg_M_29, ↓dhq_M_29, ↓dhG_M_30, ↓dhG_M_31, ↓dhg_M_32, ↓dhq_M_32, ↓dhg_M_33, ↓dhq_M_33, ↓dhg_M_34, ↓dhq_M_34, ↓dhg_M_35, ↓dhq_M_35, ↓dhG_M_36, ↓dhG_M_37, ↓dhg_M_38, ↓dhq_M_38, ↓dhg_M_39, ↓dhq_M_39, ↓dhG_M_40, ↓dhG_M_41, ↓dhG_M_42, ↓dhG_M_43, ↓dhg_M_44, ↓dhq_M_44, Option.bind_some, ↓nm_eq, ↓sm_inl, ↓sm_inr, ↓dzo_0, ↓dzo_1, ↓drg_ok, ↓if_pos, ↓if_neg, if_pos, if_neg, if_true, if_false, Int.toNat_natCast, rg_ok, e17]
      · have ew : J 175 pl = (w pl : Int) := by rw [f1 175 (by decide)]; exact hs.2 pl (by omega)
        simp (disch := omega) only [l_X12_runs_29, b_X12_runs_29, ↓dhi_M, ↓dhG_M_0, ↓dhG_M_1, ↓dhG_M_2, ↓dhG_M_3, ↓dhG_M_4, ↓dhG_M_5, ↓dhG_M_6, ↓dhG_M_7, ↓dhG_M_8, ↓dhg_M_9, ↓dhq_M_9, ↓dhG_M_10, ↓dhG_M_11, ↓dhG_M_12, ↓dhg_M_13, ↓dhq_M_13, ↓dhG_M_14, ↓dhg_M_15, ↓dhq_M_15, ↓dhG_M_16, ↓dhg_M_17, ↓dhq_M_17, ↓dhg_M_18, ↓dhq_M_18, ↓dhG_M_19, ↓dhG_M_20, ↓dhG_M_21, ↓dhG_M_22, ↓dhG_M_23, ↓dhG_M_24, ↓dhg_M_25, ↓dhq_M_25, ↓dhG_M_26, ↓dhG_M_27, ↓dhG_M_28, ↓dhg_M_29, ↓dhq_M_29, ↓dhG_M_30, ↓dhG_M_31, ↓dhg_M_32, ↓dhq_M_32, ↓dhg_M_33, ↓dhq_M_33, ↓dhg_M_34, ↓dhq_M_34, ↓dhg_M_35, ↓dhq_M_35, ↓dhG_M_36, ↓dhG_M_37, ↓dhg_M_38, ↓dhq_M_38, ↓dhg_M_39, ↓dhq_M_39, ↓dhG_M_40, ↓dhG_M_41, ↓dhG_M_42, ↓dhG_M_43, ↓dhg_M_44, ↓dhq_M_44, ↓dha_175, ↓dhs_175, ↓dhl_175, Option.bind_some, ↓nm_eq, ↓sm_inl, ↓sm_inr, ↓dzo_0, ↓dzo_1, ↓drg_ok, ↓if_pos, ↓if_neg, if_pos, if_neg, if_true, if_false, Int.toNat_natCast, rg_ok, e17, ew]
    rw [e29]
    rcases zat_c (g := g) (kd := kd) (lv := lv) (sd := sd) (t := st t) (y := w pl) hg with z | z | ⟨z, hz⟩ | ⟨q, z, hq, hz⟩
    · rw [lrq_25 (r + 1) z]
      rw [z, zcd_25] at zm
      have h1t : 1 ≤ t := by
        have hz : zac g kd (st t) (w pl) = true := by
          apply Classical.byContradiction
          intro y
          unfold zat at z
          have hlo := zlo_rg (g := g) (kd := kd) (t := st t) (y := w pl)
          have hlo2 : zlo g kd (st t) (w pl) < 24 := by rcases hlo with ⟨x, -⟩ | ⟨p, x, x2, -⟩ <;> omega
          rw [if_neg y] at z
          split at z
          · split at z
            · split at z
              · omega
              · split at z <;> omega
            · split at z <;> omega
          · split at z <;> omega
        exact (LI.item hg hb 1 t 24 hI (zdb_t.mp hz).1).1
      have ewo := hR.2.2 t h1t (Nat.le_refl _)
      refine ⟨gx_u J 161 39 (wo t : Int), ?_, f1.wr (by decide), fun k a b => by rw [gu_at_ne b]; exact q2 k a b, fun _ => gu_at_eq rfl⟩
      simp (disch := omega) only [b_X12_runs_55, b_X12_runs_95, ↓dhi_M, ↓dhG_M_0, ↓dhG_M_1, ↓dhG_M_2, ↓dhG_M_3, ↓dhG_M_4, ↓dhG_M_5, ↓dhG_M_6, ↓dhG_M_7, ↓dhG_M_8, ↓dhg_M_9, ↓dhq_M_9, ↓dhG_M_10, ↓dhG_M_11, ↓dhG_M_12, ↓dhg_M_13, ↓dhq_M_13, ↓dhG_M_14, ↓dhg_M_15, ↓dhq_M_15, ↓dhG_M_16, ↓dhg_M_17, ↓dhq_M_17, ↓dhg_M_18, ↓dhq_M_18, ↓dhG_M_19, ↓dhG_M_20, ↓dhG_M_21, ↓dhG_M_22, ↓dhG_M_23, ↓dhG_M_24, ↓dhg_M_25, ↓dhq_M_25, ↓dhG_M_26, ↓dhG_M_27, ↓dhG_M_28, ↓dhg_M_29, ↓dhq_M_29, ↓dhG_M_30, ↓dhG_M_31, ↓dhg_M_32, ↓dhq_M_32, ↓dhg_M_33, ↓dhq_M_33, ↓dhg_M_34, ↓dhq_M_34, ↓dhg_M_35, ↓dhq_M_35, ↓dhG_M_36, ↓dhG_M_37, ↓dhg_M_38, ↓dhq_M_38, ↓dhg_M_39, ↓dhq_M_39, ↓dhG_M_40, ↓dhG_M_41, ↓dhG_M_42, ↓dhG_M_43, ↓dhg_M_44, ↓dhq_M_44, ↓dha_187, ↓dhs_187, ↓dhl_187, ↓dha_188, ↓dhs_188, ↓dhl_188, Option.bind_some, ↓nm_eq, ↓sm_inl, ↓sm_inr, ↓dzo_0, ↓dzo_1, ↓drg_ok, ↓if_pos, ↓if_neg, if_pos, if_neg, if_true, if_false, Int.toNat_natCast, rg_ok, e38, Int.toNat_natCast, est, ↓bnd ec, ↓ddg_ok, zm, ewo]
    · rw [lrq_m (r + 1) z]
      rw [z, zcd_m] at zm
      refine ⟨gx_u J 161 39 (J 188 t), ?_, f1.wr (by decide), fun k a b => by rw [gu_at_ne b]; exact q2 k a b, fun y => by omega⟩
      simp (disch := omega) only [b_X12_runs_55, b_X12_runs_95, ↓dhi_M, ↓dhG_M_0, ↓dhG_M_1, ↓dhG_M_2, ↓dhG_M_3, ↓dhG_M_4, ↓dhG_M_5, ↓dhG_M_6, ↓dhG_M_7, ↓dhG_M_8, ↓dhg_M_9, ↓dhq_M_9, ↓dhG_M_10, ↓dhG_M_11, ↓dhG_M_12, ↓dhg_M_13, ↓dhq_M_13, ↓dhG_M_14, ↓dhg_M_15, ↓dhq_M_15, ↓dhG_M_16, ↓dhg_M_17, ↓dhq_M_17, ↓dhg_M_18, ↓dhq_M_18, ↓dhG_M_19, ↓dhG_M_20, ↓dhG_M_21, ↓dhG_M_22, ↓dhG_M_23, ↓dhG_M_24, ↓dhg_M_25, ↓dhq_M_25, ↓dhG_M_26, ↓dhG_M_27, ↓dhG_M_28, ↓dhg_M_29, ↓dhq_M_29, ↓dhG_M_30, ↓dhG_M_31, ↓dhg_M_32, ↓dhq_M_32, ↓dhg_M_33, ↓dhq_M_33, ↓dhg_M_34, ↓dhq_M_34, ↓dhg_M_35, ↓dhq_M_35, ↓dhG_M_36, ↓dhG_M_37, ↓dhg_M_38, ↓dhq_M_38, ↓dhg_M_39, ↓dhq_M_39, ↓dhG_M_40, ↓dhG_M_41, ↓dhG_M_42, ↓dhG_M_43, ↓dhg_M_44, ↓dhq_M_44, ↓dha_187, ↓dhs_187, ↓dhl_187, ↓dha_188, ↓dhs_188, ↓dhl_188, Option.bind_some, ↓nm_eq, ↓sm_inl, ↓sm_inr, ↓dzo_0, ↓dzo_1, ↓drg_ok, ↓if_pos, ↓if_neg, if_pos, if_neg, if_true, if_false, Int.toNat_natCast, rg_ok, e38, Int.toNat_natCast, est, ↓bnd ec, ↓ddg_ok, zm]
    · obtain ⟨h8, t0, hm, ht0, hI'⟩ := hI.shift hg hb hz
      rw [lrq_24 r z hm]
      rw [z, zcd_24] at zm
      have ego := X12_goTo (u := u) (L := L) hC hk hb (t := st t) (x := w pl) hst (by omega)
      rw [hm] at ego
      have et1 : (t : Int) + 1 = ((t + 1 : Nat) : Int) := rfl
      have ew1 : (w pl : Int) + 1 = ((w pl + 1 : Nat) : Int) := rfl
      have ep1 : (pl : Int) + 1 = ((pl + 1 : Nat) : Int) := rfl
      have g38 : ∀ (K : Nat → Nat → Int) x, gx_u K 161 38 x 161 38 = x := fun K x => gu_at_eq rfl
      have g187 : ∀ (K : Nat → Nat → Int) i x, gx_u K 187 i x 161 = K 161 := fun K i x => gu_ne (by decide)
      obtain ⟨J', i1, i2, i3, i4⟩ := ih f' (gx_u (gx_u (gx_u J 161 38 ((t + 1 : Nat) : Int)) 187 (t + 1) (t0 : Int)) 188 (t + 1) ((w pl + 1 : Nat) : Int)) (up st (t + 1) t0) (up wo (t + 1) (w pl + 1)) (t + 1) (pl + 1) (by omega) (by omega) (((f1.wr (by decide)).wr (by decide)).wr (by decide)) (fun k a b => by rw [gu_ne (by decide), gu_ne (by decide), gu_at_ne a]; exact q2 k a b) hI' ⟨by rw [gu_ne (by decide), gu_ne (by decide), gu_at_eq rfl], fun i hi => by
        rw [gu_ne (by decide)]
        by_cases e : i = t + 1
        · rw [gu_at_eq e, e, up_eq]
        · rw [gu_at_ne e, up_ne e, gu_ne (by decide)]; exact hR.2.1 i (by omega), fun i h1 hi => by
        by_cases e : i = t + 1
        · rw [gu_at_eq e, e, up_eq]
        · rw [gu_at_ne e, up_ne e, gu_ne (by decide), gu_ne (by decide)]; exact hR.2.2 i h1 (by omega)⟩ (by omega) (by have := hsw.lt h8; omega)
      refine ⟨J', ?_, i2, i3, i4⟩
      rw [← i1]
      simp (disch := omega) only [b_X12_runs_55, b_X12_runs_207, ↓dhi_M, ↓dhG_M_0, ↓dhG_M_1, ↓dhG_M_2, ↓dhG_M_3, ↓dhG_M_4, ↓dhG_M_5, ↓dhG_M_6, ↓dhG_M_7, ↓dhG_M_8, ↓dhg_M_9, ↓dhq_M_9, ↓dhG_M_10, ↓dhG_M_11, ↓dhG_M_12, ↓dhg_M_13, ↓dhq_M_13, ↓dhG_M_14, ↓dhg_M_15, ↓dhq_M_15, ↓dhG_M_16, ↓dhg_M_17, ↓dhq_M_17, ↓dhg_M_18, ↓dhq_M_18, ↓dhG_M_19, ↓dhG_M_20, ↓dhG_M_21, ↓dhG_M_22, ↓dhG_M_23, ↓dhG_M_24, ↓dhg_M_25, ↓dhq_M_25, ↓dhG_M_26, ↓dhG_M_27, ↓dhG_M_28, ↓dhg_M_29, ↓dhq_M_29, ↓dhG_M_30, ↓dhG_M_31, ↓dhg_M_32, ↓dhq_M_32, ↓dhg_M_33, ↓dhq_M_33, ↓dhg_M_34, ↓dhq_M_34, ↓dhg_M_35, ↓dhq_M_35, ↓dhG_M_36, ↓dhG_M_37, ↓dhg_M_38, ↓dhq_M_38, ↓dhg_M_39, ↓dhq_M_39, ↓dhG_M_40, ↓dhG_M_41, ↓dhG_M_42, ↓dhG_M_43, ↓dhg_M_44, ↓dhq_M_44, ↓dha_187, ↓dhs_187, ↓dhl_187, ↓dha_188, ↓dhs_188, ↓dhl_188, Option.bind_some, ↓nm_eq, ↓sm_inl, ↓sm_inr, ↓dzo_0, ↓dzo_1, ↓drg_ok, ↓if_pos, ↓if_neg, if_pos, if_neg, if_true, if_false, Int.toNat_natCast, rg_ok, e38, g38, g187, Int.toNat_natCast, est, ↓bnd ec, ↓ddg_ok, zm, ↓bnd ego, et1, ew1, ep1, estep]
    · obtain ⟨hlq, t0, hm, ht0, hI'⟩ := hI.reduce hg hb hq hz
      rw [lrq_q r z (by omega) hm]
      rw [z, zcd_q (by omega)] at zm
      obtain ⟨J2, er, fr, qr, hR2⟩ := X12_reduced (u := u) (L := L) hn hC hk hb hI hR (by omega) hq hlq hm
      obtain ⟨J', i1, i2, i3, i4⟩ := ih f' J2 _ _ (t + 1 - Gl g q) pl (by omega) (by omega) (f1.tr fr) (fun k a b => (qr k a b).trans (q2 k a b)) (hI' ((q + 1 + ws wo (t + 1 - Gl g q) (Gl g q)) % 1009) (Nat.mod_lt _ (by decide))) hR2 (by omega) hpl
      refine ⟨J', ?_, i2, i3, i4⟩
      rw [← i1]
      simp (disch := omega) only [b_X12_runs_55, b_X12_runs_193, b_X12_runs_207, ↓dhi_M, ↓dhG_M_0, ↓dhG_M_1, ↓dhG_M_2, ↓dhG_M_3, ↓dhG_M_4, ↓dhG_M_5, ↓dhG_M_6, ↓dhG_M_7, ↓dhG_M_8, ↓dhg_M_9, ↓dhq_M_9, ↓dhG_M_10, ↓dhG_M_11, ↓dhG_M_12, ↓dhg_M_13, ↓dhq_M_13, ↓dhG_M_14, ↓dhg_M_15, ↓dhq_M_15, ↓dhG_M_16, ↓dhg_M_17, ↓dhq_M_17, ↓dhg_M_18, ↓dhq_M_18, ↓dhG_M_19, ↓dhG_M_20, ↓dhG_M_21, ↓dhG_M_22, ↓dhG_M_23, ↓dhG_M_24, ↓dhg_M_25, ↓dhq_M_25, ↓dhG_M_26, ↓dhG_M_27, ↓dhG_M_28, ↓dhg_M_29, ↓dhq_M_29, ↓dhG_M_30, ↓dhG_M_31, ↓dhg_M_32, ↓dhq_M_32, ↓dhg_M_33, ↓dhq_M_33, ↓dhg_M_34, ↓dhq_M_34, ↓dhg_M_35, ↓dhq_M_35, ↓dhG_M_36, ↓dhG_M_37, ↓dhg_M_38, ↓dhq_M_38, ↓dhg_M_39, ↓dhq_M_39, ↓dhG_M_40, ↓dhG_M_41, ↓dhG_M_42, ↓dhG_M_43, ↓dhg_M_44, ↓dhq_M_44, ↓dha_187, ↓dhs_187, ↓dhl_187, ↓dha_188, ↓dhs_188, ↓dhl_188, Option.bind_some, ↓nm_eq, ↓sm_inl, ↓sm_inr, ↓dzo_0, ↓dzo_1, ↓drg_ok, ↓if_pos, ↓if_neg, if_pos, if_neg, if_true, if_false, Int.toNat_natCast, rg_ok, ↓bnd er, e38, Int.toNat_natCast, est, ↓bnd ec, ↓ddg_ok, zm, estep]
theorem RST.run {J J' : Nat → Nat → Int} (h : RST g J L) (f : Fr RUL J J') (q : RUK J J') : RST g J' L := by
  refine h.fr f (fun a ha hb => ?_) (fun k hk => q k (by omega) (by omega)) rfl
  simp [RSL] at ha
  simp [RUL]
  omega
theorem X12_runs (hn : 1000000000000000000000000000000 ≤ n) {kd : Nat} {lv sd : Nat → Int} {w : Nat → Nat} {nw : Nat} {J0 : Nat → Nat → Int} (h : RST g J0 L) (hl : RLV lv sd J0) (hs : WSE w nw J0) (hsw : SW w nw) (hk : 1 ≤ kd ∧ kd ≤ 3) :
    ∃ J K, f_X12_runs n 161 (kd : Int) (hp u J0 L) = some ((zrun g kd lv sd w).1, hp u J K) ∧ Fr (RSL ++ [187, 188]) J0 J ∧ Fr RSL L K ∧ (∀ k, k ≠ 38 → k ≠ 39 → k ≠ 18 → k ≠ 25 → k ≠ 29 → k ≠ 32 → k ≠ 33 → k ≠ 34 → k ≠ 35 → J 161 k = J0 161 k) ∧ RST g J K ∧ ((zrun g kd lv sd w).1 = -1 → J 161 39 = (zrun g kd lv sd w).2) := by
  have hg := h.1.gr
  have hn9 := zS_n (b := kb kd) hg
  obtain ⟨J, K, e, f1, f2, f3, w1, hR, hN, h33, hF⟩ := X12_states (u := u) hn h hk
  have hT := RST.rtb (kd := kd) w1 hR hN hF
  have hL := hl.fr (f1 171 (by decide)) (f1 172 (by decide))
  have hS : WSE w nw J := ⟨(f3 17 (by decide) (by decide) (by decide) (by decide) (by decide) (by decide) (by decide)).trans hs.1, fun i hi => by rw [f1 175 (by decide)]; exact hs.2 i hi⟩
  unfold zrun
  by_cases hb : Sb (zS g (kb kd)) = true
  · have e29 : J 161 (mS (kb kd)) = -2 := by
      rcases hR with ⟨-, z⟩ | ⟨z, -⟩
      · exact z
      · rw [hb] at z; exact absurd z (by decide)
    rw [e29] at e
    rw [if_pos hb]
    refine ⟨J, K, ?_, f1.up (fun a z => List.mem_append_left _ z), f2, fun k _ _ a1 a2 a3 a4 a5 a6 a7 => f3 k a1 a2 a3 a4 a5 a6 a7, w1, fun z => absurd z (by decide)⟩
    simp (disch := omega) only [f_X12_runs, ↓dhi_M, ↓dhG_M_0, ↓dhG_M_1, ↓dhG_M_2, ↓dhG_M_3, ↓dhG_M_4, ↓dhG_M_5, ↓dhG_M_6, ↓dhG_M_7, ↓dhG_M_8, ↓dhg_M_9, ↓dhq_M_9, ↓dhG_M_10, ↓dhG_M_11, ↓dhG_M_12, ↓dhg_M_13, ↓dhq_M_13, ↓dhG_M_14, ↓dhg_M_15, ↓dhq_M_15, ↓dhG_M_16, ↓dhg_M_17, ↓dhq_M_17, ↓dhg_M_18, ↓dhq_M_18, ↓dhG_M_19, ↓dhG_M_20, ↓dhG_M_21, ↓dhG_M_22, ↓dhG_M_23, ↓dhG_M_24, ↓dhg_M_25, ↓dhq_M_25, ↓dhG_M_26, ↓dhG_M_27, ↓dhG_M_28, ↓dhg_M_29, ↓dhq_M_29, ↓dhG_M_30, ↓dhG_M_31, ↓dhg_M_32, ↓dhq_M_32, ↓dhg_M_33, ↓dhq_M_33, ↓dhg_M_34, ↓dhq_M_34, ↓dhg_M_35, ↓dhq_M_35, ↓dhG_M_36, ↓dhG_M_37, ↓dhg_M_38, ↓dhq_M_38, ↓dhg_M_39, ↓dhq_M_39, ↓dhG_M_40, ↓dhG_M_41, ↓dhG_M_42, ↓dhG_M_43, ↓dhg_M_44, ↓dhq_M_44, Option.bind_some, ↓nm_eq, ↓sm_inl, ↓sm_inr, ↓dzo_0, ↓dzo_1, ↓drg_ok, ↓if_pos, ↓if_neg, if_pos, if_neg, if_true, if_false, Int.toNat_natCast, rg_ok, ↓bnd e]
  · have hb' : Sb (zS g (kb kd)) = false := by simpa using hb
    have e29 : J 161 (mS (kb kd)) = (Sn (zS g (kb kd)) : Int) := (rtb_row hT hk.1 hb').1
    rw [e29] at e
    rw [if_neg hb]
    have fa : Fr RUL J (gx_u (gx_u J 161 38 0) 187 0 0) := (Fr.rf.wr (by decide)).wr (by decide)
    have ka : RUK J (gx_u (gx_u J 161 38 0) 187 0 0) := fun k a _ => by rw [gu_ne (by decide), gu_at_ne a]
    obtain ⟨J', i1, i2, i3, i4⟩ := X12_runl (u := u) (L := K) hn hT hL hS hsw hk hb' 300 n (gx_u (gx_u J 161 38 0) 187 0 0) (fun _ => 0) (fun _ => 0) 0 0 (by omega) (by omega) fa ka (LI_0 hg) ⟨by rw [gu_ne (by decide), gu_at_eq rfl]; rfl, fun i hi => by
      have : i = 0 := by omega
      subst this
      rw [gu_at_eq rfl]; rfl, fun i h1 hi => by omega⟩ (by omega) (Nat.zero_le _)
    refine ⟨J', K, ?_, (f1.up (fun a z => List.mem_append_left _ z)).tr (i2.up (fun a z => by simp [RUL] at z; simp [RSL]; omega)), f2, fun k b1 b2 a1 a2 a3 a4 a5 a6 a7 => (i3 k b1 b2).trans (f3 k a1 a2 a3 a4 a5 a6 a7), w1.run i2 i3, i4⟩
    rw [← i1]
    simp (disch := omega) only [f_X12_runs, ↓dhi_M, ↓dhG_M_0, ↓dhG_M_1, ↓dhG_M_2, ↓dhG_M_3, ↓dhG_M_4, ↓dhG_M_5, ↓dhG_M_6, ↓dhG_M_7, ↓dhG_M_8, ↓dhg_M_9, ↓dhq_M_9, ↓dhG_M_10, ↓dhG_M_11, ↓dhG_M_12, ↓dhg_M_13, ↓dhq_M_13, ↓dhG_M_14, ↓dhg_M_15, ↓dhq_M_15, ↓dhG_M_16, ↓dhg_M_17, ↓dhq_M_17, ↓dhg_M_18, ↓dhq_M_18, ↓dhG_M_19, ↓dhG_M_20, ↓dhG_M_21, ↓dhG_M_22, ↓dhG_M_23, ↓dhG_M_24, ↓dhg_M_25, ↓dhq_M_25, ↓dhG_M_26, ↓dhG_M_27, ↓dhG_M_28, ↓dhg_M_29, ↓dhq_M_29, ↓dhG_M_30, ↓dhG_M_31, ↓dhg_M_32, ↓dhq_M_32, ↓dhg_M_33, ↓dhq_M_33, ↓dhg_M_34, ↓dhq_M_34, ↓dhg_M_35, ↓dhq_M_35, ↓dhG_M_36, ↓dhG_M_37, ↓dhg_M_38, ↓dhq_M_38, ↓dhg_M_39, ↓dhq_M_39, ↓dhG_M_40, ↓dhG_M_41, ↓dhG_M_42, ↓dhG_M_43, ↓dhg_M_44, ↓dhq_M_44, ↓dha_187, ↓dhs_187, ↓dhl_187, Option.bind_some, ↓nm_eq, ↓sm_inl, ↓sm_inr, ↓dzo_0, ↓dzo_1, ↓drg_ok, ↓if_pos, ↓if_neg, if_pos, if_neg, if_true, if_false, Int.toNat_natCast, rg_ok, ↓bnd e] <;> rfl
end RN_
