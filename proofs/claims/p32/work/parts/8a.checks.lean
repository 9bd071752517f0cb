/-! ===== the law's checks of nonterminals and of the sentence answer 1 ===== -/
theorem bt_nonneg {x : Int} (hx : gi_ok x) (h : bt x 31 = false) : 0 ≤ x := by
  have e := gI_toInt hx
  have h1 : (gI x).toBitVec.msb = false := by rw [BitVec.msb_eq_getLsbD_last]; exact h
  have h2 : 0 ≤ (gI x).toBitVec.toInt := by
    rw [BitVec.msb_eq_toInt] at h1
    simpa using h1
  rw [← e]
  exact h2
section NM
variable {u : Nat} {n : Nat} {J L : Nat → Nat → Int} {g : GT}
/-- one nonterminal -/
theorem nm_turn (hg : GR g) (hF : cF g J L) (hq : J 64 1 = 1) {a : Nat} (ha : a < 16) (rr : Nat → Int → Int → gi_H → Option (Int × gi_H)) : b_L_names_4 n rr 0 1 (a : Int) (hp u J L) = rr 0 1 ((a + 1 : Nat) : Int) (hp u J L) := by
  have e1 := n_shortest (n := n) (u := u) (L := L) hq ha
  have e2 := n_uses (n := n) (u := u) hF hq ha
  have e3 := n_nullable (n := n) (u := u) (L := L) hq ha
  have e4 := n_first (n := n) (u := u) (L := L) hq ha
  have hl := cF_len hF ha
  have hd := hF.2.2.2.2.2.2.2.1.2
  have hn0 := null_0 (by omega) hd ha
  have hbn : b01 (bt (J 65 (16 + a)) 9) = 1 ↔ zN g a := by
    obtain ⟨z, -, -⟩ := cF_NF hF
    rw [← z]
    cases c : bt (J 65 (16 + a)) 9 with
    | true => rw [b01_t]; exact ⟨fun _ => ⟨ha, c⟩, fun _ => rfl⟩
    | false => rw [b01_f]; exact ⟨fun q => absurd q (by decide), fun q => absurd (q.2.symm.trans c) (by decide)⟩
  have hb01 := b01_rg (bt (J 65 (16 + a)) 9)
  have hc : (J 68 (16 + a) = -1 ∧ cLe J a = 1000) ∨ (J 68 (16 + a) = (cLe J a : Int) ∧ cLe J a ≤ 99) := cLe_of hF.2.2.2.2.2.2.2.1.1 ha
  generalize hU : ((if cLe J a = 1000 then 0 else 1) + (if bt (J 64 2) a = true then 2 else 0) : Int) = U at e2
  have hU1 : 0 ≤ U ∧ U < 4 ∧ (U % 2 = 1 ↔ cLe J a ≠ 1000) := by
    rw [← hU]
    split <;> split <;> omega
  generalize b01 (bt (J 65 (16 + a)) 9) = B at e3 hbn hb01
  generalize hFi : gi_and (J 65 (16 + a)) 255 = Fi at e4
  have ek : (a : Int) + 1 = ((a + 1 : Nat) : Int) := rfl
  rcases hc with ⟨h1, h2⟩ | ⟨h1, h2⟩
  · rw [h1] at e1
    have hB : B = 0 := by
      rcases hb01 with z | z
      · exact z
      · have := hn0.mpr (hbn.mp z)
        omega
    have hU2 : U % 2 = 0 := by omega
    simp (disch := omega) only [b_L_names_4, b_L_names_36, b_L_names_50, b_L_names_62, b_L_names_75, b_L_names_95, b_L_names_156, ↓bnd e1, ↓bnd e2, ↓bnd e3, dg_ok, Option.bind_some, ↓nm_eq, ↓sm_inl, ↓sm_inr, ↓dzo_0, ↓dzo_1, ↓drg_ok, ↓if_pos, ↓if_neg, if_pos, if_neg, if_true, if_false, Int.toNat_natCast, rg_ok, hB, hU2, ek]
  · generalize hlen : cLe J a = len at *
    have hU2 : U % 2 = 1 := by omega
    rw [h1] at e1
    by_cases c0 : len = 0
    · have hB : B = 1 := hbn.mpr (hn0.mp c0)
      subst c0
      simp (disch := omega) only [b_L_names_4, b_L_names_36, b_L_names_50, b_L_names_62, b_L_names_75, b_L_names_95, b_L_names_156, ↓bnd e1, ↓bnd e2, ↓bnd e3, dg_ok, Option.bind_some, ↓nm_eq, ↓sm_inl, ↓sm_inr, ↓dzo_0, ↓dzo_1, ↓drg_ok, ↓if_pos, ↓if_neg, if_pos, if_neg, if_true, if_false, Int.toNat_natCast, rg_ok, hB, hU2, ek] <;> rfl
    · have hB : B = 0 := by
        rcases hb01 with z | z
        · exact z
        · exact absurd (hn0.mpr (hbn.mp z)) c0
      by_cases c1 : 20 < len
      · simp (disch := omega) only [b_L_names_4, b_L_names_36, b_L_names_50, b_L_names_62, b_L_names_75, b_L_names_95, b_L_names_156, ↓bnd e1, ↓bnd e2, ↓bnd e3, dg_ok, Option.bind_some, ↓nm_eq, ↓sm_inl, ↓sm_inr, ↓dzo_0, ↓dzo_1, ↓drg_ok, ↓if_pos, ↓if_neg, if_pos, if_neg, if_true, if_false, Int.toNat_natCast, rg_ok, hB, hU2, ek]
      · obtain ⟨k0, d0, hk0, ⟨v, hv, hd0, hlv, hall⟩, es0⟩ := n_sent1 (n := n) (u := u) hF hq ha (v := 0) (by omega) (by omega)
        obtain ⟨k1, d1, hk1, -, es1⟩ := n_sent1 (n := n) (u := u) hF hq ha (v := len - 1) (by omega) (by omega)
        have es2 := n_sent0 (n := n) (u := u) hF hq ha (v := len) (by omega) (by omega) (by omega)
        have hfl := first_letter hg hv (fun b hb hz => by
          have h9 := hall b hb
          refine (null_0 (by omega) hd hb).mp ?_
          rw [hz] at h9
          split at h9
          · omega
          · split at h9 <;> omega) ha (by omega) (by omega)
        rw [hlv, hlen] at hfl
        have hk0' : k0 = len - 1 := by omega
        rw [hd0, hk0'] at es0
        have hlt : tx v a / 8 ^ (len - 1) < 8 := by
          obtain ⟨_, hF', -⟩ := cF_NF hF
          rw [← hF'] at hfl
          exact hfl.2.1
        rw [Nat.mod_eq_of_lt hlt] at es0
        generalize tx v a / 8 ^ (len - 1) = s at *
        have hb1 : bt (J 65 (16 + a)) s = true := by
          obtain ⟨_, hF', -⟩ := cF_NF hF
          rw [← hF'] at hfl
          exact hfl.2.2
        have hb2 : gi_and (gi_shr Fi (s : Int)) 1 = 1 := by
          rw [bt_has (by omega), ← hFi, bt_and, bt_255, hb1, decide_eq_true hlt]
          rfl
        have hs1 : d1 / 8 ^ k1 % 8 < 8 := Nat.mod_lt _ (by omega)
        generalize d1 / 8 ^ k1 % 8 = s1 at es1 hs1
        have el1 : (len : Int) - 1 = ((len - 1 : Nat) : Int) := by omega
        have es0' : f_L_sentence n 0 (a : Int) 0 (hp u J L) = some ((s : Int), hp u J L) := es0
        simp (disch := omega) only [b_L_names_4, b_L_names_36, b_L_names_50, b_L_names_62, b_L_names_75, b_L_names_95, b_L_names_155, b_L_names_156, ↓bnd e1, ↓bnd e2, ↓bnd e3, ↓bnd e4, ↓bnd es0', ↓bnd es2, el1, ↓bnd es1, dg_ok, Option.bind_some, ↓nm_eq, ↓sm_inl, ↓sm_inr, ↓dzo_0, ↓dzo_1, ↓drg_ok, ↓if_pos, ↓if_neg, if_pos, if_neg, if_true, if_false, Int.toNat_natCast, rg_ok, hB, hU2, hb2, ek]
theorem nm_loop (hg : GR g) (hF : cF g J L) (hq : J 64 1 = 1) : ∀ (m f a : Nat), 16 = a + m → m < f → l_L_names_4 n f 0 1 (a : Int) (hp u J L) = some (1, hp u J L)
  | 0, 0, _, _, h => absurd h (by omega)
  | 0, f + 1, a, h, _ => by
    have ha : a = 16 := by omega
    subst ha
    have e := n_follow (n := n) (u := u) (L := L) hq (a := 0) (by omega)
    have hok : gi_ok (J 66 0) := hF.2.2.2.1.1 0 (by omega)
    have h0 : 0 ≤ J 66 0 := by
      refine bt_nonneg hok ?_
      cases c : bt (J 66 0) 31 with
      | false => rfl
      | true => exact absurd (hF.2.2.2.1.2 0 (by omega) 31 c) (by omega)
    obtain ⟨k1, k2⟩ := hok
    have e' : f_L_follow n 0 0 (hp u J L) = some (J 66 0, hp u J L) := e
    show b_L_names_4 n (l_L_names_4 n f) 0 1 ((16 : Nat) : Int) (hp u J L) = _
    simp (disch := omega) only [b_L_names_4, b_L_names_162, ↓bnd e', Option.bind_some, ↓nm_eq, ↓sm_inl, ↓sm_inr, ↓dzo_0, ↓dzo_1, ↓drg_ok, ↓if_pos, ↓if_neg, if_pos, if_neg, if_true, if_false, Int.toNat_natCast, rg_ok] <;> rfl
  | m + 1, 0, _, _, h => absurd h (by omega)
  | m + 1, f + 1, a, h, hf => by
    show b_L_names_4 n (l_L_names_4 n f) 0 1 (a : Int) (hp u J L) = _
    rw [nm_turn hg hF hq (by omega)]
    exact nm_loop hg hF hq m f (a + 1) (by omega) (by omega)
end NM
section CK
variable {n : Nat} {u : Nat} {ps ps1 : List (Nat × List Nat)} {rs rs1 : List (Nat × List Int)} {t : List Int} {lv sd : Nat → Int} {w : Nat → Nat} {nw tp tq : Nat} {J L : Nat → Nat → Int}
theorem ck_names (hn : 1000000000000000000000000000000 ≤ n) (h : JV u ps rs ps1 rs1 t lv sd w nw tp tq J L) : ∃ J1 K, f_L_names n 0 (hp u J L) = some (1, hp u J1 K) ∧ CQO u (gtp ps tp) J L J1 K := by
  have hg := h.gr
  obtain ⟨J1, K, e, q, hF, hT⟩ := h.2.2.lrn (u := u) hn
  have hq := hT.2.1
  refine ⟨J1, K, ?_, q⟩
  have hl := cF_len hF (show 0 < 16 by omega)
  have hl : J1 68 16 = -1 ∨ (0 ≤ J1 68 16 ∧ J1 68 16 ≤ 99) := hl
  have e1 : f_L_shortest n 0 0 (hp u J L) = some (J1 68 (16 + 0), hp u J1 K) := by
    have el := X3_least (u := u) (L := K) (J := J1) (show 0 < 16 by omega)
    have hr := reqN_1 (show 0 < 16 by omega) (hp u J L)
    have el' : f_X3_least 64 0 (hp u J1 K) = some (J1 68 (16 + 0)) := el
    have hr' : f_X11_requireNonterminal 0 (hp u J L) = some (.inl (), hp u J L) := hr
    simp (disch := omega) only [f_L_shortest, f_X11_shortest, ↓bnd hr', ↓dhi_X, ↓dhG_X_0, ↓dhG_X_1, ↓dhG_X_2, ↓dhg_X_3, ↓dhq_X_3, ↓dhG_X_4, ↓dhG_X_5, ↓dhG_X_6, ↓dhg_X_7, ↓dhq_X_7, ↓dhG_X_8, ↓dhG_X_9, ↓dhG_X_10, ↓dhG_X_11, ↓dhG_X_12, ↓dhG_X_13, ↓dhG_X_14, ↓dhG_X_15, ↓dhG_X_16, ↓dhi_F, ↓dhG_F_0, ↓dhg_F_1, ↓dhq_F_1, ↓dhg_F_2, ↓dhq_F_2, ↓dhg_F_3, ↓dhq_F_3, ↓dhg_F_4, ↓dhq_F_4, ↓dhG_F_5, ↓dhG_F_6, ↓dhG_F_7, ↓dhG_F_8, ↓dhG_F_9, ↓dhg_F_10, ↓dhq_F_10, ↓dhG_F_11, ↓dhG_F_12, ↓dhG_F_13, Option.bind_some, ↓nm_eq, ↓sm_inl, ↓sm_inr, ↓dzo_0, ↓dzo_1, ↓drg_ok, ↓if_pos, ↓if_neg, if_pos, if_neg, if_true, if_false, Int.toNat_natCast, rg_ok, ↓bnd e, ↓bnd el']
  have e2 : f_L_shortest n 0 0 (hp u J1 K) = some (J1 68 (16 + 0), hp u J1 K) := n_shortest (n := n) (u := u) (L := K) hq (show 0 < 16 by omega)
  have key : ∀ rr, b_L_names_4 n rr 0 1 0 (hp u J L) = b_L_names_4 n rr 0 1 0 (hp u J1 K) := by
    intro rr
    simp (disch := omega) only [b_L_names_4, ↓bnd e1, ↓bnd e2, Option.bind_some, ↓nm_eq, ↓sm_inl, ↓sm_inr, ↓dzo_0, ↓dzo_1, ↓drg_ok, ↓if_pos, ↓if_neg, if_pos, if_neg, if_true, if_false, Int.toNat_natCast, rg_ok]
  have hloop := nm_loop (n := n) (u := u) hg hF hq 16 17 0 (by omega) (by omega)
  have h2 : b_L_names_4 n (l_L_names_4 n 16) 0 1 0 (hp u J1 K) = some (1, hp u J1 K) := hloop
  show b_L_names_4 n (l_L_names_4 n 16) 0 1 0 (hp u J L) = _
  rw [key]
  exact h2
/-- one kind of tables parses -/
theorem pa_turn (hn : 1000000000000000000000000000000 ≤ n) (h : JV u ps rs ps1 rs1 t lv sd w nw tp tq J L) {r T : Int} (hr : isRd (gtp ps tp) w nw r) (hr1 : 0 ≤ r ∧ r ≤ 100) (hT : T = -1 ∨ (0 ≤ T ∧ T < 1009 ∧ r = 1 ∧ ∀ kd, (zpr (gtp ps tp) kd lv sd w).1 = -1 → (zpr (gtp ps tp) kd lv sd w).2 = T)) {kd : Nat} (hk : kd ≤ 3) (rr : Nat → Int → Int → Int → Int → Int → gi_H → Option (Int × gi_H)) :
    ∃ (T' : Int) (J1 K : Nat → Nat → Int), b_L_parses_65 n rr 0 (nw : Int) r 1 T (kd : Int) (hp u J L) = rr 0 (nw : Int) r 1 T' ((kd + 1 : Nat) : Int) (hp u J1 K) ∧ CQO u (gtp ps tp) J L J1 K ∧ (T' = -1 ∨ (0 ≤ T' ∧ T' < 1009 ∧ r = 1 ∧ ∀ kd, (zpr (gtp ps tp) kd lv sd w).1 = -1 → (zpr (gtp ps tp) kd lv sd w).2 = T')) := by
  have hg := h.gr
  have hsw := h.sw
  have hnw := hsw.1
  obtain ⟨J1, K1, e1, q1⟩ := k_parse (kd := kd) hn h hk
  have h1 := (h.c q1).1
  obtain ⟨J2, K2, e2, q2⟩ := k_value (kd := kd) hn h1 hk
  have hok := zpr_ok (g := gtp ps tp) (kd := kd) (lv := lv) (sd := sd) hsw
  have hle := zpr_le (g := gtp ps tp) (kd := kd) (lv := lv) (sd := sd) hg hsw
  have hrd := fun z => zpr_read (g := gtp ps tp) (kd := kd) (lv := lv) (sd := sd) hg hsw hr z
  have hone := fun (kd' : Nat) (z1 : r = 1) (z : (zpr (gtp ps tp) kd lv sd w).1 = -1) (z' : (zpr (gtp ps tp) kd' lv sd w).1 = -1) => zpr_one (g := gtp ps tp) (kd := kd) (lv := lv) (sd := sd) hg hsw (z1 ▸ hr) z z'
  have hTk : T = -1 ∨ (0 ≤ T ∧ T < 1009 ∧ r = 1 ∧ ((zpr (gtp ps tp) kd lv sd w).1 = -1 → (zpr (gtp ps tp) kd lv sd w).2 = T)) := hT.elim Or.inl (fun z => Or.inr ⟨z.1, z.2.1, z.2.2.1, z.2.2.2 kd⟩)
  generalize hP : (zpr (gtp ps tp) kd lv sd w).1 = P at *
  generalize hV : (zpr (gtp ps tp) kd lv sd w).2 = V at *
  have ek : (kd : Int) + 1 = ((kd + 1 : Nat) : Int) := rfl
  by_cases c : P = -1
  · obtain ⟨r1, v1, v2⟩ := hrd c
    rw [if_pos c] at e2
    by_cases c2 : r = 1
    · refine ⟨V, J2, K2, ?_, q1.tr q2, Or.inr ⟨v1, v2, c2, fun kd' z => (hone kd' c2 c z).symm⟩⟩
      rcases hTk with z | ⟨z1, z2, -, z4⟩
      · simp (disch := omega) only [b_L_parses_65, b_L_parses_116, b_L_parses_126, b_L_parses_147, b_L_parses_152, b_L_parses_182, b_L_parses_187, b_L_parses_207, ↓bnd e1, ↓bnd e2, Option.bind_some, ↓nm_eq, ↓sm_inl, ↓sm_inr, ↓dzo_0, ↓dzo_1, ↓drg_ok, ↓if_pos, ↓if_neg, if_pos, if_neg, if_true, if_false, Int.toNat_natCast, rg_ok, ek]
      · have z5 := z4 c
        simp (disch := omega) only [b_L_parses_65, b_L_parses_116, b_L_parses_126, b_L_parses_147, b_L_parses_152, b_L_parses_182, b_L_parses_187, b_L_parses_207, ↓bnd e1, ↓bnd e2, Option.bind_some, ↓nm_eq, ↓sm_inl, ↓sm_inr, ↓dzo_0, ↓dzo_1, ↓drg_ok, ↓if_pos, ↓if_neg, if_pos, if_neg, if_true, if_false, Int.toNat_natCast, rg_ok, ek]
    · refine ⟨T, J2, K2, ?_, q1.tr q2, hT⟩
      have hTr : -1 ≤ T ∧ T < 1009 := by omega
      simp (disch := omega) only [b_L_parses_65, b_L_parses_116, b_L_parses_126, b_L_parses_147, b_L_parses_152, b_L_parses_182, b_L_parses_187, b_L_parses_205, b_L_parses_207, ↓bnd e1, ↓bnd e2, Option.bind_some, ↓nm_eq, ↓sm_inl, ↓sm_inr, ↓dzo_0, ↓dzo_1, ↓drg_ok, ↓if_pos, ↓if_neg, if_pos, if_neg, if_true, if_false, Int.toNat_natCast, rg_ok, ek]
  · rw [if_neg c] at e2
    refine ⟨T, J2, K2, ?_, q1.tr q2, hT⟩
    have hTr : -1 ≤ T ∧ T < 1009 := by omega
    simp (disch := omega) only [b_L_parses_65, b_L_parses_116, b_L_parses_126, b_L_parses_147, b_L_parses_152, b_L_parses_182, b_L_parses_187, b_L_parses_205, b_L_parses_207, ↓bnd e1, ↓bnd e2, Option.bind_some, ↓nm_eq, ↓sm_inl, ↓sm_inr, ↓dzo_0, ↓dzo_1, ↓drg_ok, ↓if_pos, ↓if_neg, if_pos, if_neg, if_true, if_false, Int.toNat_natCast, rg_ok, ek]
theorem pa_loop (hn : 1000000000000000000000000000000 ≤ n) {r : Int} (hr : isRd (gtp ps tp) w nw r) (hr1 : 0 ≤ r ∧ r ≤ 100) : ∀ (m f kd : Nat) (J L : Nat → Nat → Int) (T : Int), kd + m = 4 → m < f → JV u ps rs ps1 rs1 t lv sd w nw tp tq J L → (T = -1 ∨ (0 ≤ T ∧ T < 1009 ∧ r = 1 ∧ ∀ kd, (zpr (gtp ps tp) kd lv sd w).1 = -1 → (zpr (gtp ps tp) kd lv sd w).2 = T)) → ∃ J1 K, l_L_parses_65 n f 0 (nw : Int) r 1 T (kd : Int) (hp u J L) = some (1, hp u J1 K) ∧ CQO u (gtp ps tp) J L J1 K
  | 0, 0, _, _, _, _, _, h, _, _ => absurd h (by omega)
  | 0, f + 1, kd, J, L, T, h4, _, h, hT => by
    have hk : kd = 4 := by omega
    subst hk
    refine ⟨J, L, ?_, CQO.rf h.2.2⟩
    show b_L_parses_65 n (l_L_parses_65 n f) 0 (nw : Int) r 1 T ((4 : Nat) : Int) (hp u J L) = _
    simp (disch := omega) only [b_L_parses_65, Option.bind_some, ↓nm_eq, ↓sm_inl, ↓sm_inr, ↓dzo_0, ↓dzo_1, ↓drg_ok, ↓if_pos, ↓if_neg, if_pos, if_neg, if_true, if_false, Int.toNat_natCast, rg_ok]
  | m + 1, 0, _, _, _, _, _, h, _, _ => absurd h (by omega)
  | m + 1, f + 1, kd, J, L, T, h4, hf, h, hT => by
    obtain ⟨T', J1, K1, e1, q1, hT'⟩ := pa_turn hn h hr hr1 hT (kd := kd) (by omega) (l_L_parses_65 n f)
    obtain ⟨J2, K2, e2, q2⟩ := pa_loop hn hr hr1 m f (kd + 1) J1 K1 T' (by omega) (by omega) (h.c q1).1 hT'
    exact ⟨J2, K2, e1.trans e2, q1.tr q2⟩
theorem ck_parses (hn : 1000000000000000000000000000000 ≤ n) (h : JV u ps rs ps1 rs1 t lv sd w nw tp tq J L) : ∃ J1 K, f_L_parses n 0 (nw : Int) (hp u J L) = some (1, hp u J1 K) ∧ CQO u (gtp ps tp) J L J1 K := by
  obtain ⟨r, J1, K1, e1, q1, hr⟩ := k_readings hn h
  have h1 := (h.c q1).1
  obtain ⟨x, J2, K2, e2, q2, hx⟩ := k_repair hn h1
  have h2 := (h1.c q2).1
  obtain ⟨a1, a2, a3⟩ := rd_rp h.gr h.sw.1 hr hx
  obtain ⟨J3, K3, e3, q3⟩ := pa_loop hn hr a1 4 5 0 J2 K2 (-1) (by omega) (by omega) h2 (Or.inl rfl)
  refine ⟨J3, K3, ?_, (q1.tr q2).tr q3⟩
  have e3' : l_L_parses_65 n 5 0 (nw : Int) r 1 (-1) 0 (hp u J2 K2) = some (1, hp u J3 K3) := e3
  by_cases c : 0 < r
  · have hx0 := a3.mp c
    simp (disch := omega) only [f_L_parses, b_L_parses_29, b_L_parses_38, b_L_parses_57, ↓dhi_X, ↓dhG_X_0, ↓dhG_X_1, ↓dhG_X_2, ↓dhg_X_3, ↓dhq_X_3, ↓dhG_X_4, ↓dhG_X_5, ↓dhG_X_6, ↓dhg_X_7, ↓dhq_X_7, ↓dhG_X_8, ↓dhG_X_9, ↓dhG_X_10, ↓dhG_X_11, ↓dhG_X_12, ↓dhG_X_13, ↓dhG_X_14, ↓dhG_X_15, ↓dhG_X_16, Option.bind_some, ↓nm_eq, ↓sm_inl, ↓sm_inr, ↓dzo_0, ↓dzo_1, ↓drg_ok, ↓if_pos, ↓if_neg, if_pos, if_neg, if_true, if_false, Int.toNat_natCast, rg_ok, ↓bnd e1, ↓bnd e2]
    exact e3'
  · have hx0 : x ≠ 0 := fun z => c (a3.mpr z)
    simp (disch := omega) only [f_L_parses, b_L_parses_29, b_L_parses_38, b_L_parses_57, ↓dhi_X, ↓dhG_X_0, ↓dhG_X_1, ↓dhG_X_2, ↓dhg_X_3, ↓dhq_X_3, ↓dhG_X_4, ↓dhG_X_5, ↓dhG_X_6, ↓dhg_X_7, ↓dhq_X_7, ↓dhG_X_8, ↓dhG_X_9, ↓dhG_X_10, ↓dhG_X_11, ↓dhG_X_12, ↓dhG_X_13, ↓dhG_X_14, ↓dhG_X_15, ↓dhG_X_16, Option.bind_some, ↓nm_eq, ↓sm_inl, ↓sm_inr, ↓dzo_0, ↓dzo_1, ↓drg_ok, ↓if_pos, ↓if_neg, if_pos, if_neg, if_true, if_false, Int.toNat_natCast, rg_ok, ↓bnd e1, ↓bnd e2]
    exact e3'
end CK
