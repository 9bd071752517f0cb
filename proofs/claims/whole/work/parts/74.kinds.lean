/-! ===== calls: the four tables ===== -/
noncomputable def zsz (g : GT) (kd : Nat) : Int := if kd = 0 then (zpn g 1 : Int) else if Sb (zS g (kb kd)) = true then -2 else (Sn (zS g (kb kd)) : Int)
noncomputable def zcc (g : GT) (kd : Nat) (lv : Nat → Int) (s : Bool) : Int := if kd = 0 then (if s = true then 0 else (zpn g 2 : Int)) else zcn g kd lv s
noncomputable def zpr (g : GT) (kd : Nat) (lv sd : Nat → Int) (w : Nat → Nat) : Int × Int := if kd = 0 then ((prun g w).1, pval g (prun g w).2) else zrun g kd lv sd w
theorem lrq_ok {g : GT} {kd : Nat} {lv sd : Nat → Int} {w : Nat → Nat} (hw : ∀ i, w i < 9) : ∀ (r : Nat) (st wo : Nat → Nat) (t pl : Nat), (∀ i, wo i < 1009) → -3 ≤ (lrq g kd lv sd w r st wo t pl).1 ∧ (lrq g kd lv sd w r st wo t pl).1 ≤ (pl + r : Nat) ∧ 0 ≤ (lrq g kd lv sd w r st wo t pl).2 ∧ (lrq g kd lv sd w r st wo t pl).2 < 1009 := by
  have hup : ∀ (wo : Nat → Nat) (k x : Nat), (∀ i, wo i < 1009) → x < 1009 → ∀ i, up wo k x i < 1009 := fun wo k x h hx i => by unfold up; split; exact hx; exact h i
  intro r
  induction r with
  | zero =>
    intro st wo t pl h
    have := h t
    unfold lrq
    split
    · exact ⟨by dsimp only; omega, by dsimp only; omega, by dsimp only; omega, by dsimp only; omega⟩
    · split
      · exact ⟨by dsimp only; omega, by dsimp only; omega, by dsimp only; omega, by dsimp only; omega⟩
      · exact ⟨by dsimp only; omega, by dsimp only; omega, by dsimp only; omega, by dsimp only; omega⟩
  | succ r ih =>
    intro st wo t pl h
    have := h t
    unfold lrq
    split
    · exact ⟨by dsimp only; omega, by dsimp only; omega, by dsimp only; omega, by dsimp only; omega⟩
    · split
      · exact ⟨by dsimp only; omega, by dsimp only; omega, by dsimp only; omega, by dsimp only; omega⟩
      · split
        · obtain ⟨a, b, c⟩ := ih (up st (t + 1) (Sm (zS g (kb kd)) (st t) (w pl)).toNat) (up wo (t + 1) (w pl + 1)) (t + 1) (pl + 1) (hup _ _ _ h (by have := hw pl; omega))
          exact ⟨a, by omega, c⟩
        · obtain ⟨a, b, c⟩ := ih (up st (t + 1 - Gl g (zat g kd lv sd (st t) (w pl)).toNat) (Sm (zS g (kb kd)) (st (t - Gl g (zat g kd lv sd (st t) (w pl)).toNat)) (8 + Go g (zat g kd lv sd (st t) (w pl)).toNat)).toNat) (up wo (t + 1 - Gl g (zat g kd lv sd (st t) (w pl)).toNat) (((zat g kd lv sd (st t) (w pl)).toNat + 1 + ws wo (t + 1 - Gl g (zat g kd lv sd (st t) (w pl)).toNat) (Gl g (zat g kd lv sd (st t) (w pl)).toNat)) % 1009)) (t + 1 - Gl g (zat g kd lv sd (st t) (w pl)).toNat) pl (hup _ _ _ h (Nat.mod_lt _ (by decide)))
          exact ⟨a, by omega, c⟩
theorem pq_ok {g : GT} {w : Nat → Nat} : ∀ (r : Nat) (β : List Nat) (es : List (Bool × Nat)) (pl : Nat), (∀ e, e ∈ es → e.1 = false → e.2 < 16) → -3 ≤ (pq g w r β es pl).1 ∧ (pq g w r β es pl).1 ≤ (pl + r : Nat) ∧ ∀ e, e ∈ (pq g w r β es pl).2 → e.1 = false → e.2 < 16 := by
  have hp0 : ∀ β pl, -2 ≤ pst g w β pl ∧ pst g w β pl ≤ (pl : Int) := by
    intro β pl
    cases β with
    | nil => unfold pst; split <;> omega
    | cons s β =>
      unfold pst
      split
      · split <;> omega
      · split <;> omega
  have hp1 : ∀ β pl, (pne g w β pl).1 = false → (pne g w β pl).2 < 16 := by
    intro β pl
    cases β with
    | nil => intro _; exact Nat.lt_of_sub_eq_succ rfl
    | cons s β =>
      have e : pne g w (s :: β) pl = if s < 16 then (false, s) else (true, (zpl g (s - 16) (w pl)).toNat) := rfl
      rw [e]
      split
      · next c => intro _; exact c
      · intro z; exact Bool.noConfusion z
  intro r
  induction r with
  | zero =>
    intro β es pl h
    have := hp0 β pl
    unfold pq
    split
    · exact ⟨by dsimp only; omega, by dsimp only; omega, h⟩
    · exact ⟨by dsimp only; omega, by dsimp only; omega, h⟩
  | succ r ih =>
    intro β es pl h
    have := hp0 β pl
    by_cases c : pst g w β pl = -2
    · rw [pq_s r c]
      have hm : ∀ e, e ∈ pne g w β pl :: es → e.1 = false → e.2 < 16 := fun e he z => by
        rcases List.mem_cons.mp he with q | q
        · subst q; exact hp1 β pl z
        · exact h e q z
      split
      · obtain ⟨a, b, d⟩ := ih (pnb g (pne g w β pl) β) (pne g w β pl :: es) pl hm
        exact ⟨a, by omega, d⟩
      · obtain ⟨a, b, d⟩ := ih (pnb g (pne g w β pl) β) (pne g w β pl :: es) (pl + 1) hm
        exact ⟨a, by omega, d⟩
    · rw [pq_end (r + 1) c]
      exact ⟨by dsimp only; omega, by dsimp only; omega, h⟩
theorem vR_mem : ∀ (m i : Nat) (V : List Nat), ∀ v, v ∈ (vR m i V).2 → v ∈ V
  | 0, _, _, _, h => h
  | m + 1, i, [], v, h => h
  | m + 1, i, x :: V, v, h => List.mem_cons_of_mem _ (vR_mem m (i + 1) V v h)
theorem gR_ok {g : GT} : ∀ (es : List (Bool × Nat)) (V : List Nat), (∀ e, e ∈ es → e.1 = false → e.2 < 16) → (∀ v, v ∈ V → v < 1009) → ∀ v, v ∈ gR g es V → v < 1009
  | [], V, _, h => h
  | e :: es, V, he, h => by
    rw [gR]
    split
    · next c => exact gR_ok es _ (fun x hx => he x (List.mem_cons_of_mem _ hx)) (fun v hv => by
        rcases List.mem_cons.mp hv with q | q
        · rw [q]; exact Nat.mod_lt _ (by decide)
        · exact h v (vR_mem _ _ _ v q))
    · next c => exact gR_ok es _ (fun x hx => he x (List.mem_cons_of_mem _ hx)) (fun v hv => by
        rcases List.mem_cons.mp hv with q | q
        · have := he e (List.mem_cons_self ..) (by cases z : e.1 <;> simp_all); omega
        · exact h v q)
theorem zpr_ok {g : GT} {kd : Nat} {lv sd : Nat → Int} {w : Nat → Nat} {nw : Nat} (h : SW w nw) : -3 ≤ (zpr g kd lv sd w).1 ∧ (zpr g kd lv sd w).1 ≤ 300 ∧ 0 ≤ (zpr g kd lv sd w).2 ∧ (zpr g kd lv sd w).2 < 1009 := by
  unfold zpr
  split
  · obtain ⟨a, b, c⟩ := pq_ok (g := g) (w := w) 300 [16 + Gt g] [] 0 (fun e he => absurd he (by simp))
    have hv : pval g (prun g w).2 = ((((gR g (prun g w).2 []).headD 0 : Nat)) : Int) := rfl
    have hh : (gR g (prun g w).2 []).headD 0 < 1009 := by
      have := gR_ok (g := g) (prun g w).2 [] c (fun v hv => absurd hv (by simp))
      cases q : gR g (prun g w).2 [] with
      | nil => exact Nat.lt_of_sub_eq_succ rfl
      | cons x l => exact this x (by rw [q]; exact List.mem_cons_self ..)
    refine ⟨a, b, ?_, ?_⟩
    · dsimp only; rw [hv]; omega
    · dsimp only; rw [hv]; omega
  · unfold zrun
    split
    · exact ⟨by dsimp only; omega, by dsimp only; omega, by dsimp only; omega, by dsimp only; omega⟩
    · obtain ⟨a, b, c⟩ := lrq_ok (g := g) (kd := kd) (lv := lv) (sd := sd) (w := w) h.le 300 (fun _ => 0) (fun _ => 0) 0 0 (fun _ => by omega)
      exact ⟨a, b, c⟩
theorem zcc_ok {g : GT} {kd : Nat} {lv : Nat → Int} {s : Bool} (hg : GR g) : -2 ≤ zcc g kd lv s ∧ zcc g kd lv s ≤ 1000 := by
  have h1 : zpn g 2 ≤ 144 := cB_le _ _
  unfold zcc
  split
  · split <;> omega
  · unfold zcn
    split
    · omega
    · next c =>
      have h2 := cB_le (zcv g kd lv s) (9 * Sn (zS g (kb kd)))
      have h3 := zS_n (b := kb kd) hg
      omega
theorem zsz_ok {g : GT} {kd : Nat} (hg : GR g) : -2 ≤ zsz g kd ∧ zsz g kd ≤ 1000 := by
  have h1 : zpn g 1 ≤ 144 := cB_le _ _
  have h3 := zS_n (b := kb kd) hg
  unfold zsz
  split
  · omega
  · split
    · omega
    · omega
section KND
variable {u : Nat} {n : Nat} {J L : Nat → Nat → Int} {g : GT} {kd : Nat}
theorem reqK_1 (hk : kd ≤ 3) (h : gi_H) : f_X11_requireKind (kd : Int) h = some (.inl (), h) := by
  simp (disch := omega) only [f_X11_requireKind, Option.bind_some, ↓nm_eq, ↓sm_inl, ↓sm_inr, ↓dzo_0, ↓dzo_1, ↓drg_ok, ↓if_pos, ↓if_neg, if_pos, if_neg, if_true, if_false, Int.toNat_natCast, rg_ok]
theorem reqK_0 {x : Int} (hk : x < 0 ∨ 3 < x) (hx : gi_ok x) (h : gi_H) : f_X11_requireKind x h = some (.inr gx_IOB, h) := by
  obtain ⟨h1, h2⟩ := hx
  by_cases c : x < 0
  · simp (disch := omega) only [f_X11_requireKind, b_X11_requireKind_9, Option.bind_some, ↓nm_eq, ↓sm_inl, ↓sm_inr, ↓dzo_0, ↓dzo_1, ↓drg_ok, ↓if_pos, ↓if_neg, if_pos, if_neg, if_true, if_false, Int.toNat_natCast, rg_ok]
  · simp (disch := omega) only [f_X11_requireKind, b_X11_requireKind_9, Option.bind_some, ↓nm_eq, ↓sm_inl, ↓sm_inr, ↓dzo_0, ↓dzo_1, ↓drg_ok, ↓if_pos, ↓if_neg, if_pos, if_neg, if_true, if_false, Int.toNat_natCast, rg_ok]
theorem isK_1 (hk : kd ≤ 3) (h : gi_H) : f_X12_isKind (kd : Int) h = some 1 := by
  simp (disch := omega) only [f_X12_isKind, Option.bind_some, ↓nm_eq, ↓sm_inl, ↓sm_inr, ↓dzo_0, ↓dzo_1, ↓drg_ok, ↓if_pos, ↓if_neg, if_pos, if_neg, if_true, if_false, Int.toNat_natCast, rg_ok]
theorem isK_0 {x : Int} (hk : x < 0 ∨ 3 < x) (hx : gi_ok x) (h : gi_H) : f_X12_isKind x h = some 0 := by
  obtain ⟨h1, h2⟩ := hx
  by_cases c : x < 0
  · simp (disch := omega) only [f_X12_isKind, b_X12_isKind_13, Option.bind_some, ↓nm_eq, ↓sm_inl, ↓sm_inr, ↓dzo_0, ↓dzo_1, ↓drg_ok, ↓if_pos, ↓if_neg, if_pos, if_neg, if_true, if_false, Int.toNat_natCast, rg_ok]
  · simp (disch := omega) only [f_X12_isKind, b_X12_isKind_13, Option.bind_some, ↓nm_eq, ↓sm_inl, ↓sm_inr, ↓dzo_0, ↓dzo_1, ↓drg_ok, ↓if_pos, ↓if_neg, if_pos, if_neg, if_true, if_false, Int.toNat_natCast, rg_ok]
theorem dsp_0 : (gi_S (hp u J L) 145 = (0, 4)) = True := eq_true (hS 145 rfl (by decide))
theorem dsp_1 (hk : 1 ≤ kd ∧ kd ≤ 3) : (gi_S (hp u J L) (tb kd) = (0, 4)) = False := by
  refine eq_false (fun z => ?_)
  rcases (by omega : kd = 1 ∨ kd = 2 ∨ kd = 3) with q | q | q <;> subst q
  · have e : gi_S (hp u J L) (tb 1) = (0, 8) := hS 148 rfl (by decide)
    rw [e] at z; exact absurd z (by decide)
  · have e : gi_S (hp u J L) (tb 2) = (0, 8) := hS 151 rfl (by decide)
    rw [e] at z; exact absurd z (by decide)
  · have e : gi_S (hp u J L) (tb 3) = (0, 8) := hS 154 rfl (by decide)
    rw [e] at z; exact absurd z (by decide)
theorem CQO.tr {J1 L1 J2 L2 : Nat → Nat → Int} (h : CQO u g J L J1 L1) (h2 : CQO u g J1 L1 J2 L2) : CQO u g J L J2 L2 := ⟨h.1.tr h2.1, h.2.1.tr h2.2.1, h2.2.2⟩
theorem RQO.tr {J1 L1 J2 L2 : Nat → Nat → Int} (h : RQO g J L J1 L1) (h2 : RQO g J1 L1 J2 L2) : RQO g J L J2 L2 := ⟨h.1.tr h2.1, fun k hk => (h2.2.1 k hk).trans (h.2.1 k hk), fun a ha => (h2.2.2.1 a ha).trans (h.2.2.1 a ha), h2.2.2.2⟩
theorem CLV.frq {lv sd : Nat → Int} {J' : Nat → Nat → Int} (h : CLV lv sd J) (e : Fr CLQ J J') : CLV lv sd J' := h.fr (e 61 (by decide)) (e 62 (by decide))
theorem CSE.frq {w : Nat → Nat} {J' : Nat → Nat → Int} (h : CSE w J) (e : Fr CLQ J J') : CSE w J' := by unfold CSE at *; rw [e 63 (by decide)]; exact h
theorem RLV.frq {lv sd : Nat → Int} {J' : Nat → Nat → Int} (h : RLV lv sd J) (e : Fr RLQ J J') : RLV lv sd J' := h.fr (e 171 (by decide)) (e 172 (by decide))
theorem WSE.frq {w : Nat → Nat} {nw : Nat} {J' : Nat → Nat → Int} (h : WSE w nw J) (e : Fr RLQ J J') (e2 : J' 161 17 = J 161 17) : WSE w nw J' := by unfold WSE at *; rw [e 175 (by decide), e2]; exact h
/-- a table of the class -/
theorem c_tab (hn : 1000000000000000000000000000000 ≤ n) (h : CST u g J L) (hk : kd ≤ 3) : ∃ J1 K, f_X11_table n 0 (kd : Int) (hp u J L) = some (tb kd, hp u J1 K) ∧ CQO u g J L J1 K ∧ CTB u g kd J1 K := by
  obtain ⟨J1, K, e, f, fk, q⟩ := X11_table (u := u) hn h hk
  exact ⟨J1, K, e, ⟨f.up (fun a z => by simp [CTL] at z; simp [CLQ]; omega), fk, q.1⟩, q⟩
theorem c_ext (hn : 1000000000000000000000000000000 ≤ n) (q : CTB u g 0 J L) : f_X5_extent n 145 (hp u J L) = some (zpn g 1 : Int) ∧ f_X5_clashes n 145 (hp u J L) = some (zpn g 2 : Int) := by
  have e1 := X5_cellsWith (u := u) hn q (c := 1) (by omega)
  have e2 := X5_cellsWith (u := u) hn q (c := 2) (by omega)
  have e1' : f_X5_cellsWith n 145 1 (hp u J L) = some (zpn g 1 : Int) := e1
  have e2' : f_X5_cellsWith n 145 2 (hp u J L) = some (zpn g 2 : Int) := e2
  refine ⟨?_, ?_⟩
  · simp (disch := omega) only [f_X5_extent, ↓dhi_P, ↓dhg_P_0, ↓dhq_P_0, ↓dhG_P_1, ↓dhG_P_2, ↓dhG_P_3, ↓dhg_P_4, ↓dhq_P_4, ↓dhG_P_5, ↓dhg_P_6, ↓dhq_P_6, Option.bind_some, ↓nm_eq, ↓sm_inl, ↓sm_inr, ↓dzo_0, ↓dzo_1, ↓drg_ok, ↓if_pos, ↓if_neg, if_pos, if_neg, if_true, if_false, Int.toNat_natCast, rg_ok, ↓bnd e1']
  · simp (disch := omega) only [f_X5_clashes, ↓dhi_P, ↓dhg_P_0, ↓dhq_P_0, ↓dhG_P_1, ↓dhG_P_2, ↓dhG_P_3, ↓dhg_P_4, ↓dhq_P_4, ↓dhG_P_5, ↓dhg_P_6, ↓dhq_P_6, Option.bind_some, ↓nm_eq, ↓sm_inl, ↓sm_inr, ↓dzo_0, ↓dzo_1, ↓drg_ok, ↓if_pos, ↓if_neg, if_pos, if_neg, if_true, if_false, Int.toNat_natCast, rg_ok, ↓bnd e2']
theorem c_ext9 (q : CTB u g kd J L) (hk : 1 ≤ kd ∧ kd ≤ 3) : f_X9_extent (tb kd) (hp u J L) = some (zsz g kd) := by
  obtain ⟨hv, hva⟩ := tb_m hk
  have hA : ∀ J, gi_is (hp u J L) (va (kb kd)) 0 = some () := fun J => hi_A (va_m (kb kd))
  have e0 := X0_extent (u := u) q hk.1
  have hz : zsz g kd = if Sb (zS g (kb kd)) = true then -2 else (Sn (zS g (kb kd)) : Int) := if_neg (by omega)
  rw [hz]
  simp (disch := omega) only [f_X9_extent, ↓dhi_S hv, ↓dhg_S_0 hv, ↓dhq_S_0 hv, ↓dhG_S_1 hv, ↓dhg_S_2 hv, ↓dhq_S_2 hv, ↓dhG_S_3 hv, ↓dhG_S_4 hv, ↓dhG_S_5 hv, ↓dhg_S_6 hv, ↓dhq_S_6 hv, ↓dhg_S_7 hv, ↓dhq_S_7 hv, ↓dhg_S_8 hv, ↓dhq_S_8 hv, ↓dhg_S_9 hv, ↓dhq_S_9 hv, ↓dhG_S_10 hv, ↓dhG_S_11 hv, ↓dhg_S_12 hv, ↓dhq_S_12 hv, ↓dha_S_1 hv, ↓dhs_S_1 hv, ↓dhl_S_1 hv, ↓dha_S_2 hv, ↓dhs_S_2 hv, ↓dhl_S_2 hv, Option.bind_some, ↓nm_eq, ↓sm_inl, ↓sm_inr, ↓dzo_0, ↓dzo_1, ↓drg_ok, ↓if_pos, ↓if_neg, if_pos, if_neg, if_true, if_false, Int.toNat_natCast, rg_ok, hva, ↓bnd (hA _), ↓bnd e0]
theorem c_cnt9 (hn : 1000000000000000000000000000000 ≤ n) {lv sd : Nat → Int} (q : CTB u g kd J L) (hl : CLV lv sd J) (hk : 1 ≤ kd ∧ kd ≤ 3) (s : Bool) : ∃ J1, f_X9_cellsInConflict n (tb kd) (b01 s) (hp u J L) = some (zcc g kd lv s, hp u J1 L) ∧ CQO u g J L J1 L ∧ CTB u g kd J1 L := by
  obtain ⟨J1, e, f, e2⟩ := X9_cellsInConflict (u := u) hn q hl hk s
  have hz : zcc g kd lv s = zcn g kd lv s := if_neg (by omega)
  rw [hz]
  have q1 := q.own hk f e2
  refine ⟨J1, e, ⟨f.up (fun a z => ?_), Fr.rf, q1.1⟩, q1⟩
  have := (tb_m hk).1
  simp at z this; simp [CLQ]; omega
theorem r_cnt (hn : 1000000000000000000000000000000 ≤ n) {lv sd : Nat → Int} (h : RST g J L) (hl : RLV lv sd J) (hk : kd ≤ 3) (s : Bool) : ∃ J1 K, f_X12_counts n 161 (kd : Int) (b01 s) (hp u J L) = some (zcc g kd lv s, hp u J1 K) ∧ RQO g J L J1 K ∧ J1 161 44 = J 161 44 := by
  by_cases c : kd = 0
  · subst c
    obtain ⟨J1, K, e, f, fk, q, w1, h33, hF, hE, -⟩ := h.found (u := u) hn
    have hc := X12_cells (u := u) hn hE hF
    refine ⟨J1, K, ?_, ⟨f.up (fun a z => by simp [RSL] at z; simp [RLQ]; omega), fun k hk => q k (by omega) (by omega) (by omega) (by omega) (by omega) (by omega) (by omega), fun a ha => fk a (fun z => by simp [RSL] at z; omega), w1⟩, q 44 (by omega) (by omega) (by omega) (by omega) (by omega) (by omega) (by omega)⟩
    cases s with
    | true =>
      have hz : zcc g 0 lv true = 0 := rfl
      rw [hz, b01_t]
      simp (disch := omega) only [f_X12_counts, ↓dhi_M, ↓dhG_M_0, ↓dhG_M_1, ↓dhG_M_2, ↓dhG_M_3, ↓dhG_M_4, ↓dhG_M_5, ↓dhG_M_6, ↓dhG_M_7, ↓dhG_M_8, ↓dhg_M_9, ↓dhq_M_9, ↓dhG_M_10, ↓dhG_M_11, ↓dhG_M_12, ↓dhg_M_13, ↓dhq_M_13, ↓dhG_M_14, ↓dhg_M_15, ↓dhq_M_15, ↓dhG_M_16, ↓dhg_M_17, ↓dhq_M_17, ↓dhg_M_18, ↓dhq_M_18, ↓dhG_M_19, ↓dhG_M_20, ↓dhG_M_21, ↓dhG_M_22, ↓dhG_M_23, ↓dhG_M_24, ↓dhg_M_25, ↓dhq_M_25, ↓dhG_M_26, ↓dhG_M_27, ↓dhG_M_28, ↓dhg_M_29, ↓dhq_M_29, ↓dhG_M_30, ↓dhG_M_31, ↓dhg_M_32, ↓dhq_M_32, ↓dhg_M_33, ↓dhq_M_33, ↓dhg_M_34, ↓dhq_M_34, ↓dhg_M_35, ↓dhq_M_35, ↓dhG_M_36, ↓dhG_M_37, ↓dhg_M_38, ↓dhq_M_38, ↓dhg_M_39, ↓dhq_M_39, ↓dhG_M_40, ↓dhG_M_41, ↓dhG_M_42, ↓dhG_M_43, ↓dhg_M_44, ↓dhq_M_44, Option.bind_some, ↓nm_eq, ↓sm_inl, ↓sm_inr, ↓dzo_0, ↓dzo_1, ↓drg_ok, ↓if_pos, ↓if_neg, if_pos, if_neg, if_true, if_false, Int.toNat_natCast, rg_ok, ↓bnd e]
      exact hc.2.2
    | false =>
      have hz : zcc g 0 lv false = (zpn g 2 : Int) := rfl
      rw [hz, b01_f]
      simp (disch := omega) only [f_X12_counts, ↓dhi_M, ↓dhG_M_0, ↓dhG_M_1, ↓dhG_M_2, ↓dhG_M_3, ↓dhG_M_4, ↓dhG_M_5, ↓dhG_M_6, ↓dhG_M_7, ↓dhG_M_8, ↓dhg_M_9, ↓dhq_M_9, ↓dhG_M_10, ↓dhG_M_11, ↓dhG_M_12, ↓dhg_M_13, ↓dhq_M_13, ↓dhG_M_14, ↓dhg_M_15, ↓dhq_M_15, ↓dhG_M_16, ↓dhg_M_17, ↓dhq_M_17, ↓dhg_M_18, ↓dhq_M_18, ↓dhG_M_19, ↓dhG_M_20, ↓dhG_M_21, ↓dhG_M_22, ↓dhG_M_23, ↓dhG_M_24, ↓dhg_M_25, ↓dhq_M_25, ↓dhG_M_26, ↓dhG_M_27, ↓dhG_M_28, ↓dhg_M_29, ↓dhq_M_29, ↓dhG_M_30, ↓dhG_M_31, ↓dhg_M_32, ↓dhq_M_32, ↓dhg_M_33, ↓dhq_M_33, ↓dhg_M_34, ↓dhq_M_34, ↓dhg_M_35, ↓dhq_M_35, ↓dhG_M_36, ↓dhG_M_37, ↓dhg_M_38, ↓dhq_M_38, ↓dhg_M_39, ↓dhq_M_39, ↓dhG_M_40, ↓dhG_M_41, ↓dhG_M_42, ↓dhG_M_43, ↓dhg_M_44, ↓dhq_M_44, Option.bind_some, ↓nm_eq, ↓sm_inl, ↓sm_inr, ↓dzo_0, ↓dzo_1, ↓drg_ok, ↓if_pos, ↓if_neg, if_pos, if_neg, if_true, if_false, Int.toNat_natCast, rg_ok, ↓bnd e]
      exact hc.2.1
  · obtain ⟨J1, K, e, f, fk, q, w1⟩ := X12_countsS (u := u) hn h hl (kd := kd) (by omega) s
    have hz : zcc g kd lv s = zcn g kd lv s := if_neg c
    rw [hz]
    exact ⟨J1, K, e, ⟨f.up (fun a z => by simp [RSL] at z; simp [RLQ]; omega), fun k hk => q k (by omega) (by omega) (by omega) (by omega) (by omega) (by omega) (by omega), fun a ha => fk a (fun z => by simp [RSL] at z; omega), w1⟩, q 44 (by omega) (by omega) (by omega) (by omega) (by omega) (by omega) (by omega)⟩
theorem r_parses (hn : 1000000000000000000000000000000 ≤ n) {lv sd : Nat → Int} {w : Nat → Nat} {nw : Nat} (h : RST g J L) (hl : RLV lv sd J) (hs : WSE w nw J) (hsw : SW w nw) (hk : kd ≤ 3) : ∃ J1 K, f_X12_parses n 161 (kd : Int) (hp u J L) = some ((zpr g kd lv sd w).1, hp u J1 K) ∧ RQO g J L J1 K ∧ J1 161 44 = J 161 44 ∧ ((zpr g kd lv sd w).1 = -1 → J1 161 39 = (zpr g kd lv sd w).2) := by
  by_cases c : kd = 0
  · subst c
    obtain ⟨J1, K, e, f, fk, q, w1, hv⟩ := X12_derives (u := u) hn h hs hsw
    refine ⟨J1, K, ?_, ⟨f.up (fun a z => by simp [RSL] at z; simp [RLQ]; omega), fun k hk => q k (by omega) (by omega) (by omega) (by omega) (by omega) (by omega) (by omega) (by omega) (by omega), fun a ha => fk a (fun z => by simp [RSL] at z; omega), w1⟩, q 44 (by omega) (by omega) (by omega) (by omega) (by omega) (by omega) (by omega) (by omega) (by omega), hv⟩
    simp (disch := omega) only [f_X12_parses, ↓dhi_M, ↓dhG_M_0, ↓dhG_M_1, ↓dhG_M_2, ↓dhG_M_3, ↓dhG_M_4, ↓dhG_M_5, ↓dhG_M_6, ↓dhG_M_7, ↓dhG_M_8, ↓dhg_M_9, ↓dhq_M_9, ↓dhG_M_10, ↓dhG_M_11, ↓dhG_M_12, ↓dhg_M_13, ↓dhq_M_13, ↓dhG_M_14, ↓dhg_M_15, ↓dhq_M_15, ↓dhG_M_16, ↓dhg_M_17, ↓dhq_M_17, ↓dhg_M_18, ↓dhq_M_18, ↓dhG_M_19, ↓dhG_M_20, ↓dhG_M_21, ↓dhG_M_22, ↓dhG_M_23, ↓dhG_M_24, ↓dhg_M_25, ↓dhq_M_25, ↓dhG_M_26, ↓dhG_M_27, ↓dhG_M_28, ↓dhg_M_29, ↓dhq_M_29, ↓dhG_M_30, ↓dhG_M_31, ↓dhg_M_32, ↓dhq_M_32, ↓dhg_M_33, ↓dhq_M_33, ↓dhg_M_34, ↓dhq_M_34, ↓dhg_M_35, ↓dhq_M_35, ↓dhG_M_36, ↓dhG_M_37, ↓dhg_M_38, ↓dhq_M_38, ↓dhg_M_39, ↓dhq_M_39, ↓dhG_M_40, ↓dhG_M_41, ↓dhG_M_42, ↓dhG_M_43, ↓dhg_M_44, ↓dhq_M_44, Option.bind_some, ↓nm_eq, ↓sm_inl, ↓sm_inr, ↓dzo_0, ↓dzo_1, ↓drg_ok, ↓if_pos, ↓if_neg, if_pos, if_neg, if_true, if_false, Int.toNat_natCast, rg_ok, ↓bnd e]
    rfl
  · obtain ⟨J1, K, e, f, fk, q, w1, hv⟩ := X12_runs (u := u) hn h hl hs hsw (kd := kd) (by omega)
    have hz : zpr g kd lv sd w = zrun g kd lv sd w := if_neg c
    rw [hz]
    refine ⟨J1, K, ?_, ⟨f.up (fun a z => by simp [RSL] at z; simp [RLQ]; omega), fun k hk => q k (by omega) (by omega) (by omega) (by omega) (by omega) (by omega) (by omega) (by omega) (by omega), fun a ha => fk a (fun z => by simp [RSL] at z; omega), w1⟩, q 44 (by omega) (by omega) (by omega) (by omega) (by omega) (by omega) (by omega) (by omega) (by omega), hv⟩
    simp (disch := omega) only [f_X12_parses, ↓dhi_M, ↓dhG_M_0, ↓dhG_M_1, ↓dhG_M_2, ↓dhG_M_3, ↓dhG_M_4, ↓dhG_M_5, ↓dhG_M_6, ↓dhG_M_7, ↓dhG_M_8, ↓dhg_M_9, ↓dhq_M_9, ↓dhG_M_10, ↓dhG_M_11, ↓dhG_M_12, ↓dhg_M_13, ↓dhq_M_13, ↓dhG_M_14, ↓dhg_M_15, ↓dhq_M_15, ↓dhG_M_16, ↓dhg_M_17, ↓dhq_M_17, ↓dhg_M_18, ↓dhq_M_18, ↓dhG_M_19, ↓dhG_M_20, ↓dhG_M_21, ↓dhG_M_22, ↓dhG_M_23, ↓dhG_M_24, ↓dhg_M_25, ↓dhq_M_25, ↓dhG_M_26, ↓dhG_M_27, ↓dhG_M_28, ↓dhg_M_29, ↓dhq_M_29, ↓dhG_M_30, ↓dhG_M_31, ↓dhg_M_32, ↓dhq_M_32, ↓dhg_M_33, ↓dhq_M_33, ↓dhg_M_34, ↓dhq_M_34, ↓dhg_M_35, ↓dhq_M_35, ↓dhG_M_36, ↓dhG_M_37, ↓dhg_M_38, ↓dhq_M_38, ↓dhg_M_39, ↓dhq_M_39, ↓dhG_M_40, ↓dhG_M_41, ↓dhG_M_42, ↓dhG_M_43, ↓dhg_M_44, ↓dhq_M_44, Option.bind_some, ↓nm_eq, ↓sm_inl, ↓sm_inr, ↓dzo_0, ↓dzo_1, ↓drg_ok, ↓if_pos, ↓if_neg, if_pos, if_neg, if_true, if_false, Int.toNat_natCast, rg_ok, ↓bnd e]
end KND
theorem k_out {u : Nat} {J L : Nat → Nat → Int} (hI : IX u J L) {fL fM : gi_H → Option (Int × gi_H)} (h1 : fL (hp u J L) = some (1, hp u J L)) (h2 : fM (hp u J L) = some (0, hp u (gx_u J 161 44 1) L)) :
    ∃ (k : Int) (u1 : Nat) (J1 L1 : Nat → Nat → Int) (B : Int) (J2 L2 : Nat → Nat → Int), fL (hp u J L) = some (k, hp u1 J1 L1) ∧ fM (hp u1 J1 L1) = some (B, hp u1 J2 L2) ∧ J2 161 44 = k ∧ (k = 0 ∨ k = 1 ∨ k = 2) ∧ gi_ok B ∧ (k = 0 → L2 193 0 = B) ∧ IX u1 J2 L2 := by
  obtain ⟨ps, rs, ps1, rs1, t, lv, sd, w, nw, tp, tq, h⟩ := hI
  exact ⟨1, u, J, L, 0, _, L, h1, h2, gu_same _ _ _ _, by omega, by decide, fun z => absurd z (by decide), ps, rs, ps1, rs1, t, lv, sd, w, nw, tp, tq, h.r (RQO.rf h.2.2.2.2).thr⟩
theorem op_size {n : Nat} {x : Int} (hn : 1000000000000000000000000000000 ≤ n) (hx : gi_ok x) : OPK (fun h => f_L_size n 0 x 193 h) (fun h => f_X12_size n 161 x h) := by
  intro u J L hI
  by_cases c : x < 0 ∨ 3 < x
  · refine k_out hI ?_ ?_
    · simp (disch := omega) only [f_L_size, f_X11_size, ↓bnd (reqK_0 c hx _), ↓dhi_X, ↓dhG_X_0, ↓dhG_X_1, ↓dhG_X_2, ↓dhg_X_3, ↓dhq_X_3, ↓dhG_X_4, ↓dhG_X_5, ↓dhG_X_6, ↓dhg_X_7, ↓dhq_X_7, ↓dhG_X_8, ↓dhG_X_9, ↓dhG_X_10, ↓dhG_X_11, ↓dhG_X_12, ↓dhG_X_13, ↓dhG_X_14, ↓dhG_X_15, ↓dhG_X_16, Option.bind_some, ↓nm_eq, ↓sm_inl, ↓sm_inr, ↓dzo_0, ↓dzo_1, ↓drg_ok, ↓if_pos, ↓if_neg, if_pos, if_neg, if_true, if_false, Int.toNat_natCast, rg_ok, xI1, if_true]
    · simp (disch := omega) only [f_X12_size, ↓dhi_M, ↓dhG_M_0, ↓dhG_M_1, ↓dhG_M_2, ↓dhG_M_3, ↓dhG_M_4, ↓dhG_M_5, ↓dhG_M_6, ↓dhG_M_7, ↓dhG_M_8, ↓dhg_M_9, ↓dhq_M_9, ↓dhG_M_10, ↓dhG_M_11, ↓dhG_M_12, ↓dhg_M_13, ↓dhq_M_13, ↓dhG_M_14, ↓dhg_M_15, ↓dhq_M_15, ↓dhG_M_16, ↓dhg_M_17, ↓dhq_M_17, ↓dhg_M_18, ↓dhq_M_18, ↓dhG_M_19, ↓dhG_M_20, ↓dhG_M_21, ↓dhG_M_22, ↓dhG_M_23, ↓dhG_M_24, ↓dhg_M_25, ↓dhq_M_25, ↓dhG_M_26, ↓dhG_M_27, ↓dhG_M_28, ↓dhg_M_29, ↓dhq_M_29, ↓dhG_M_30, ↓dhG_M_31, ↓dhg_M_32, ↓dhq_M_32, ↓dhg_M_33, ↓dhq_M_33, ↓dhg_M_34, ↓dhq_M_34, ↓dhg_M_35, ↓dhq_M_35, ↓dhG_M_36, ↓dhG_M_37, ↓dhg_M_38, ↓dhq_M_38, ↓dhg_M_39, ↓dhq_M_39, ↓dhG_M_40, ↓dhG_M_41, ↓dhG_M_42, ↓dhG_M_43, ↓dhg_M_44, ↓dhq_M_44, Option.bind_some, ↓nm_eq, ↓sm_inl, ↓sm_inr, ↓dzo_0, ↓dzo_1, ↓drg_ok, ↓if_pos, ↓if_neg, if_pos, if_neg, if_true, if_false, Int.toNat_natCast, rg_ok, ↓bnd (isK_0 c hx _), ↓bnd (goes_1 1 1)]
  · obtain ⟨kd, rfl⟩ : ∃ a : Nat, x = (a : Int) := ⟨x.toNat, by omega⟩
    have hk : kd ≤ 3 := by omega
    obtain ⟨ps, rs, ps1, rs1, t, lv, sd, w, nw, tp, tq, h⟩ := hI
    have hg := h.gr
    have hok := zsz_ok (kd := kd) hg
    obtain ⟨J1, K, e, q1, hT⟩ := c_tab (u := u) hn h.2.2.2.1 hk
    have h1 := h.c q1 (L1 := gx_u K 193 0 (zsz (gtp ps tp) kd)) (fun a ha => gu_ne ha)
    have hR := (RQO.rf h1.2.2.2.2).thr (x := 0)
    have h2 := h1.r hR
    by_cases c0 : kd = 0
    · subst c0
      have he := (c_ext (u := u) hn hT).1
      obtain ⟨J2, K2, e2, f2, fk2, q, w1, h33, hF, hE, -⟩ := h2.2.2.2.2.found (u := u) hn
      have q2 : RQO (gtp ps tp) (gx_u J1 161 44 0) (gx_u K 193 0 (zsz (gtp ps tp) 0)) J2 K2 := ⟨f2.up (fun a z => by simp [RSL] at z; simp [RLQ]; omega), fun k hk => q k (by omega) (by omega) (by omega) (by omega) (by omega) (by omega) (by omega), fun a ha => fk2 a (fun z => by simp [RSL] at z; omega), w1⟩
      have h3 := h2.r q2
      have hc := (X12_cells (u := u) hn hE hF).1
      have h44 : J2 161 44 = gx_u J1 161 44 0 161 44 := q 44 (by omega) (by omega) (by omega) (by omega) (by omega) (by omega) (by omega)
      refine ⟨0, u, J1, gx_u K 193 0 (zsz (gtp ps tp) 0), zsz (gtp ps tp) 0, J2, K2, ?_, ?_, h44.trans (gu_same _ _ _ _), Or.inl rfl, ⟨by omega, by omega⟩, fun _ => ?_, ps, rs, ps1, rs1, t, lv, sd, w, nw, tp, tq, h3⟩
      · have e' : f_X11_table n 0 ((0 : Nat) : Int) (hp u J L) = some (145, hp u J1 K) := e
        have hz : zsz (gtp ps tp) 0 = (zpn (gtp ps tp) 1 : Int) := rfl
        rw [hz] at hok ⊢
        simp (disch := omega) only [f_L_size, f_X11_size, ↓bnd (reqK_1 hk _), ↓dhi_X, ↓dhG_X_0, ↓dhG_X_1, ↓dhG_X_2, ↓dhg_X_3, ↓dhq_X_3, ↓dhG_X_4, ↓dhG_X_5, ↓dhG_X_6, ↓dhg_X_7, ↓dhq_X_7, ↓dhG_X_8, ↓dhG_X_9, ↓dhG_X_10, ↓dhG_X_11, ↓dhG_X_12, ↓dhG_X_13, ↓dhG_X_14, ↓dhG_X_15, ↓dhG_X_16, ↓dhi_P, ↓dhg_P_0, ↓dhq_P_0, ↓dhG_P_1, ↓dhG_P_2, ↓dhG_P_3, ↓dhg_P_4, ↓dhq_P_4, ↓dhG_P_5, ↓dhg_P_6, ↓dhq_P_6, ↓dha_193, ↓dhs_193, ↓dhl_193, Option.bind_some, ↓nm_eq, ↓sm_inl, ↓sm_inr, ↓dzo_0, ↓dzo_1, ↓drg_ok, ↓if_pos, ↓if_neg, if_pos, if_neg, if_true, if_false, Int.toNat_natCast, rg_ok, ↓bnd e', ↓bnd he, dsp_0, if_true] <;> rfl
      · have hz : zsz (gtp ps tp) 0 = (zpn (gtp ps tp) 1 : Int) := rfl
        rw [hz] at e2 ⊢
        simp (disch := omega) only [f_X12_size, ↓dhi_M, ↓dhG_M_0, ↓dhG_M_1, ↓dhG_M_2, ↓dhG_M_3, ↓dhG_M_4, ↓dhG_M_5, ↓dhG_M_6, ↓dhG_M_7, ↓dhG_M_8, ↓dhg_M_9, ↓dhq_M_9, ↓dhG_M_10, ↓dhG_M_11, ↓dhG_M_12, ↓dhg_M_13, ↓dhq_M_13, ↓dhG_M_14, ↓dhg_M_15, ↓dhq_M_15, ↓dhG_M_16, ↓dhg_M_17, ↓dhq_M_17, ↓dhg_M_18, ↓dhq_M_18, ↓dhG_M_19, ↓dhG_M_20, ↓dhG_M_21, ↓dhG_M_22, ↓dhG_M_23, ↓dhG_M_24, ↓dhg_M_25, ↓dhq_M_25, ↓dhG_M_26, ↓dhG_M_27, ↓dhG_M_28, ↓dhg_M_29, ↓dhq_M_29, ↓dhG_M_30, ↓dhG_M_31, ↓dhg_M_32, ↓dhq_M_32, ↓dhg_M_33, ↓dhq_M_33, ↓dhg_M_34, ↓dhq_M_34, ↓dhg_M_35, ↓dhq_M_35, ↓dhG_M_36, ↓dhG_M_37, ↓dhg_M_38, ↓dhq_M_38, ↓dhg_M_39, ↓dhq_M_39, ↓dhG_M_40, ↓dhG_M_41, ↓dhG_M_42, ↓dhG_M_43, ↓dhg_M_44, ↓dhq_M_44, Option.bind_some, ↓nm_eq, ↓sm_inl, ↓sm_inr, ↓dzo_0, ↓dzo_1, ↓drg_ok, ↓if_pos, ↓if_neg, if_pos, if_neg, if_true, if_false, Int.toNat_natCast, rg_ok, ↓bnd e2, ↓bnd (isK_1 hk _), ↓bnd goes_0]
        exact hc
      · rw [q2.2.2.1 193 (by omega), gu_same]
    · have hk1 : 1 ≤ kd ∧ kd ≤ 3 := by omega
      have he := c_ext9 (u := u) hT hk1
      obtain ⟨hv, hva⟩ := tb_m hk1
      obtain ⟨J2, K2, e2, f2, fk2, q2, w2, hR2, -⟩ := X12_states (u := u) hn h2.2.2.2.2 hk1
      have q3 : RQO (gtp ps tp) (gx_u J1 161 44 0) (gx_u K 193 0 (zsz (gtp ps tp) kd)) J2 K2 := ⟨f2.up (fun a z => by simp [RSL] at z; simp [RLQ]; omega), fun k hk => q2 k (by omega) (by omega) (by omega) (by omega) (by omega) (by omega) (by omega), fun a ha => fk2 a (fun z => by simp [RSL] at z; omega), w2⟩
      have h3 := h2.r q3
      have hval : J2 161 (mS (kb kd)) = zsz (gtp ps tp) kd := by
        have hz : zsz (gtp ps tp) kd = if Sb (zS (gtp ps tp) (kb kd)) = true then -2 else (Sn (zS (gtp ps tp) (kb kd)) : Int) := if_neg c0
        rw [hz]
        rcases hR2 with ⟨z1, z⟩ | ⟨z, z2, -⟩
        · have z1' : Sb (zS (gtp ps tp) (kb kd)) = true := z1
          rw [if_pos z1', z]
        · have z' : Sb (zS (gtp ps tp) (kb kd)) = false := z
          rw [z', if_neg (by decide), z2]
      have h44 : J2 161 44 = 0 := (q2 44 (by omega) (by omega) (by omega) (by omega) (by omega) (by omega) (by omega)).trans (gu_same _ _ _ _)
      refine ⟨0, u, J1, gx_u K 193 0 (zsz (gtp ps tp) kd), zsz (gtp ps tp) kd, J2, K2, ?_, ?_, h44, Or.inl rfl, ⟨by omega, by omega⟩, fun _ => ?_, ps, rs, ps1, rs1, t, lv, sd, w, nw, tp, tq, h3⟩
      · simp (disch := omega) only [f_L_size, f_X11_size, ↓bnd (reqK_1 hk _), ↓dhi_X, ↓dhG_X_0, ↓dhG_X_1, ↓dhG_X_2, ↓dhg_X_3, ↓dhq_X_3, ↓dhG_X_4, ↓dhG_X_5, ↓dhG_X_6, ↓dhg_X_7, ↓dhq_X_7, ↓dhG_X_8, ↓dhG_X_9, ↓dhG_X_10, ↓dhG_X_11, ↓dhG_X_12, ↓dhG_X_13, ↓dhG_X_14, ↓dhG_X_15, ↓dhG_X_16, ↓dhi_S hv, ↓dhg_S_0 hv, ↓dhq_S_0 hv, ↓dhG_S_1 hv, ↓dhg_S_2 hv, ↓dhq_S_2 hv, ↓dhG_S_3 hv, ↓dhG_S_4 hv, ↓dhG_S_5 hv, ↓dhg_S_6 hv, ↓dhq_S_6 hv, ↓dhg_S_7 hv, ↓dhq_S_7 hv, ↓dhg_S_8 hv, ↓dhq_S_8 hv, ↓dhg_S_9 hv, ↓dhq_S_9 hv, ↓dhG_S_10 hv, ↓dhG_S_11 hv, ↓dhg_S_12 hv, ↓dhq_S_12 hv, ↓dha_S_1 hv, ↓dhs_S_1 hv, ↓dhl_S_1 hv, ↓dha_S_2 hv, ↓dhs_S_2 hv, ↓dhl_S_2 hv, ↓dha_193, ↓dhs_193, ↓dhl_193, Option.bind_some, ↓nm_eq, ↓sm_inl, ↓sm_inr, ↓dzo_0, ↓dzo_1, ↓drg_ok, ↓if_pos, ↓if_neg, if_pos, if_neg, if_true, if_false, Int.toNat_natCast, rg_ok, ↓bnd e, ↓bnd he, dsp_1 hk1, if_false] <;> rfl
      · rw [hval] at e2
        simp (disch := omega) only [f_X12_size, ↓dhi_M, ↓dhG_M_0, ↓dhG_M_1, ↓dhG_M_2, ↓dhG_M_3, ↓dhG_M_4, ↓dhG_M_5, ↓dhG_M_6, ↓dhG_M_7, ↓dhG_M_8, ↓dhg_M_9, ↓dhq_M_9, ↓dhG_M_10, ↓dhG_M_11, ↓dhG_M_12, ↓dhg_M_13, ↓dhq_M_13, ↓dhG_M_14, ↓dhg_M_15, ↓dhq_M_15, ↓dhG_M_16, ↓dhg_M_17, ↓dhq_M_17, ↓dhg_M_18, ↓dhq_M_18, ↓dhG_M_19, ↓dhG_M_20, ↓dhG_M_21, ↓dhG_M_22, ↓dhG_M_23, ↓dhG_M_24, ↓dhg_M_25, ↓dhq_M_25, ↓dhG_M_26, ↓dhG_M_27, ↓dhG_M_28, ↓dhg_M_29, ↓dhq_M_29, ↓dhG_M_30, ↓dhG_M_31, ↓dhg_M_32, ↓dhq_M_32, ↓dhg_M_33, ↓dhq_M_33, ↓dhg_M_34, ↓dhq_M_34, ↓dhg_M_35, ↓dhq_M_35, ↓dhG_M_36, ↓dhG_M_37, ↓dhg_M_38, ↓dhq_M_38, ↓dhg_M_39, ↓dhq_M_39, ↓dhG_M_40, ↓dhG_M_41, ↓dhG_M_42, ↓dhG_M_43, ↓dhg_M_44, ↓dhq_M_44, Option.bind_some, ↓nm_eq, ↓sm_inl, ↓sm_inr, ↓dzo_0, ↓dzo_1, ↓drg_ok, ↓if_pos, ↓if_neg, if_pos, if_neg, if_true, if_false, Int.toNat_natCast, rg_ok, ↓bnd e2, ↓bnd (isK_1 hk _), ↓bnd goes_0]
      · rw [q3.2.2.1 193 (by omega), gu_same]
