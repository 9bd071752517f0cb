/-! ===== calls: the four tables ===== -/
noncomputable def zsz (g : GT) (kd : Nat) : Int := if kd = 0 then (zpn g 1 : Int) else if Sb (zS g (kb kd)) = true then -2 else (Sn (zS g (kb kd)) : Int)
noncomputable def zcc (g : GT) (kd : Nat) (lv : Nat → Int) (s : Bool) : Int := if kd = 0 then (if s = true then 0 else (zpn g 2 : Int)) else zcn g kd lv s
noncomputable def zpr (g : GT) (kd : Nat) (lv sd : Nat → Int) (w : Nat → Nat) : Int × Int := if kd = 0 then ((prun g w).1, pval g (prun g w).2) else zrun g kd lv sd w
theorem lrq_ok {g : GT} {kd : Nat} {lv sd : Nat → Int} {w : Nat → Nat} (hw : ∀ i, w i < 9) : ∀ (r : Nat) (st wo : Nat → Nat) (t pl : Nat), (∀ i, wo i < 1009) → -3 ≤ (lrq g kd lv sd w r st wo t pl).1 ∧ (lrq g kd lv sd w r st wo t pl).1 ≤ (pl + r : Nat) ∧ 0 ≤ (lrq g kd lv sd w r st wo t pl).2 ∧ (lrq g kd lv sd w r st wo t pl).2 < 1009 := by
  have hup : ∀ (wo : Nat → Nat) (k x : Nat), (∀ i, wo i < 1009) → x < 1009 → ∀ i, up wo k x i < 1009 := fun wo k x h hx i => by unfold up; split; exact hx; exact h i
  intro r
  induction r with
  | zero =>
    intro st wo t pl h
    have := h t
    unfold lrq
    split
    · exact ⟨by dsimp only; omega, by dsimp only; omega, by dsimp only; omega, by dsimp only; omega⟩
    · split
      · exact ⟨by dsimp only; omega, by dsimp only; omega, by dsimp only; omega, by dsimp only; omega⟩
      · exact ⟨by dsimp only; omega, by dsimp only; omega, by dsimp only; omega, by dsimp only; omega⟩
  | succ r ih =>
    intro st wo t pl h
    have := h t
    unfold lrq
    split
    · exact ⟨by dsimp only; omega, by dsimp only; omega, by dsimp only; omega, by dsimp only; omega⟩
    · split
      · exact ⟨by dsimp only; omega, by dsimp only; omega, by dsimp only; omega, by dsimp only; omega⟩
      · split
        · obtain ⟨a, b, c⟩ := ih (up st (t + 1) (Sm (zS g (kb kd)) (st t) (w pl)).toNat) (up wo (t + 1) (w pl + 1)) (t + 1) (pl + 1) (hup _ _ _ h (by have := hw pl; omega))
          exact ⟨a, by omega, c⟩
        · obtain ⟨a, b, c⟩ := ih (up st (t + 1 - Gl g (zat g kd lv sd (st t) (w pl)).toNat) (Sm (zS g (kb kd)) (st (t - Gl g (zat g kd lv sd (st t) (w pl)).toNat)) (8 + Go g (zat g kd lv sd (st t) (w pl)).toNat)).toNat) (up wo (t + 1 - Gl g (zat g kd lv sd (st t) (w pl)).toNat) (((zat g kd lv sd (st t) (w pl)).toNat + 1 + ws wo (t + 1 - Gl g (zat g kd lv sd (st t) (w pl)).toNat) (Gl g (zat g kd lv sd (st t) (w pl)).toNat)) % 1009)) (t + 1 - Gl g (zat g kd lv sd (st t) (w pl)).toNat) pl (hup _ _ _ h (Nat.mod_lt _ (by decide)))
          exact ⟨a, by omega, c⟩
theorem pq_ok {g : GT} {w : Nat → Nat} : ∀ (r : Nat) (β : List Nat) (es : List (Bool × Nat)) (pl : Nat), (∀ e, e ∈ es → e.1 = false → e.2 < 16) → -3 ≤ (pq g w r β es pl).1 ∧ (pq g w r β es pl).1 ≤ (pl + r : Nat) ∧ ∀ e, e ∈ (pq g w r β es pl).2 → e.1 = false → e.2 < 16 := by
  have hp0 : ∀ β pl, -2 ≤ pst g w β pl ∧ pst g w β pl ≤ (pl : Int) := by
    intro β pl
    cases β with
    | nil => unfold pst; split <;> omega
    | cons s β =>
      unfold pst
      split
      · split <;> omega
      · split <;> omega
  have hp1 : ∀ β pl, (pne g w β pl).1 = false → (pne g w β pl).2 < 16 := by
    intro β pl
    cases β with
    | nil => intro _; exact Nat.lt_of_sub_eq_succ rfl
    | cons s β =>
      have e : pne g w (s :: β) pl = if s < 16 then (false, s) else (true, (zpl g (s - 16) (w pl)).toNat) := rfl
      rw [e]
      split
      · next c => intro _; exact c
      · intro z; exact Bool.noConfusion z
  intro r
  induction r with
  | zero =>
    intro β es pl h
    have := hp0 β pl
    unfold pq
    split
    · exact ⟨by dsimp only; omega, by dsimp only; omega, h⟩
    · exact ⟨by dsimp only; omega, by dsimp only; omega, h⟩
  | succ r ih =>
    intro β es pl h
    have := hp0 β pl
    by_cases c : pst g w β pl = -2
    · rw [pq_s r c]
      have hm : ∀ e, e ∈ pne g w β pl :: es → e.1 = false → e.2 < 16 := fun e he z => by
        rcases List.mem_cons.mp he with q | q
        · subst q; exact hp1 β pl z
        · exact h e q z
      split
      · obtain ⟨a, b, d⟩ := ih (pnb g (pne g w β pl) β) (pne g w β pl :: es) pl hm
        exact ⟨a, by omega, d⟩
      · obtain ⟨a, b, d⟩ := ih (pnb g (pne g w β pl) β) (pne g w β pl :: es) (pl + 1) hm
        exact ⟨a, by omega, d⟩
    · rw [pq_end (r + 1) c]
      exact ⟨by dsimp only; omega, by dsimp only; omega, h⟩
theorem vR_mem : ∀ (m i : Nat) (V : List Nat), ∀ v, v ∈ (vR m i V).2 → v ∈ V
  | 0, _, _, _, h => h
  | m + 1, i, [], v, h => h
  | m + 1, i, x :: V, v, h => List.mem_cons_of_mem _ (vR_mem m (i + 1) V v h)
theorem gR_ok {g : GT} : ∀ (es : List (Bool × Nat)) (V : List Nat), (∀ e, e ∈ es → e.1 = false → e.2 < 16) → (∀ v, v ∈ V → v < 1009) → ∀ v, v ∈ gR g es V → v < 1009
  | [], V, _, h => h
  | e :: es, V, he, h => by
    rw [gR]
    split
    · next c => exact gR_ok es _ (fun x hx => he x (List.mem_cons_of_mem _ hx)) (fun v hv => by
        rcases List.mem_cons.mp hv with q | q
        · rw [q]; exact Nat.mod_lt _ (by decide)
        · exact h v (vR_mem _ _ _ v q))
    · next c => exact gR_ok es _ (fun x hx => he x (List.mem_cons_of_mem _ hx)) (fun v hv => by
        rcases List.mem_cons.mp hv with q | q
        · have := he e (List.mem_cons_self ..) (by cases z : e.1 <;> simp_all); omega
        · exact h v q)
theorem zpr_ok {g : GT} {kd : Nat} {lv sd : Nat → Int} {w : Nat → Nat} {nw : Nat} (h : SW w nw) : -3 ≤ (zpr g kd lv sd w).1 ∧ (zpr g kd lv sd w).1 ≤ 300 ∧ 0 ≤ (zpr g kd lv sd w).2 ∧ (zpr g kd lv sd w).2 < 1009 := by
  unfold zpr
  split
  · obtain ⟨a, b, c⟩ := pq_ok (g := g) (w := w) 300 [16 + Gt g] [] 0 (fun e he => absurd he (by simp))
    have hv : pval g (prun g w).2 = ((((gR g (prun g w).2 []).headD 0 : Nat)) : Int) := rfl
    have hh : (gR g (prun g w).2 []).headD 0 < 1009 := by
      have := gR_ok (g := g) (prun g w).2 [] c (fun v hv => absurd hv (by simp))
      cases q : gR g (prun g w).2 [] with
      | nil => exact Nat.lt_of_sub_eq_succ rfl
      | cons x l => exact this x (by rw [q]; exact List.mem_cons_self ..)
    refine ⟨a, b, ?_, ?_⟩
    · dsimp only; rw [hv]; omega
    · dsimp only; rw [hv]; omega
  · unfold zrun
    split
    · exact ⟨by dsimp only; omega, by dsimp only; omega, by dsimp only; omega, by dsimp only; omega⟩
    · obtain ⟨a, b, c⟩ := lrq_ok (g := g) (kd := kd) (lv := lv) (sd := sd) (w := w) h.le 300 (fun _ => 0) (fun _ => 0) 0 0 (fun _ => by omega)
      exact ⟨a, b, c⟩
theorem zcc_ok {g : GT} {kd : Nat} {lv : Nat → Int} {s : Bool} (hg : GR g) : -2 ≤ zcc g kd lv s ∧ zcc g kd lv s ≤ 1000 := by
  have h1 : zpn g 2 ≤ 144 := cB_le _ _
  unfold zcc
  split
  · split <;> omega
  · unfold zcn
    split
    · omega
    · next c =>
      have h2 := cB_le (zcv g kd lv s) (9 * Sn (zS g (kb kd)))
      have h3 := zS_n (b := kb kd) hg
      omega
theorem zsz_ok {g : GT} {kd : Nat} (hg : GR g) : -2 ≤ zsz g kd ∧ zsz g kd ≤ 1000 := by
  have h1 : zpn g 1 ≤ 144 := cB_le _ _
  have h3 := zS_n (b := kb kd) hg
  unfold zsz
  split
  · omega
  · split
    · omega
    · omega
section KND
variable {u : Nat} {n : Nat} {J L : Nat → Nat → Int} {g : GT} {kd : Nat}
theorem reqK_1 (hk : kd ≤ 3) (h : gi_H) : f_X11_requireKind (kd : Int) h = some (.inl (), h) := by
  simp (disch := omega) only [f_X11_requireKind, Option.bind_some, ↓nm_eq, ↓sm_inl, ↓sm_inr, ↓dzo_0, ↓dzo_1, ↓drg_ok, ↓if_pos, ↓if_neg, if_pos, if_neg, if_true, if_false, Int.toNat_natCast, rg_ok]
theorem reqK_0 {x : Int} (hk : x < 0 ∨ 3 < x) (hx : gi_ok x) (h : gi_H) : f_X11_requireKind x h = some (.inr gx_IOB, h) := by
  obtain ⟨h1, h2⟩ := hx
  by_cases c : x < 0
  · simp (disch := omega) only [f_X11_requireKind, b_X11_requireKind_9, Option.bind_some, ↓nm_eq, ↓sm_inl, ↓sm_inr, ↓dzo_0, ↓dzo_1, ↓drg_ok, ↓if_pos, ↓if_neg, if_pos, if_neg, if_true, if_false, Int.toNat_natCast, rg_ok]
  · simp (disch := omega) only [f_X11_requireKind, b_X11_requireKind_9, Option.bind_some, ↓nm_eq, ↓sm_inl, ↓sm_inr, ↓dzo_0, ↓dzo_1, ↓drg_ok, ↓if_pos, ↓if_neg, if_pos, if_neg, if_true, if_false, Int.toNat_natCast, rg_ok]
theorem dsp_0 : (gi_S (hp u J L) 145 = (0, 4)) = True := eq_true (hS 145 rfl (by decide))
theorem dsp_1 (hk : 1 ≤ kd ∧ kd ≤ 3) : (gi_S (hp u J L) (tb kd) = (0, 4)) = False := by
  refine eq_false (fun z => ?_)
  rcases (by omega : kd = 1 ∨ kd = 2 ∨ kd = 3) with q | q | q <;> subst q
  · have e : gi_S (hp u J L) (tb 1) = (0, 8) := hS 148 rfl (by decide)
    rw [e] at z; exact absurd z (by decide)
  · have e : gi_S (hp u J L) (tb 2) = (0, 8) := hS 151 rfl (by decide)
    rw [e] at z; exact absurd z (by decide)
  · have e : gi_S (hp u J L) (tb 3) = (0, 8) := hS 154 rfl (by decide)
    rw [e] at z; exact absurd z (by decide)
theorem CQO.tr {J1 L1 J2 L2 : Nat → Nat → Int} (h : CQO u g J L J1 L1) (h2 : CQO u g J1 L1 J2 L2) : CQO u g J L J2 L2 := ⟨h.1.tr h2.1, h.2.1.tr h2.2.1, h2.2.2⟩
theorem CLV.frq {lv sd : Nat → Int} {J' : Nat → Nat → Int} (h : CLV lv sd J) (e : Fr CLQ J J') : CLV lv sd J' := h.fr (e 61 (by decide)) (e 62 (by decide))
theorem CSE.frq {w : Nat → Nat} {J' : Nat → Nat → Int} (h : CSE w J) (e : Fr CLQ J J') : CSE w J' := by unfold CSE at *; rw [e 63 (by decide)]; exact h
/-- a table of the class -/
theorem c_tab (hn : 1000000000000000000000000000000 ≤ n) (h : CST u g J L) (hk : kd ≤ 3) : ∃ J1 K, f_X11_table n 0 (kd : Int) (hp u J L) = some (tb kd, hp u J1 K) ∧ CQO u g J L J1 K ∧ CTB u g kd J1 K := by
  obtain ⟨J1, K, e, f, fk, q⟩ := X11_table (u := u) hn h hk
  exact ⟨J1, K, e, ⟨f.up (fun a z => by simp [CTL] at z; simp [CLQ]; omega), fk, q.1⟩, q⟩
theorem c_ext (hn : 1000000000000000000000000000000 ≤ n) (q : CTB u g 0 J L) : f_X5_extent n 145 (hp u J L) = some (zpn g 1 : Int) ∧ f_X5_clashes n 145 (hp u J L) = some (zpn g 2 : Int) := by
  have e1 := X5_cellsWith (u := u) hn q (c := 1) (by omega)
  have e2 := X5_cellsWith (u := u) hn q (c := 2) (by omega)
  have e1' : f_X5_cellsWith n 145 1 (hp u J L) = some (zpn g 1 : Int) := e1
  have e2' : f_X5_cellsWith n 145 2 (hp u J L) = some (zpn g 2 : Int) := e2
  refine ⟨?_, ?_⟩
  · simp (disch := omega) only [f_X5_extent, ↓dhi_P, ↓dhg_P_0, ↓dhq_P_0, ↓dhG_P_1, ↓dhG_P_2, ↓dhG_P_3, ↓dhg_P_4, ↓dhq_P_4, ↓dhG_P_5, ↓dhg_P_6, ↓dhq_P_6, Option.bind_some, ↓nm_eq, ↓sm_inl, ↓sm_inr, ↓dzo_0, ↓dzo_1, ↓drg_ok, ↓if_pos, ↓if_neg, if_pos, if_neg, if_true, if_false, Int.toNat_natCast, rg_ok, ↓bnd e1']
  · simp (disch := omega) only [f_X5_clashes, ↓dhi_P, ↓dhg_P_0, ↓dhq_P_0, ↓dhG_P_1, ↓dhG_P_2, ↓dhG_P_3, ↓dhg_P_4, ↓dhq_P_4, ↓dhG_P_5, ↓dhg_P_6, ↓dhq_P_6, Option.bind_some, ↓nm_eq, ↓sm_inl, ↓sm_inr, ↓dzo_0, ↓dzo_1, ↓drg_ok, ↓if_pos, ↓if_neg, if_pos, if_neg, if_true, if_false, Int.toNat_natCast, rg_ok, ↓bnd e2']
theorem c_ext9 (q : CTB u g kd J L) (hk : 1 ≤ kd ∧ kd ≤ 3) : f_X9_extent (tb kd) (hp u J L) = some (zsz g kd) := by
  obtain ⟨hv, hva⟩ := tb_m hk
  have hA : ∀ J, gi_is (hp u J L) (va (kb kd)) 0 = some () := fun J => hi_A (va_m (kb kd))
  have e0 := X0_extent (u := u) q hk.1
  have hz : zsz g kd = if Sb (zS g (kb kd)) = true then -2 else (Sn (zS g (kb kd)) : Int) := if_neg (by omega)
  rw [hz]
  simp (disch := omega) only [f_X9_extent, ↓dhi_S hv, ↓dhg_S_0 hv, ↓dhq_S_0 hv, ↓dhG_S_1 hv, ↓dhg_S_2 hv, ↓dhq_S_2 hv, ↓dhG_S_3 hv, ↓dhG_S_4 hv, ↓dhG_S_5 hv, ↓dhg_S_6 hv, ↓dhq_S_6 hv, ↓dhg_S_7 hv, ↓dhq_S_7 hv, ↓dhg_S_8 hv, ↓dhq_S_8 hv, ↓dhg_S_9 hv, ↓dhq_S_9 hv, ↓dhG_S_10 hv, ↓dhG_S_11 hv, ↓dhg_S_12 hv, ↓dhq_S_12 hv, ↓dha_S_1 hv, ↓dhs_S_1 hv, ↓dhl_S_1 hv, ↓dha_S_2 hv, ↓dhs_S_2 hv, ↓dhl_S_2 hv, Option.bind_some, ↓nm_eq, ↓sm_inl, ↓sm_inr, ↓dzo_0, ↓dzo_1, ↓drg_ok, ↓if_pos, ↓if_neg, if_pos, if_neg, if_true, if_false, Int.toNat_natCast, rg_ok, hva, ↓bnd (hA _), ↓bnd e0]
theorem c_cnt9 (hn : 1000000000000000000000000000000 ≤ n) {lv sd : Nat → Int} (q : CTB u g kd J L) (hl : CLV lv sd J) (hk : 1 ≤ kd ∧ kd ≤ 3) (s : Bool) : ∃ J1, f_X9_cellsInConflict n (tb kd) (b01 s) (hp u J L) = some (zcc g kd lv s, hp u J1 L) ∧ CQO u g J L J1 L ∧ CTB u g kd J1 L := by
  obtain ⟨J1, e, f, e2⟩ := X9_cellsInConflict (u := u) hn q hl hk s
  have hz : zcc g kd lv s = zcn g kd lv s := if_neg (by omega)
  rw [hz]
  have q1 := q.own hk f e2
  refine ⟨J1, e, ⟨f.up (fun a z => ?_), Fr.rf, q1.1⟩, q1⟩
  have := (tb_m hk).1
  simp at z this; simp [CLQ]; omega
end KND
