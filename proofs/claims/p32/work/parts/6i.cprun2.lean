/-! ===== the class: the predictive table's run ===== -/
section PS_
variable {u : Nat} {n : Nat} {L : Nat → Nat → Int} {g : GT}
/-- one step's head -/
theorem X5_head (hn : 1000000000000000000000000000000 ≤ n) {w : Nat → Nat} {nw : Nat} {J : Nat → Nat → Int} (h : CTB u g 0 J L) (hs : CSE w J) (hsw : SW w nw) {β qs : List Nat} (hM : PM J β qs) (hβ : β.length ≤ 1501) (hm : ∀ s, s ∈ β → s < 8 ∨ (16 ≤ s ∧ s < 32)) {pl st : Nat} (hpc : pl ≤ nw) (hst : st ≤ 300) (r31 : Nat → Int → Int → gi_H → Option (Int × gi_H)) :
    (β = [] ∧ w pl = 8 ∧ pst g w β pl = -1 ∧ b_X5_run_31 n r31 145 (pl : Int) (st : Int) (hp u J L) = b_X5_run_60 n 145 (hp u J L)) ∨
    (pst g w β pl = (pl : Int) ∧ b_X5_run_31 n r31 145 (pl : Int) (st : Int) (hp u J L) = some ((pl : Int), hp u J L)) ∨
    (pst g w β pl = -2 ∧ ∃ s β', β = s :: β' ∧ ((pne g w β pl = (false, s) ∧ s < 8 ∧ b_X5_run_31 n r31 145 (pl : Int) (st : Int) (hp u J L) = b_X5_run_134 n r31 145 (pl : Int) (st : Int) (-1) 1 (hp u J L)) ∨ ∃ q, pne g w β pl = (true, q) ∧ q < Gn g ∧ b_X5_run_31 n r31 145 (pl : Int) (st : Int) (hp u J L) = b_X5_run_134 n r31 145 (pl : Int) (st : Int) (q : Int) 0 (hp u J L))) := by
  have hg := h.1.gr
  have h24 := hg.1
  have h12 := hsw.1
  have elk := X11_lookAt (u := u) (L := L) hs (i := pl) (by omega)
  have h9 := hsw.le pl
  cases β with
  | nil =>
    have e4 : J 145 4 = 0 := hM.1.1
    have en := X5_next0 (u := u) (L := L) e4
    have e8 : pst g w [] pl = if w pl = 8 then (-1 : Int) else (pl : Int) := rfl
    by_cases c : w pl = 8
    · left
      rw [if_pos c] at e8
      refine ⟨rfl, c, e8, ?_⟩
      simp (disch := omega) only [b_X5_run_31, ↓dhi_P, ↓dhg_P_0, ↓dhq_P_0, ↓dhG_P_1, ↓dhG_P_2, ↓dhG_P_3, ↓dhg_P_4, ↓dhq_P_4, ↓dhG_P_5, ↓dhg_P_6, ↓dhq_P_6, Option.bind_some, ↓nm_eq, ↓sm_inl, ↓sm_inr, ↓dzo_0, ↓dzo_1, ↓drg_ok, ↓if_pos, ↓if_neg, if_pos, if_neg, if_true, if_false, Int.toNat_natCast, rg_ok, ↓bnd elk, e4]
    · right; left
      rw [if_neg c] at e8
      refine ⟨e8, ?_⟩
      have i1 := X11_isNm (hp u J L)
      have i2 := X11_isTm (hp u J L)
      simp (disch := omega) only [b_X5_run_31, b_X5_run_70, b_X5_run_98, b_X5_run_118, b_X5_run_119, ↓dhi_P, ↓dhg_P_0, ↓dhq_P_0, ↓dhG_P_1, ↓dhG_P_2, ↓dhG_P_3, ↓dhg_P_4, ↓dhq_P_4, ↓dhG_P_5, ↓dhg_P_6, ↓dhq_P_6, Option.bind_some, ↓nm_eq, ↓sm_inl, ↓sm_inr, ↓dzo_0, ↓dzo_1, ↓drg_ok, ↓if_pos, ↓if_neg, if_pos, if_neg, if_true, if_false, Int.toNat_natCast, rg_ok, ↓bnd elk, ↓bnd en, ↓bnd i1, ↓bnd i2, e4]
  | cons s β =>
    have e4 : J 145 4 = ((β.length + 1 : Nat) : Int) := hM.1.1
    have hl : β.length + 1 ≤ 1501 := hβ
    have en := X5_next (u := u) (L := L) e4 (by omega)
    have es : J 146 β.length = (s : Int) := hM.1.2.1
    rw [es] at en
    have hsr := hm s (List.mem_cons_self ..)
    have e8 : pst g w (s :: β) pl = if s < 16 then (if s = w pl then (-2 : Int) else (pl : Int)) else if zpl g (s - 16) (w pl) = -1 then (pl : Int) else -2 := rfl
    by_cases c : s < 16
    · have hs8 : s < 8 := by omega
      have i1 := X11_isN0 s c (hp u J L)
      have i2 := X11_isT1 s hs8 (hp u J L)
      rw [if_pos c] at e8
      by_cases c2 : s = w pl
      · right; right
        rw [if_pos c2] at e8
        refine ⟨e8, s, β, rfl, Or.inl ⟨if_pos c, hs8, ?_⟩⟩
        simp (disch := omega) only [b_X5_run_31, b_X5_run_70, b_X5_run_98, b_X5_run_118, b_X5_run_119, ↓dhi_P, ↓dhg_P_0, ↓dhq_P_0, ↓dhG_P_1, ↓dhG_P_2, ↓dhG_P_3, ↓dhg_P_4, ↓dhq_P_4, ↓dhG_P_5, ↓dhg_P_6, ↓dhq_P_6, Option.bind_some, ↓nm_eq, ↓sm_inl, ↓sm_inr, ↓dzo_0, ↓dzo_1, ↓drg_ok, ↓if_pos, ↓if_neg, if_pos, if_neg, if_true, if_false, Int.toNat_natCast, rg_ok, ↓bnd elk, ↓bnd en, ↓bnd i1, ↓bnd i2, e4]
      · right; left
        rw [if_neg c2] at e8
        refine ⟨e8, ?_⟩
        simp (disch := omega) only [b_X5_run_31, b_X5_run_70, b_X5_run_98, b_X5_run_118, b_X5_run_119, ↓dhi_P, ↓dhg_P_0, ↓dhq_P_0, ↓dhG_P_1, ↓dhG_P_2, ↓dhG_P_3, ↓dhg_P_4, ↓dhq_P_4, ↓dhG_P_5, ↓dhg_P_6, ↓dhq_P_6, Option.bind_some, ↓nm_eq, ↓sm_inl, ↓sm_inr, ↓dzo_0, ↓dzo_1, ↓drg_ok, ↓if_pos, ↓if_neg, if_pos, if_neg, if_true, if_false, Int.toNat_natCast, rg_ok, ↓bnd elk, ↓bnd en, ↓bnd i1, ↓bnd i2, e4]
    · have i1 := X11_isN1 s (by omega) (by omega) (hp u J L)
      have i2 := X11_isT0 s (by omega) (by omega) (hp u J L)
      have e16 : (s : Int) - 16 = ((s - 16 : Nat) : Int) := by omega
      have el := X5_lowestIn (u := u) hn h (a := s - 16) (y := w pl) (by omega) h9
      rw [if_neg c] at e8
      rcases zpl_rg g (s - 16) (w pl) with ⟨z, -⟩ | ⟨q, z, z2, -⟩
      · right; left
        rw [if_pos z] at e8
        rw [z] at el
        refine ⟨e8, ?_⟩
        simp (disch := omega) only [b_X5_run_31, b_X5_run_70, b_X5_run_98, b_X5_run_118, b_X5_run_119, ↓dhi_P, ↓dhg_P_0, ↓dhq_P_0, ↓dhG_P_1, ↓dhG_P_2, ↓dhG_P_3, ↓dhg_P_4, ↓dhq_P_4, ↓dhG_P_5, ↓dhg_P_6, ↓dhq_P_6, Option.bind_some, ↓nm_eq, ↓sm_inl, ↓sm_inr, ↓dzo_0, ↓dzo_1, ↓drg_ok, ↓if_pos, ↓if_neg, if_pos, if_neg, if_true, if_false, Int.toNat_natCast, rg_ok, ↓bnd elk, ↓bnd en, ↓bnd i1, ↓bnd i2, e4, e16, ↓bnd el]
      · right; right
        rw [if_neg (by rw [z]; omega)] at e8
        have en2 : pne g w (s :: β) pl = (true, q) := by
          have : pne g w (s :: β) pl = (true, (zpl g (s - 16) (w pl)).toNat) := if_neg c
          rw [this, z, Int.toNat_natCast]
        rw [z] at el
        refine ⟨e8, s, β, rfl, Or.inr ⟨q, en2, z2, ?_⟩⟩
        simp (disch := omega) only [b_X5_run_31, b_X5_run_70, b_X5_run_98, b_X5_run_118, b_X5_run_119, ↓dhi_P, ↓dhg_P_0, ↓dhq_P_0, ↓dhG_P_1, ↓dhG_P_2, ↓dhG_P_3, ↓dhg_P_4, ↓dhq_P_4, ↓dhG_P_5, ↓dhg_P_6, ↓dhq_P_6, Option.bind_some, ↓nm_eq, ↓sm_inl, ↓sm_inr, ↓dzo_0, ↓dzo_1, ↓drg_ok, ↓if_pos, ↓if_neg, if_pos, if_neg, if_true, if_false, Int.toNat_natCast, rg_ok, ↓bnd elk, ↓bnd en, ↓bnd i1, ↓bnd i2, e4, e16, ↓bnd el]
/-- the value of what the events lead to -/
def pval (g : GT) (es : List (Bool × Nat)) : Int := (((gR g es []).headD 0 : Nat) : Int)
theorem X5_runl (hn : 1000000000000000000000000000000 ≤ n) {w : Nat → Nat} {nw : Nat} {J0 : Nat → Nat → Int} (h : CTB u g 0 J0 L) (hs : CSE w J0) (hsw : SW w nw) :
    ∀ (r f : Nat) (J : Nat → Nat → Int) (β : List Nat) (es : List (Bool × Nat)) (pl : Nat), r + 1 < f → Fr PUL J0 J → PM J β (prs es) → pC g es β → es.length + r = 300 → pl ≤ nw →
    ∃ J', l_X5_run_31 n f 145 (pl : Int) ((300 - r : Nat) : Int) (hp u J L) = some ((pq g w r β es pl).1, hp u J' L) ∧ Fr PUL J0 J' ∧ ((pq g w r β es pl).1 = -1 → J' 145 0 = pval g (pq g w r β es pl).2) := by
  have hg := h.1.gr
  have h24 := hg.1
  -- the end where all is derived
  have acc : ∀ (J : Nat → Nat → Int) (es : List (Bool × Nat)), Fr PUL J0 J → PM J [] (prs es) → pC g es [] → es.length ≤ 300 → ∃ J', b_X5_run_60 n 145 (hp u J L) = some (-1, hp u J' L) ∧ Fr PUL J0 J' ∧ J' 145 0 = pval g es := by
    intro J es f1 hM hpc hes
    obtain ⟨v, v1, v2⟩ := con_g hg (V := []) (V' := []) hpc ⟨rfl, rfl⟩
    obtain ⟨J1, e1, f2⟩ := X5_worthOfTree (u := u) hn (h.ownp f1) hpc v2 hM.2.1 hM.2.2 hes
    refine ⟨gx_u J1 145 0 (v : Int), ?_, (f1.tr f2).wr (by decide), ?_⟩
    · simp (disch := omega) only [b_X5_run_60, f_X10_keepWorth_4, ↓dhi_P, ↓dhg_P_0, ↓dhq_P_0, ↓dhG_P_1, ↓dhG_P_2, ↓dhG_P_3, ↓dhg_P_4, ↓dhq_P_4, ↓dhG_P_5, ↓dhg_P_6, ↓dhq_P_6, Option.bind_some, ↓nm_eq, ↓sm_inl, ↓sm_inr, ↓dzo_0, ↓dzo_1, ↓drg_ok, ↓if_pos, ↓if_neg, if_pos, if_neg, if_true, if_false, Int.toNat_natCast, rg_ok, ↓bnd e1]
    · rw [gu_at_eq rfl]; unfold pval; rw [v1]; rfl
  intro r
  induction r with
  | zero =>
    intro f J β es pl hf f1 hM hpc hes hpl
    obtain ⟨f', rfl⟩ : ∃ f', f = f' + 1 + 1 := ⟨f - 2, by omega⟩
    have hC := h.ownp f1
    have hS : CSE w J := fun i hi => by rw [f1 63 (by decide)]; exact hs i hi
    have hl := pC_len hg hpc
    have e0 : l_X5_run_31 n (f' + 1 + 1) 145 (pl : Int) ((300 - 0 : Nat) : Int) (hp u J L) = b_X5_run_31 n (l_X5_run_31 n (f' + 1)) 145 (pl : Int) ((300 - 0 : Nat) : Int) (hp u J L) := rfl
    rw [e0]
    rcases X5_head (u := u) hn hC hS hsw hM (by omega) (pC_mem hg hpc) (pl := pl) (st := 300 - 0) hpl (by omega) (l_X5_run_31 n (f' + 1)) with ⟨z1, z2, z3, z4⟩ | ⟨z1, z2⟩ | ⟨z1, s, β', z2, z3⟩
    · subst z1
      rw [z4, pq_end 0 (by rw [z3]; decide), z3]
      obtain ⟨J', a, b, c⟩ := acc J es f1 hM hpc (by omega)
      exact ⟨J', a, b, fun _ => c⟩
    · rw [z2, pq_end 0 (by rw [z1]; omega), z1]
      exact ⟨J, rfl, f1, fun y => by dsimp only at y; omega⟩
    · rw [pq_0 z1]
      refine ⟨J, ?_, f1, fun y => by dsimp only at y; omega⟩
      rcases z3 with ⟨-, -, z⟩ | ⟨q, -, -, z⟩
      · rw [z]
        simp (disch := omega) only [b_X5_run_134, b_X5_run_165, l_X5_run_31, b_X5_run_31, ↓dhi_P, ↓dhg_P_0, ↓dhq_P_0, ↓dhG_P_1, ↓dhG_P_2, ↓dhG_P_3, ↓dhg_P_4, ↓dhq_P_4, ↓dhG_P_5, ↓dhg_P_6, ↓dhq_P_6, Option.bind_some, ↓nm_eq, ↓sm_inl, ↓sm_inr, ↓dzo_0, ↓dzo_1, ↓drg_ok, ↓if_pos, ↓if_neg, if_pos, if_neg, if_true, if_false, Int.toNat_natCast, rg_ok]
      · rw [z]
        simp (disch := omega) only [b_X5_run_134, b_X5_run_165, l_X5_run_31, b_X5_run_31, ↓dhi_P, ↓dhg_P_0, ↓dhq_P_0, ↓dhG_P_1, ↓dhG_P_2, ↓dhG_P_3, ↓dhg_P_4, ↓dhq_P_4, ↓dhG_P_5, ↓dhg_P_6, ↓dhq_P_6, Option.bind_some, ↓nm_eq, ↓sm_inl, ↓sm_inr, ↓dzo_0, ↓dzo_1, ↓drg_ok, ↓if_pos, ↓if_neg, if_pos, if_neg, if_true, if_false, Int.toNat_natCast, rg_ok]
  | succ r ih =>
    intro f J β es pl hf f1 hM hpc hes hpl
    obtain ⟨f', rfl⟩ : ∃ f', f = f' + 1 := ⟨f - 1, by omega⟩
    have hC := h.ownp f1
    have hS : CSE w J := fun i hi => by rw [f1 63 (by decide)]; exact hs i hi
    have hl := pC_len hg hpc
    have hlp := prs_len es
    have estep : ((300 - (r + 1) : Nat) : Int) + 1 = ((300 - r : Nat) : Int) := by omega
    have e0 : l_X5_run_31 n (f' + 1) 145 (pl : Int) ((300 - (r + 1) : Nat) : Int) (hp u J L) = b_X5_run_31 n (l_X5_run_31 n f') 145 (pl : Int) ((300 - (r + 1) : Nat) : Int) (hp u J L) := rfl
    rw [e0]
    rcases X5_head (u := u) hn hC hS hsw hM (by omega) (pC_mem hg hpc) (pl := pl) (st := 300 - (r + 1)) hpl (by omega) (l_X5_run_31 n f') with ⟨z1, z2, z3, z4⟩ | ⟨z1, z2⟩ | ⟨z1, s, β', z2, z3⟩
    · subst z1
      rw [z4, pq_end (r + 1) (by rw [z3]; decide), z3]
      obtain ⟨J', a, b, c⟩ := acc J es f1 hM hpc (by omega)
      exact ⟨J', a, b, fun _ => c⟩
    · rw [z2, pq_end (r + 1) (by rw [z1]; omega), z1]
      exact ⟨J, rfl, f1, fun y => by dsimp only at y; omega⟩
    · have hst := pC_step hg hsw hpc hpl z1
      rw [pq_s r z1]
      have e4 : J 145 4 = ((β'.length + 1 : Nat) : Int) := by rw [hM.1.1, z2]; rfl
      have hl1 : β'.length + 1 ≤ 1 + 5 * es.length := by rw [z2] at hl; exact hl
      have epo := X5_pop (u := u) (L := L) (J := J) (h := β'.length) e4 (by omega)
      have fp : Fr PUL J0 (gx_u J 145 4 (β'.length : Int)) := f1.wr (by decide)
      have hMp : PM (gx_u J 145 4 (β'.length : Int)) β' (prs es) := by
        refine ⟨⟨gu_at_eq rfl, ?_⟩, ?_, ?_⟩
        · have := hM.1.2
          rw [z2] at this
          exact AX_fr this.2 (fun i _ => by rw [gu_ne (by decide)])
        · rw [gu_at_ne (by decide)]; exact hM.2.1
        · exact AX_fr hM.2.2 (fun i _ => by rw [gu_ne (by decide)])
      have hCp := h.ownp fp
      rcases z3 with ⟨y1, y2, z⟩ | ⟨q, y1, y2, z⟩
      · rw [y1] at hst ⊢
        have eb : pnb g (false, s) β = β' := by unfold pnb; rw [if_neg (by simp), z2]; rfl
        have ep : (if (false, s).1 = true then pl else pl + 1) = pl + 1 := if_neg (by simp)
        rw [eb, ep] at hst ⊢
        have epr : prs ((false, s) :: es) = prs es := by rw [prs, if_neg (by simp)]
        have ean := X5_applyN (u := u) (L := L) (J := gx_u J 145 4 (β'.length : Int)) hn
        obtain ⟨J', i1, i2, i3⟩ := ih f' (gx_u J 145 4 (β'.length : Int)) β' ((false, s) :: es) (pl + 1) (by omega) fp (by rw [epr]; exact hMp) hst.1 (by simp only [List.length_cons]; omega) hst.2
        refine ⟨J', ?_, i2, i3⟩
        rw [z, ← i1]
        have ep1 : (pl : Int) + 1 = ((pl + 1 : Nat) : Int) := rfl
        simp (disch := omega) only [b_X5_run_134, b_X5_run_163, b_X5_run_165, ↓dhi_P, ↓dhg_P_0, ↓dhq_P_0, ↓dhG_P_1, ↓dhG_P_2, ↓dhG_P_3, ↓dhg_P_4, ↓dhq_P_4, ↓dhG_P_5, ↓dhg_P_6, ↓dhq_P_6, Option.bind_some, ↓nm_eq, ↓sm_inl, ↓sm_inr, ↓dzo_0, ↓dzo_1, ↓drg_ok, ↓if_pos, ↓if_neg, if_pos, if_neg, if_true, if_false, Int.toNat_natCast, rg_ok, ↓bnd epo, ↓bnd ean, estep, ep1]
      · rw [y1] at hst ⊢
        have eb : pnb g (true, q) β = rh g q ++ β' := by unfold pnb; rw [if_pos rfl, z2]; rfl
        have ep : (if (true, q).1 = true then pl else pl + 1) = pl := if_pos rfl
        rw [eb, ep] at hst ⊢
        have epr : prs ((true, q) :: es) = q :: prs es := by rw [prs, if_pos rfl]
        obtain ⟨J2, ea, fa, hM2⟩ := X5_apply (u := u) hn hCp y2 hMp (by omega) (by omega)
        obtain ⟨J', i1, i2, i3⟩ := ih f' J2 (rh g q ++ β') ((true, q) :: es) pl (by omega) (fp.tr fa) (by rw [epr]; exact hM2) hst.1 (by simp only [List.length_cons]; omega) hst.2
        refine ⟨J', ?_, i2, i3⟩
        rw [z, ← i1]
        have ep1 : (pl : Int) + 0 = (pl : Int) := by omega
        simp (disch := omega) only [b_X5_run_134, b_X5_run_163, b_X5_run_165, ↓dhi_P, ↓dhg_P_0, ↓dhq_P_0, ↓dhG_P_1, ↓dhG_P_2, ↓dhG_P_3, ↓dhg_P_4, ↓dhq_P_4, ↓dhG_P_5, ↓dhg_P_6, ↓dhq_P_6, Option.bind_some, ↓nm_eq, ↓sm_inl, ↓sm_inr, ↓dzo_0, ↓dzo_1, ↓drg_ok, ↓if_pos, ↓if_neg, if_pos, if_neg, if_true, if_false, Int.toNat_natCast, rg_ok, ↓bnd epo, ↓bnd ea, estep, ep1]
noncomputable def prun (g : GT) (w : Nat → Nat) : Int × List (Bool × Nat) := pq g w 300 [16 + Gt g] [] 0
theorem X5_run (hn : 1000000000000000000000000000000 ≤ n) {w : Nat → Nat} {nw : Nat} {J0 : Nat → Nat → Int} (h : CTB u g 0 J0 L) (hs : CSE w J0) (hsw : SW w nw) :
    ∃ J', f_X5_run n 145 (hp u J0 L) = some ((prun g w).1, hp u J' L) ∧ Fr PUL J0 J' ∧ ((prun g w).1 = -1 → J' 145 0 = pval g (prun g w).2) := by
  have hg := h.1.gr
  have hgm := gU_mem u
  have f1 : Fr PUL J0 (gx_u (gx_u J0 145 4 0) 145 6 0) := (Fr.rf.wr (by decide)).wr (by decide)
  have hC := h.ownp f1
  have et := X4_top (u := u) (L := L) hgm hC.1.1.1
  rw [hC.1.1.2] at et
  have e4 : gx_u (gx_u J0 145 4 0) 145 6 0 145 4 = ((0 : Nat) : Int) := by rw [gu_at_ne (by decide), gu_at_eq rfl]; rfl
  have e16 : (16 : Int) + (Gt g : Int) = ((16 + Gt g : Nat) : Int) := by omega
  have epu := X5_push (u := u) (L := L) (J := gx_u (gx_u J0 145 4 0) 145 6 0) (h := 0) e4 (by omega) ((16 + Gt g : Nat) : Int)
  obtain ⟨J', i1, i2, i3⟩ := X5_runl (u := u) hn h hs hsw 300 n (gx_u (gx_u (gx_u (gx_u J0 145 4 0) 145 6 0) 146 0 ((16 + Gt g : Nat) : Int)) 145 4 (((0 : Nat) : Int) + 1)) [16 + Gt g] [] 0 (by omega) ((f1.wr (by decide)).wr (by decide)) ⟨⟨gu_at_eq rfl, by rw [gu_ne (by decide)]; exact gu_at_eq rfl, trivial⟩, by rw [gu_at_ne (by decide), gu_ne (by decide), gu_at_eq rfl]; rfl, trivial⟩ rfl rfl (Nat.zero_le _)
  refine ⟨J', ?_, i2, i3⟩
  have i1' : l_X5_run_31 n n 145 0 0 (hp u (gx_u (gx_u (gx_u (gx_u J0 145 4 0) 145 6 0) 146 0 ((16 + Gt g : Nat) : Int)) 145 4 (((0 : Nat) : Int) + 1)) L) = some ((prun g w).1, hp u J' L) := i1
  rw [← i1']
  simp (disch := omega) only [f_X5_run, ↓dhi_F, ↓dhG_F_0, ↓dhg_F_1, ↓dhq_F_1, ↓dhg_F_2, ↓dhq_F_2, ↓dhg_F_3, ↓dhq_F_3, ↓dhg_F_4, ↓dhq_F_4, ↓dhG_F_5, ↓dhG_F_6, ↓dhG_F_7, ↓dhG_F_8, ↓dhG_F_9, ↓dhg_F_10, ↓dhq_F_10, ↓dhG_F_11, ↓dhG_F_12, ↓dhG_F_13, ↓dhi_P, ↓dhg_P_0, ↓dhq_P_0, ↓dhG_P_1, ↓dhG_P_2, ↓dhG_P_3, ↓dhg_P_4, ↓dhq_P_4, ↓dhG_P_5, ↓dhg_P_6, ↓dhq_P_6, ↓dhi_G hgm, ↓dhG_G_0 hgm, ↓dhG_G_1 hgm, ↓dhG_G_2 hgm, ↓dhg_G_3 hgm, ↓dhq_G_3 hgm, ↓dhG_G_4 hgm, ↓dhG_G_5 hgm, ↓dhg_G_6 hgm, ↓dhq_G_6 hgm, ↓dhg_G_7 hgm, ↓dhq_G_7 hgm, ↓dhG_G_8 hgm, ↓dhG_G_9 hgm, ↓dha_G_1 hgm, ↓dhs_G_1 hgm, ↓dhl_G_1 hgm, ↓dha_G_2 hgm, ↓dhs_G_2 hgm, ↓dhl_G_2 hgm, ↓dha_G_3 hgm, ↓dhs_G_3 hgm, ↓dhl_G_3 hgm, ↓dha_G_4 hgm, ↓dhl_G_4 hgm, ↓dha_G_5 hgm, ↓dhs_G_5 hgm, ↓dhl_G_5 hgm, Option.bind_some, ↓nm_eq, ↓sm_inl, ↓sm_inr, ↓dzo_0, ↓dzo_1, ↓drg_ok, ↓if_pos, ↓if_neg, if_pos, if_neg, if_true, if_false, Int.toNat_natCast, rg_ok, ↓bnd X3_grammar, ↓bnd et, e16, ↓bnd epu]
end PS_
