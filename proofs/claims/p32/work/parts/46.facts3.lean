/-! ===== Facts.findBehinds finds the least closed sets ===== -/
/-- what is behind a nonterminal, as the class has found it -/
def cBe (I : Nat → Nat → Int) (a t : Nat) : Prop := a < 16 ∧ t < 9 ∧ bt (I 66 a) t = true
def cOk (a N : Nat) (I : Nat → Nat → Int) : Prop := ∀ k, k < N → gi_ok (I a k)
theorem cOk.wr {a N : Nat} {I : Nat → Nat → Int} (h : cOk a N I) {k : Nat} {x : Int} (hx : gi_ok x) : cOk a N (gx_u I a k x) := fun j hj => by
  rw [gu_at]; split
  · exact hx
  · exact h j hj
theorem X11_behindOf (a b : Int) (h : gi_H) (hb : gi_ok b) : ∃ r, f_X11_behindOf a b h = some r ∧ gi_ok r ∧ ∀ i, bt r i = true ↔ (i < 8 ∧ bt a i = true) ∨ (bt a 9 = true ∧ bt b i = true) := by
  have h1 := bt_ok_and a 512
  simp (disch := omega) only [f_X11_behindOf, Option.bind_some, nm_eq, sm_inl, sm_inr, zo_0, zo_1, rg_ok]
  by_cases h9 : bt a 9 = true
  · rw [if_neg (by rw [bt_and512, h9]; decide)]
    refine ⟨_, rfl, bt_ok_or _ _, fun i => ?_⟩
    rw [bt_or, bt_and, bt_255]
    simp only [Bool.or_eq_true, Bool.and_eq_true, decide_eq_true_eq, h9, true_and]
    constructor
    · rintro (⟨q1, q2⟩ | q)
      · exact Or.inl ⟨q2, q1⟩
      · exact Or.inr q
    · rintro (⟨q1, q2⟩ | q)
      · exact Or.inl ⟨q2, q1⟩
      · exact Or.inr q
  · rw [if_pos (by rw [bt_and512]; exact Bool.not_eq_true _ ▸ h9)]
    refine ⟨_, rfl, bt_ok_and _ _, fun i => ?_⟩
    rw [bt_and, bt_255]
    simp only [Bool.and_eq_true, decide_eq_true_eq, h9, Bool.false_eq_true, false_and, or_false]
    exact ⟨fun q => ⟨q.2, q.1⟩, fun q => ⟨q.2, q.1⟩⟩
def cI2 (g : GT) (N : Nat → Prop) (F : Nat → Nat → Prop) (J : Nat → Nat → Int) : Prop := cOk 66 16 J ∧ (∀ a, a < 16 → ∀ i, bt (J 66 a) i = true → i < 9) ∧ (∀ B', cl2 g N F B' → ∀ a t, cBe J a t → B' a t) ∧ bt (J 66 (Gt g)) 8 = true
def clq (g : GT) (N : Nat → Prop) (F : Nat → Nat → Prop) (J : Nat → Nat → Int) (p k : Nat) : Prop := 16 ≤ Gs g p k → ∀ t, (fsF g N F p (k + 1) t ∨ (emF g N p (k + 1) ∧ cBe J (Go g p) t)) → cBe J (Gs g p k - 16) t
/-- the bits that come to what is behind the symbol -/
def bhb (g : GT) (N : Nat → Prop) (F : Nat → Nat → Prop) (J : Nat → Nat → Int) (p k i : Nat) : Prop := (i < 8 ∧ fsF g N F p (k + 1) i) ∨ (emF g N p (k + 1) ∧ bt (J 66 (Go g p)) i = true)
theorem cI2_no {g : GT} (hg : GR g) {I J : Nat → Nat → Int} (h : cI2 g (cNi I) (cFi I) J) {p k : Nat} (hk : k < Gl g p) {r : Int} (hr : ∀ i, bt r i = true ↔ bhb g (cNi I) (cFi I) J p k i) (e : gi_or (J 66 (Gs g p k - 16)) r = J 66 (Gs g p k - 16)) : clq g (cNi I) (cFi I) J p k := by
  intro hs t q
  have h0 := hg.2.2.2.2.2 p k hk
  have h1 := (bt_or_left (h.1 _ (by omega))).mp e
  have ht : t < 9 := by
    rcases q with q | q
    · have := fsF_lt8 hg q; omega
    · exact q.2.2.1
  refine ⟨by omega, ht, h1 t (by omega) ((hr t).mpr ?_)⟩
  rcases q with q | q
  · exact Or.inl ⟨fsF_lt8 hg q, q⟩
  · exact Or.inr ⟨q.1, q.2.2.2⟩
theorem cI2_wr {g : GT} (hg : GR g) {I J : Nat → Nat → Int} (h : cI2 g (cNi I) (cFi I) J) {p k : Nat} (hk : k < Gl g p) (hs : 16 ≤ Gs g p k) {r : Int} (hr : ∀ i, bt r i = true ↔ bhb g (cNi I) (cFi I) J p k i) : cI2 g (cNi I) (cFi I) (gx_u J 66 (Gs g p k - 16) (gi_or (J 66 (Gs g p k - 16)) r)) := by
  have ho := hg.2.2.1 p
  refine ⟨h.1.wr (bt_ok_or _ _), fun a ha i hi => ?_, fun B' hB a t q => ?_, ?_⟩
  · by_cases e : a = Gs g p k - 16
    · subst e
      rw [gu_at_eq rfl, bt_or, Bool.or_eq_true] at hi
      rcases hi with hi | hi
      · exact h.2.1 _ ha i hi
      · rcases (hr i).mp hi with z | z
        · omega
        · exact h.2.1 _ ho i z.2
    · rw [gu_at_ne (by omega)] at hi; exact h.2.1 a ha i hi
  · obtain ⟨ha, ht, q⟩ := q
    by_cases e : a = Gs g p k - 16
    · subst e
      rw [gu_at_eq rfl, bt_or, Bool.or_eq_true] at q
      rcases q with q | q
      · exact h.2.2.1 B' hB _ _ ⟨ha, ht, q⟩
      · refine hB.2 p (hg.2.2.2.2.1 p k hk) k hk hs t ?_
        rcases (hr t).mp q with z | z
        · exact Or.inl z.2
        · exact Or.inr ⟨z.1, h.2.2.1 B' hB _ _ ⟨ho, ht, z.2⟩⟩
    · rw [gu_at_ne (by omega)] at q; exact h.2.2.1 B' hB _ _ ⟨ha, ht, q⟩
  · rw [gu_at]
    split
    · next e => rw [bt_or, ← e, h.2.2.2, Bool.true_or]
    · exact h.2.2.2
section FC
variable {u : Nat} {L : Nat → Nat → Int} {n : Nat}
theorem nF66 : 3 ∉ [66] ∧ 4 ∉ [66] ∧ 5 ∉ [66] ∧ 6 ∉ [66] ∧ 87 ∉ [66] ∧ 88 ∉ [66] ∧ 89 ∉ [66] ∧ 90 ∉ [66] := by decide
theorem X3_behind {I : Nat → Nat → Int} (a : Nat) (ha : a < 16) : f_X3_behind 64 (a : Int) (hp u I L) = some (I 66 a) := by
  simp (disch := omega) only [f_X3_behind, b_X3_behind_19, hi_F, hG_F_0, hg_F_1, hq_F_1, hg_F_2, hq_F_2, hg_F_3, hq_F_3, hg_F_4, hq_F_4, hG_F_5, hG_F_6, hG_F_7, hG_F_8, hG_F_9, hg_F_10, hq_F_10, hG_F_11, hG_F_12, hG_F_13, ha_66, hs_66, hl_66, Option.bind_some, nm_eq, sm_inl, sm_inr, zo_0, zo_1, rg_ok, Int.toNat_natCast]
  rw [if_neg (by omega), if_neg (by omega)]
theorem X3_behindN {I : Nat → Nat → Int} : f_X3_behind 64 (-1) (hp u I L) = some 0 := rfl
theorem wB_l (hn : 1000000000000000000000000000000 ≤ n) {I J0 : Nat → Nat → Int} (hw : GW (gU u) I) (hT : cTb I) {p : Nat} (hp1 : p < Gn (cG I (gU u))) : ∀ (m f k : Nat) (J : Nat → Nat → Int) (v2 : Int), Gl (cG I (gU u)) p = k + m → m < f → Fr [66] I J → cI2 (cG I (gU u)) (cNi I) (cFi I) J → ((v2 = 0 ∧ J = J0 ∧ ∀ j, j < k → clq (cG I (gU u)) (cNi I) (cFi I) J p j) ∨ (v2 = 1 ∧ cM (J0 66) 16 < cM (J 66) 16)) →
    ∃ (J' : Nat → Nat → Int) (r : Int), l_X3_widenBehinds_4 n f 64 (p : Int) v2 (k : Int) (hp u J L) = some (r, hp u J' L) ∧ Fr [66] I J' ∧ cI2 (cG I (gU u)) (cNi I) (cFi I) J' ∧ ((r = 0 ∧ J' = J0 ∧ ∀ j, j < Gl (cG I (gU u)) p → clq (cG I (gU u)) (cNi I) (cFi I) J' p j) ∨ (r = 1 ∧ cM (J0 66) 16 < cM (J' 66) 16)) := by
  have hg := GR_of hw
  have h24 := hg.1
  have h5 := hg.2.2.2.1 p
  intro m
  induction m with
  | zero =>
    intro f k J v2 hm hf hfr hB hv
    obtain ⟨f', rfl⟩ : ∃ f', f = f' + 1 := ⟨f - 1, by omega⟩
    have hwJ := GWu_fr hfr nF66 hw
    have hgJ := cGu_fr (u := u) hfr nF66
    simp (disch := omega) only [l_X3_widenBehinds_4, b_X3_widenBehinds_4, hi_F, hG_F_0, hg_F_1, hq_F_1, hg_F_2, hq_F_2, hg_F_3, hq_F_3, hg_F_4, hq_F_4, hG_F_5, hG_F_6, hG_F_7, hG_F_8, hG_F_9, hg_F_10, hq_F_10, hG_F_11, hG_F_12, hG_F_13, Option.bind_some, nm_eq, sm_inl, sm_inr, zo_0, zo_1, hi_G (gU_mem u), X4_length (gU_mem u) hwJ, hgJ, rg_ok]
    rw [if_pos (by omega), zo_ok (by rcases hv with ⟨a, -⟩ | ⟨a, -⟩ <;> omega)]
    refine ⟨J, v2, rfl, hfr, hB, ?_⟩
    rcases hv with ⟨a1, a2, a3⟩ | hv
    · exact Or.inl ⟨a1, a2, fun q hq => a3 q (by omega)⟩
    · exact Or.inr hv
  | succ m ih =>
    intro f k J v2 hm hf hfr hB hv
    obtain ⟨f', rfl⟩ : ∃ f', f = f' + 1 := ⟨f - 1, by omega⟩
    have hwJ := GWu_fr hfr nF66 hw
    have hgJ := cGu_fr (u := u) hfr nF66
    have h65 : J 65 = I 65 := hfr 65 (by decide)
    have hTJ : cTb J := cTb_fr h65 hT
    have hk : k < Gl (cG I (gU u)) p := by omega
    have hkJ : k < Gl (cG J (gU u)) p := by rw [hgJ]; exact hk
    have hp2 : p < Gn (cG J (gU u)) := by rw [hgJ]; exact hp1
    have hs := hg.2.2.2.2.2 p k hk
    have ho := hg.2.2.1 p
    simp (disch := omega) only [l_X3_widenBehinds_4, b_X3_widenBehinds_4, b_X3_widenBehinds_81, hi_F, hG_F_0, hg_F_1, hq_F_1, hg_F_2, hq_F_2, hg_F_3, hq_F_3, hg_F_4, hq_F_4, hG_F_5, hG_F_6, hG_F_7, hG_F_8, hG_F_9, hg_F_10, hq_F_10, hG_F_11, hG_F_12, hG_F_13, Option.bind_some, nm_eq, sm_inl, sm_inr, zo_0, zo_1, hi_G (gU_mem u), X4_length (gU_mem u) hwJ, X4_symbol (gU_mem u) hwJ hkJ, hgJ, X11_isN, rg_ok]
    rw [if_neg (by omega)]
    by_cases hN : 16 ≤ Gs (cG I (gU u)) p k
    · obtain ⟨r1, er1, ho1, hr1⟩ := X3_beg (n := n) (L := L) hn hwJ hTJ (p := p) (k := k + 1) (by omega) (by omega)
      have er1' : f_X3_beginnings n 64 (p : Int) ((k : Int) + 1) (hp u J L) = some r1 := er1
      obtain ⟨r2, er2, ho2, hr2⟩ := X11_behindOf r1 (J 66 (Go (cG I (gU u)) p)) (hp u J L) (hB.1 _ ho)
      rw [hgJ, cNi_fr h65, cFi_fr h65] at hr1
      have hr : ∀ i, bt r2 i = true ↔ bhb (cG I (gU u)) (cNi I) (cFi I) J p k i := by
        intro i
        rw [hr2 i, hr1 i, hr1 9]
        unfold bhb
        constructor
        · rintro (⟨q1, q2 | q2⟩ | ⟨q1 | q1, q2⟩)
          · exact Or.inl q2
          · omega
          · omega
          · exact Or.inr ⟨q1.2, q2⟩
        · rintro (q | q)
          · exact Or.inl ⟨q.1, Or.inl q⟩
          · exact Or.inr ⟨Or.inr ⟨rfl, q.1⟩, q.2⟩
      rw [if_pos (⟨hN, by omega⟩ : 16 ≤ Gs (cG I (gU u)) p k ∧ Gs (cG I (gU u)) p k < 32)]
      simp (disch := omega) only [hi_F, hG_F_0, hg_F_1, hq_F_1, hg_F_2, hq_F_2, hg_F_3, hq_F_3, hg_F_4, hq_F_4, hG_F_5, hG_F_6, hG_F_7, hG_F_8, hG_F_9, hg_F_10, hq_F_10, hG_F_11, hG_F_12, hG_F_13, Option.bind_some, nm_eq, sm_inl, sm_inr, zo_0, zo_1, hi_G (gU_mem u), X4_owner (gU_mem u) hwJ hp2, hgJ, er1', X3_behind _ ho, er2, rg_ok]
      rw [if_neg (by decide), show ((Gs (cG I (gU u)) p k : Nat) : Int) - 16 = ((Gs (cG I (gU u)) p k - 16 : Nat) : Int) by omega,
        X3_widen (N := 16) rfl (by decide) (by decide) (by omega) (hB.1 _ (by omega)), show (k : Int) + 1 = ((k + 1 : Nat) : Int) by omega]
      by_cases e : gi_or (J 66 (Gs (cG I (gU u)) p k - 16)) r2 = J 66 (Gs (cG I (gU u)) p k - 16)
      · rw [if_pos e]
        simp only [Option.bind_some, nm_eq, sm_inl, sm_inr, zo_0, zo_1]
        have hc := cI2_no hg hB hk hr e
        rcases hv with ⟨a1, a2, a3⟩ | ⟨a1, a2⟩
        · rw [a1, or00]
          exact ih f' (k + 1) J 0 (by omega) (by omega) hfr hB (Or.inl ⟨rfl, a2, fun q hq => by
            by_cases hqp : q = k
            · subst hqp; exact hc
            · exact a3 q (by omega)⟩)
        · rw [a1, or10]
          exact ih f' (k + 1) J 1 (by omega) (by omega) hfr hB (Or.inr ⟨rfl, a2⟩)
      · rw [if_neg e]
        simp only [Option.bind_some, nm_eq, sm_inl, sm_inr, zo_0, zo_1]
        have hlt := cM_wid (N := 16) (I := J) (a := 66) (by omega) (hB.1 (Gs (cG I (gU u)) p k - 16) (by omega)) e
        have hv1 : gi_or v2 1 = 1 := by rcases hv with ⟨a1, -⟩ | ⟨a1, -⟩ <;> rw [a1] <;> first | exact or01 | exact or11
        rw [hv1]
        refine ih f' (k + 1) _ 1 (by omega) (by omega) (hfr.wr (List.mem_singleton.mpr rfl)) (cI2_wr hg hB hk hN hr) (Or.inr ⟨rfl, ?_⟩)
        rcases hv with ⟨-, a2, -⟩ | ⟨-, a2⟩
        · rw [← a2]; exact hlt
        · exact Nat.lt_trans a2 hlt
    · rw [if_neg (fun z : 16 ≤ Gs (cG I (gU u)) p k ∧ Gs (cG I (gU u)) p k < 32 => hN z.1)]
      simp (disch := omega) only [Option.bind_some, nm_eq, sm_inl, sm_inr, zo_0, zo_1, rg_ok]
      rw [if_pos trivial, show (k : Int) + 1 = ((k + 1 : Nat) : Int) by omega]
      refine ih f' (k + 1) J v2 (by omega) (by omega) hfr hB ?_
      rcases hv with ⟨a1, a2, a3⟩ | hv
      · refine Or.inl ⟨a1, a2, fun q hq => ?_⟩
        by_cases hqp : q = k
        · subst hqp; exact fun z => absurd z hN
        · exact a3 q (by omega)
      · exact Or.inr hv
theorem fC_in (hn : 1000000000000000000000000000000 ≤ n) {I J0 : Nat → Nat → Int} (hw : GW (gU u) I) (hT : cTb I) (v2 : Int) (r30 : Nat → Int → Int → gi_H → Option gi_H) : ∀ (m f p : Nat) (J : Nat → Nat → Int) (v1 : Int), Gn (cG I (gU u)) = p + m → m < f → Fr [66] I J → cI2 (cG I (gU u)) (cNi I) (cFi I) J → ((v1 = 0 ∧ J = J0 ∧ ∀ q, q < p → ∀ j, j < Gl (cG I (gU u)) q → clq (cG I (gU u)) (cNi I) (cFi I) J q j) ∨ (v1 = 1 ∧ cM (J0 66) 16 < cM (J 66) 16)) →
    ∃ (J' : Nat → Nat → Int) (v1' : Int), l_X3_findBehinds_44 n r30 f 64 v1 v2 (p : Int) (hp u J L) = r30 64 v1' (v2 + 1) (hp u J' L) ∧ Fr [66] I J' ∧ cI2 (cG I (gU u)) (cNi I) (cFi I) J' ∧ ((v1' = 0 ∧ J' = J0 ∧ ∀ q, q < Gn (cG I (gU u)) → ∀ j, j < Gl (cG I (gU u)) q → clq (cG I (gU u)) (cNi I) (cFi I) J' q j) ∨ (v1' = 1 ∧ cM (J0 66) 16 < cM (J' 66) 16)) := by
  have hg := GR_of hw
  have h24 := hg.1
  intro m
  induction m with
  | zero =>
    intro f p J v1 hm hf hfr hB hv
    obtain ⟨f', rfl⟩ : ∃ f', f = f' + 1 := ⟨f - 1, by omega⟩
    have hwJ := GWu_fr hfr nF66 hw
    have hgJ := cGu_fr (u := u) hfr nF66
    simp (disch := omega) only [l_X3_findBehinds_44, b_X3_findBehinds_44, b_X3_findBehinds_69, hi_F, hG_F_0, hg_F_1, hq_F_1, hg_F_2, hq_F_2, hg_F_3, hq_F_3, hg_F_4, hq_F_4, hG_F_5, hG_F_6, hG_F_7, hG_F_8, hG_F_9, hg_F_10, hq_F_10, hG_F_11, hG_F_12, hG_F_13, Option.bind_some, nm_eq, sm_inl, sm_inr, zo_0, zo_1, hi_G (gU_mem u), X4_count (gU_mem u) hwJ, hgJ, rg_ok]
    rw [if_pos (by omega)]
    refine ⟨J, v1, rfl, hfr, hB, ?_⟩
    rcases hv with ⟨a1, a2, a3⟩ | hv
    · exact Or.inl ⟨a1, a2, fun q hq => a3 q (by omega)⟩
    · exact Or.inr hv
  | succ m ih =>
    intro f p J v1 hm hf hfr hB hv
    obtain ⟨f', rfl⟩ : ∃ f', f = f' + 1 := ⟨f - 1, by omega⟩
    have hwJ := GWu_fr hfr nF66 hw
    have hgJ := cGu_fr (u := u) hfr nF66
    have hp1 : p < Gn (cG I (gU u)) := by omega
    have h5 := hg.2.2.2.1 p
    obtain ⟨J1, r, e1, f1, b1, c1⟩ := wB_l (n := n) (L := L) (J0 := J) hn hw hT hp1 (Gl (cG I (gU u)) p) n 0 J 0 (by omega) (by omega) hfr hB (Or.inl ⟨rfl, rfl, fun q hq => absurd hq (by omega)⟩)
    have e1' : f_X3_widenBehinds n 64 (p : Int) (hp u J L) = some (r, hp u J1 L) := e1
    simp (disch := omega) only [l_X3_findBehinds_44, b_X3_findBehinds_44, hi_F, hG_F_0, hg_F_1, hq_F_1, hg_F_2, hq_F_2, hg_F_3, hq_F_3, hg_F_4, hq_F_4, hG_F_5, hG_F_6, hG_F_7, hG_F_8, hG_F_9, hg_F_10, hq_F_10, hG_F_11, hG_F_12, hG_F_13, Option.bind_some, nm_eq, sm_inl, sm_inr, zo_0, zo_1, hi_G (gU_mem u), X4_count (gU_mem u) hwJ, hgJ, rg_ok, e1']
    rw [if_neg (by omega), show (p : Int) + 1 = ((p + 1 : Nat) : Int) by omega]
    rcases c1 with ⟨a1, a2, a3⟩ | ⟨a1, a2⟩
    · subst a1; subst a2
      rcases hv with ⟨d1, d2, d3⟩ | ⟨d1, d2⟩
      · rw [d1, or00]
        exact ih f' (p + 1) J1 0 (by omega) (by omega) f1 b1 (Or.inl ⟨rfl, d2, fun q hq => by
          by_cases hqp : q = p
          · subst hqp; exact a3
          · exact d3 q (by omega)⟩)
      · rw [d1, or10]
        exact ih f' (p + 1) J1 1 (by omega) (by omega) f1 b1 (Or.inr ⟨rfl, d2⟩)
    · subst a1
      have hv1 : gi_or v1 1 = 1 := by rcases hv with ⟨d1, -⟩ | ⟨d1, -⟩ <;> rw [d1] <;> first | exact or01 | exact or11
      rw [hv1]
      refine ih f' (p + 1) J1 1 (by omega) (by omega) f1 b1 (Or.inr ⟨rfl, ?_⟩)
      rcases hv with ⟨-, d2, -⟩ | ⟨-, d2⟩
      · rw [← d2]; exact a2
      · exact Nat.lt_trans d2 a2
theorem fC_out (hn : 1000000000000000000000000000000 ≤ n) {I : Nat → Nat → Int} (hw : GW (gU u) I) (hT : cTb I) : ∀ (m f rd : Nat) (J : Nat → Nat → Int), 513 ≤ cM (J 66) 16 + m → m < f → rd ≤ cM (J 66) 16 → Fr [66] I J → cI2 (cG I (gU u)) (cNi I) (cFi I) J →
    ∃ J' : Nat → Nat → Int, l_X3_findBehinds_30 n f 64 1 (rd : Int) (hp u J L) = some (hp u J' L) ∧ Fr [66] I J' ∧ cI2 (cG I (gU u)) (cNi I) (cFi I) J' ∧ ∀ q, q < Gn (cG I (gU u)) → ∀ j, j < Gl (cG I (gU u)) q → clq (cG I (gU u)) (cNi I) (cFi I) J' q j := by
  intro m
  induction m with
  | zero => intro f rd J hm; have := cM_le (J 66) 16; omega
  | succ m ih =>
    intro f rd J hm hf hrd hfr hB
    obtain ⟨f', rfl⟩ : ∃ f', f = f' + 1 := ⟨f - 1, by omega⟩
    have hM := cM_le (J 66) 16
    simp (disch := omega) only [l_X3_findBehinds_30, b_X3_findBehinds_30, Option.bind_some, nm_eq, sm_inl, sm_inr, zo_0, zo_1, rg_ok]
    rw [if_neg (by omega), if_neg (by decide)]
    obtain ⟨J1, v1, e, h1, h2, h3⟩ := fC_in (L := L) (J0 := J) hn hw hT (rd : Int) (l_X3_findBehinds_30 n f') (Gn (cG I (gU u))) n 0 J 0 (by omega) (by have := (GR_of hw).1; omega) hfr hB (Or.inl ⟨rfl, rfl, fun q hq => absurd hq (by omega)⟩)
    have e' : l_X3_findBehinds_44 n (l_X3_findBehinds_30 n f') n 64 0 (rd : Int) 0 (hp u J L) = l_X3_findBehinds_30 n f' 64 v1 ((rd : Int) + 1) (hp u J1 L) := e
    rw [e']
    rcases h3 with ⟨a1, a2, a3⟩ | ⟨a1, a2⟩
    · obtain ⟨f2, rfl⟩ : ∃ f2, f' = f2 + 1 := ⟨f' - 1, by omega⟩
      rw [a1]
      simp (disch := omega) only [l_X3_findBehinds_30, b_X3_findBehinds_30, Option.bind_some, nm_eq, sm_inl, sm_inr, zo_0, zo_1, rg_ok]
      rw [if_neg (by omega), if_pos trivial]
      exact ⟨J1, rfl, h1, h2, a3⟩
    · rw [a1, show (rd : Int) + 1 = ((rd + 1 : Nat) : Int) by omega]
      exact ih f' (rd + 1) J1 (by omega) (by omega) (by omega) h1 h2
theorem X3_findBehinds (hn : 1000000000000000000000000000000 ≤ n) {I : Nat → Nat → Int} (hw : GW (gU u) I) (hT : cTb I) :
    ∃ J : Nat → Nat → Int, f_X3_findBehinds n 64 (hp u I L) = some (hp u J L) ∧ Fr [66] I J ∧ cOk 66 16 J ∧ (∀ a, a < 16 → ∀ i, bt (J 66 a) i = true → i < 9) ∧ ls2 (cG I (gU u)) (cNi I) (cFi I) (cBe J) := by
  have hg := GR_of hw
  obtain ⟨J1, e1, f1, v1⟩ := J7_fill (u := u) (L := L) (I := I) (x := 0) (a := 66) (N := 16) hn rfl (by decide) (by decide)
  have hz : ∀ k, k < 16 → J1 66 k = 0 := fun k hk => by rw [v1 k, if_pos hk]
  have hw1 := GWu_fr f1 nF66 hw
  have hg1 := cGu_fr (u := u) f1 nF66
  have ht := hg.2.1
  have hzt := hz (Gt (cG I (gU u))) (by omega)
  have h256 : gi_or 0 256 = 256 := by decide +kernel
  have f2 : Fr [66] I (gx_u J1 66 (Gt (cG I (gU u))) (gi_or (J1 66 (Gt (cG I (gU u)))) 256)) := f1.wr (List.mem_singleton.mpr rfl)
  have hB : cI2 (cG I (gU u)) (cNi I) (cFi I) (gx_u J1 66 (Gt (cG I (gU u))) (gi_or (J1 66 (Gt (cG I (gU u)))) 256)) := by
    refine ⟨cOk.wr (fun k hk => by rw [hz k hk]; decide) (bt_ok_or _ _), fun a ha i hi => ?_, fun B' hB a t q => ?_, ?_⟩
    · rw [gu_at] at hi
      split at hi
      · rw [hzt, h256, bt_256, decide_eq_true_eq] at hi; omega
      · rw [hz a ha, bt_zero] at hi; cases hi
    · obtain ⟨ha, h9, q⟩ := q
      rw [gu_at] at q
      split at q
      · next e =>
        rw [hzt, h256, bt_256, decide_eq_true_eq] at q
        rw [e, q]; exact hB.1
      · rw [hz a ha, bt_zero] at q; cases q
    · rw [gu_at_eq rfl, hzt, h256, bt_256]; rfl
  obtain ⟨J3, e3, f3, b3, c3⟩ := fC_out (u := u) (L := L) hn hw hT 513 n 0 _ (by omega) (by omega) (by omega) f2 hB
  refine ⟨J3, ?_, f3, b3.1, b3.2.1, ⟨⟨hg.2.1 |> fun h => by omega, by decide, b3.2.2.2⟩, fun p hp k hk hs t q => c3 p hp k hk hs t q⟩, b3.2.2.1⟩
  rw [f_X3_findBehinds]
  simp only [hi_F, hG_F_0, hg_F_1, hq_F_1, hg_F_2, hq_F_2, hg_F_3, hq_F_3, hg_F_4, hq_F_4, hG_F_5, hG_F_6, hG_F_7, hG_F_8, hG_F_9, hg_F_10, hq_F_10, hG_F_11, hG_F_12, hG_F_13, Option.bind_some, nm_eq, sm_inl, sm_inr, zo_0, zo_1, e1, hi_G (gU_mem u), X4_top (gU_mem u) hw1, hg1]
  rw [X3_widen (N := 16) rfl (by decide) (by decide) (by omega) (by rw [hzt]; decide), if_neg (by rw [hzt, h256]; decide)]
  exact e3
end FC
