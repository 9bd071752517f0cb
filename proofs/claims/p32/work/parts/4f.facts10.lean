/-! ===== Facts: predictions, items, learn ===== -/
def pdF (g : GT) (N : Nat → Prop) (F B : Nat → Nat → Prop) (p i : Nat) : Prop := (i < 8 ∧ fsF g N F p 0 i) ∨ (emF g N p 0 ∧ p < Gn g ∧ B (Go g p) i)
def cPd (g : GT) (N : Nat → Prop) (F B : Nat → Nat → Prop) (J : Nat → Nat → Int) (p : Nat) : Prop := gi_ok (J 67 p) ∧ ∀ i, bt (J 67 p) i = true ↔ pdF g N F B p i
def cIt (g : GT) (N : Nat → Prop) (F : Nat → Nat → Prop) (J : Nat → Nat → Int) (p k : Nat) : Prop := J 71 (6 * p + k) = (if k < Gl g p then (Gs g p k : Int) else -1) ∧ gi_ok (J 72 (6 * p + k)) ∧ ∀ i, bt (J 72 (6 * p + k)) i = true ↔ (i < 8 ∧ fsF g N F p (k + 1) i) ∨ (i = 9 ∧ emF g N p (k + 1))
section FI
variable {u : Nat} {L : Nat → Nat → Int} {n : Nat}
theorem nF67 : 3 ∉ [67] ∧ 4 ∉ [67] ∧ 5 ∉ [67] ∧ 6 ∉ [67] ∧ 87 ∉ [67] ∧ 88 ∉ [67] ∧ 89 ∉ [67] ∧ 90 ∉ [67] := by decide
theorem nF712 : 3 ∉ [71, 72] ∧ 4 ∉ [71, 72] ∧ 5 ∉ [71, 72] ∧ 6 ∉ [71, 72] ∧ 87 ∉ [71, 72] ∧ 88 ∉ [71, 72] ∧ 89 ∉ [71, 72] ∧ 90 ∉ [71, 72] := by decide
theorem fP_l (hn : 1000000000000000000000000000000 ≤ n) {I : Nat → Nat → Int} (hw : GW (gU u) I) (hT : cTb I) (hO : cOk 66 16 I) (h9 : ∀ a, a < 16 → ∀ i, bt (I 66 a) i = true → i < 9) : ∀ (m f p : Nat) (J : Nat → Nat → Int), 24 = p + m → m < f → Fr [67] I J → (∀ q, q < p → cPd (cG I (gU u)) (cNi I) (cFi I) (cBe I) J q) →
    ∃ J' : Nat → Nat → Int, l_X3_findPredictions_2 n f 64 (p : Int) (hp u J L) = some (hp u J' L) ∧ Fr [67] I J' ∧ ∀ q, q < 24 → cPd (cG I (gU u)) (cNi I) (cFi I) (cBe I) J' q := by
  have hg := GR_of hw
  intro m
  induction m with
  | zero =>
    intro f p J hm hf hfr hB
    obtain ⟨f', rfl⟩ : ∃ f', f = f' + 1 := ⟨f - 1, by omega⟩
    simp (disch := omega) only [l_X3_findPredictions_2, b_X3_findPredictions_2, Option.bind_some, nm_eq, sm_inl, sm_inr, zo_0, zo_1, rg_ok]
    rw [if_pos (by omega)]
    exact ⟨J, rfl, hfr, fun q hq => hB q (by omega)⟩
  | succ m ih =>
    intro f p J hm hf hfr hB
    obtain ⟨f', rfl⟩ : ∃ f', f = f' + 1 := ⟨f - 1, by omega⟩
    have hwJ := GWu_fr hfr nF67 hw
    have hgJ := cGu_fr (u := u) hfr nF67
    have h65 : J 65 = I 65 := hfr 65 (by decide)
    have h66 : J 66 = I 66 := hfr 66 (by decide)
    obtain ⟨r, e1, ok1, b1⟩ := X3_beg (L := L) hn hwJ (cTb_fr h65 hT) (p := p) (k := 0) (by omega) (by omega)
    rw [hgJ, cNi_fr h65, cFi_fr h65] at b1
    have e1' : f_X3_beginnings n 64 (p : Int) 0 (hp u J L) = some r := e1
    -- what is behind the owner
    have hbe : ∃ o b : Int, f_X4_owner (gU u) (p : Int) (hp u J L) = some o ∧ f_X3_behind 64 o (hp u J L) = some b ∧ gi_ok b ∧ ∀ i, bt b i = true ↔ p < Gn (cG I (gU u)) ∧ cBe I (Go (cG I (gU u)) p) i := by
      by_cases hp1 : p < Gn (cG I (gU u))
      · have ho := hg.2.2.1 p
        have eo := X4_owner (L := L) (u := u) (gU_mem u) hwJ (p := p) (by rw [hgJ]; exact hp1)
        rw [hgJ] at eo
        refine ⟨_, _, eo, X3_behind _ ho, by rw [h66]; exact hO _ ho, fun i => ?_⟩
        rw [h66]
        exact ⟨fun q => ⟨hp1, ho, h9 _ ho i q, q⟩, fun q => q.2.2.2⟩
      · have eo := X4_ownerN (L := L) (u := u) (gU_mem u) hwJ (p := p) (by rw [hgJ]; exact hp1) (by omega)
        refine ⟨_, _, eo, X3_behindN, by decide, fun i => ?_⟩
        rw [bt_zero]
        exact ⟨fun q => (by cases q), fun q => absurd q.1 hp1⟩
    obtain ⟨o, b, eo, eb, okb, bb⟩ := hbe
    obtain ⟨r2, e2, ok2, b2⟩ := X11_behindOf r b (hp u J L) okb
    simp (disch := omega) only [l_X3_findPredictions_2, b_X3_findPredictions_2, hi_F, hG_F_0, hg_F_1, hq_F_1, hg_F_2, hq_F_2, hg_F_3, hq_F_3, hg_F_4, hq_F_4, hG_F_5, hG_F_6, hG_F_7, hG_F_8, hG_F_9, hg_F_10, hq_F_10, hG_F_11, hG_F_12, hG_F_13, ha_67, hs_67, hl_67, Option.bind_some, nm_eq, sm_inl, sm_inr, zo_0, zo_1, hi_G (gU_mem u), rg_ok, eo, eb, e1', e2]
    rw [if_neg (by omega), show (p : Int) + 1 = ((p + 1 : Nat) : Int) by omega]
    simp only [Int.toNat_natCast]
    refine ih f' (p + 1) _ (by omega) (by omega) (hfr.wr (List.mem_singleton.mpr rfl)) (fun q hq => ?_)
    by_cases e : q = p
    · subst e
      unfold cPd
      rw [gu_at_eq rfl]
      refine ⟨ok2, fun i => ?_⟩
      rw [b2 i, bb i, b1 i, b1 9]
      unfold pdF
      constructor
      · rintro (⟨q1, q2⟩ | ⟨q1, q2⟩)
        · rcases q2 with q2 | q2
          · exact Or.inl q2
          · omega
        · rcases q1 with q1 | q1
          · omega
          · exact Or.inr ⟨q1.2, q2⟩
      · rintro (q1 | ⟨q1, q2⟩)
        · exact Or.inl ⟨q1.1, Or.inl q1⟩
        · exact Or.inr ⟨Or.inr ⟨rfl, q1⟩, q2⟩
    · unfold cPd
      rw [gu_at_ne e]
      exact hB q (by omega)
theorem X3_findPredictions (hn : 1000000000000000000000000000000 ≤ n) {I : Nat → Nat → Int} (hw : GW (gU u) I) (hT : cTb I) (hO : cOk 66 16 I) (h9 : ∀ a, a < 16 → ∀ i, bt (I 66 a) i = true → i < 9) :
    ∃ J : Nat → Nat → Int, f_X3_findPredictions n 64 (hp u I L) = some (hp u J L) ∧ Fr [67] I J ∧ ∀ q, q < 24 → cPd (cG I (gU u)) (cNi I) (cFi I) (cBe I) J q :=
  fP_l hn hw hT hO h9 24 n 0 I (by omega) (by omega) Fr.rf (fun q hq => absurd hq (by omega))
/-- items by now -/
def cIn (g : GT) (N : Nat → Prop) (F : Nat → Nat → Prop) (J : Nat → Nat → Int) (p k : Nat) : Prop := (∀ p' k', k' < 5 → (p' < p ∨ (p' = p ∧ k' < k)) → cIt g N F J p' k') ∧ ∀ x, x < 150 → (x % 6 = 5 ∨ 144 ≤ x) → J 71 x = -1 ∧ J 72 x = 0
theorem fT_in (hn : 1000000000000000000000000000000 ≤ n) {I : Nat → Nat → Int} (hw : GW (gU u) I) (hT : cTb I) (r18 : Nat → Int → gi_H → Option gi_H) {p : Nat} (hp1 : p < 24) : ∀ (m f k : Nat) (J : Nat → Nat → Int), 5 = k + m → m < f → Fr [71, 72] I J → cIn (cG I (gU u)) (cNi I) (cFi I) J p k →
    ∃ J' : Nat → Nat → Int, l_X3_findItems_26 n r18 f 64 (p : Int) (k : Int) (hp u J L) = r18 64 ((p + 1 : Nat) : Int) (hp u J' L) ∧ Fr [71, 72] I J' ∧ cIn (cG I (gU u)) (cNi I) (cFi I) J' (p + 1) 0 := by
  intro m
  induction m with
  | zero =>
    intro f k J hm hf hfr hB
    obtain ⟨f', rfl⟩ : ∃ f', f = f' + 1 := ⟨f - 1, by omega⟩
    simp (disch := omega) only [l_X3_findItems_26, b_X3_findItems_26, b_X3_findItems_76, Option.bind_some, nm_eq, sm_inl, sm_inr, zo_0, zo_1, rg_ok]
    rw [if_pos (by omega), show (p : Int) + 1 = ((p + 1 : Nat) : Int) by omega]
    exact ⟨J, rfl, hfr, fun p' k' h1 h2 => hB.1 p' k' h1 (by omega), hB.2⟩
  | succ m ih =>
    intro f k J hm hf hfr hB
    obtain ⟨f', rfl⟩ : ∃ f', f = f' + 1 := ⟨f - 1, by omega⟩
    have hwJ := GWu_fr hfr nF712 hw
    have hgJ := cGu_fr (u := u) hfr nF712
    have h65 : J 65 = I 65 := hfr 65 (by decide)
    have hsy : f_X4_symbol (gU u) (p : Int) (k : Int) (hp u J L) = some (if k < Gl (cG I (gU u)) p then (Gs (cG I (gU u)) p k : Int) else -1) := by
      by_cases q : k < Gl (cG I (gU u)) p
      · have := X4_symbol (L := L) (u := u) (gU_mem u) hwJ (p := p) (k := k) (by rw [hgJ]; exact q)
        rw [if_pos q, this, hgJ]
      · rw [if_neg q, X4_symbolN (gU_mem u) hwJ (by rw [hgJ]; exact q) (by omega) (by omega)]
    have hfr1 : Fr [71, 72] I (gx_u J 71 (6 * p + k) (if k < Gl (cG I (gU u)) p then (Gs (cG I (gU u)) p k : Int) else -1)) := hfr.wr (by decide)
    have hwJ1 := GWu_fr hfr1 nF712 hw
    have hgJ1 := cGu_fr (u := u) hfr1 nF712
    have h651 : (gx_u J 71 (6 * p + k) (if k < Gl (cG I (gU u)) p then (Gs (cG I (gU u)) p k : Int) else -1)) 65 = I 65 := hfr1 65 (by decide)
    obtain ⟨r, e1, ok1, b1⟩ := X3_beg (L := L) hn hwJ1 (cTb_fr h651 hT) (p := p) (k := k + 1) (by omega) (by omega)
    rw [hgJ1, cNi_fr h651, cFi_fr h651] at b1
    have ek : (k : Int) + 1 = ((k + 1 : Nat) : Int) := by omega
    have ei : (p : Int) * 6 + (k : Int) = ((6 * p + k : Nat) : Int) := by omega
    simp (disch := omega) only [l_X3_findItems_26, b_X3_findItems_26, hi_F, hG_F_0, hg_F_1, hq_F_1, hg_F_2, hq_F_2, hg_F_3, hq_F_3, hg_F_4, hq_F_4, hG_F_5, hG_F_6, hG_F_7, hG_F_8, hG_F_9, hg_F_10, hq_F_10, hG_F_11, hG_F_12, hG_F_13, ha_71, hs_71, hl_71, ha_72, hs_72, hl_72, Option.bind_some, nm_eq, sm_inl, sm_inr, zo_0, zo_1, hi_G (gU_mem u), rg_ok, hsy, ek, ei, Int.toNat_natCast, e1]
    rw [if_neg (by omega)]
    refine ih f' (k + 1) _ (by omega) (by omega) (hfr1.wr (by decide)) ⟨fun p' k' h1 h2 => ?_, fun x hx h => ?_⟩
    · unfold cIt
      by_cases e : p' = p ∧ k' = k
      · obtain ⟨rfl, rfl⟩ := e
        refine ⟨?_, ?_, ?_⟩
        · rw [gu_ne (by decide), gu_at_eq rfl]
        · rw [gu_at_eq rfl]; exact ok1
        · rw [gu_at_eq rfl]; exact b1
      · rw [gu_ne (by decide), gu_at_ne (by omega), gu_at_ne (by omega)]
        exact hB.1 p' k' h1 (by omega)
    · rw [gu_ne (by decide), gu_at_ne (by omega), gu_at_ne (by omega)]
      exact hB.2 x hx h
theorem fT_out (hn : 1000000000000000000000000000000 ≤ n) {I : Nat → Nat → Int} (hw : GW (gU u) I) (hT : cTb I) : ∀ (m f p : Nat) (J : Nat → Nat → Int), 24 = p + m → m < f → Fr [71, 72] I J → cIn (cG I (gU u)) (cNi I) (cFi I) J p 0 →
    ∃ J' : Nat → Nat → Int, l_X3_findItems_18 n f 64 (p : Int) (hp u J L) = b_X3_findItems_82 n 64 (hp u J' L) ∧ Fr [71, 72] I J' ∧ cIn (cG I (gU u)) (cNi I) (cFi I) J' 24 0 := by
  intro m
  induction m with
  | zero =>
    intro f p J hm hf hfr hB
    obtain ⟨f', rfl⟩ : ∃ f', f = f' + 1 := ⟨f - 1, by omega⟩
    simp (disch := omega) only [l_X3_findItems_18, b_X3_findItems_18, Option.bind_some, nm_eq, sm_inl, sm_inr, zo_0, zo_1, rg_ok]
    rw [if_pos (by omega)]
    have : p = 24 := by omega
    subst this
    exact ⟨J, rfl, hfr, hB⟩
  | succ m ih =>
    intro f p J hm hf hfr hB
    obtain ⟨f', rfl⟩ : ∃ f', f = f' + 1 := ⟨f - 1, by omega⟩
    simp (disch := omega) only [l_X3_findItems_18, b_X3_findItems_18, Option.bind_some, nm_eq, sm_inl, sm_inr, zo_0, zo_1, rg_ok]
    rw [if_neg (by omega)]
    obtain ⟨J1, e1, f1, b1⟩ := fT_in (L := L) hn hw hT (l_X3_findItems_18 n f') (p := p) (by omega) 5 n 0 J (by omega) (by omega) hfr hB
    have e1' : l_X3_findItems_26 n (l_X3_findItems_18 n f') n 64 (p : Int) 0 (hp u J L) = _ := e1
    rw [e1']
    exact ih f' (p + 1) J1 (by omega) (by omega) f1 b1
/-- the items' fronts and rests -/
def cItm (g : GT) (N : Nat → Prop) (F : Nat → Nat → Prop) (J : Nat → Nat → Int) : Prop := (∀ p k, p < 24 → k < 5 → cIt g N F J p k) ∧ (∀ x, x < 150 → (x % 6 = 5 ∨ 144 < x) → J 71 x = -1 ∧ J 72 x = 0) ∧ J 71 144 = ((16 + Gt g : Nat) : Int) ∧ J 72 144 = 512
theorem X3_findItems (hn : 1000000000000000000000000000000 ≤ n) {I : Nat → Nat → Int} (hw : GW (gU u) I) (hT : cTb I) :
    ∃ J : Nat → Nat → Int, f_X3_findItems n 64 (hp u I L) = some (hp u J L) ∧ Fr [71, 72] I J ∧ cItm (cG I (gU u)) (cNi I) (cFi I) J := by
  obtain ⟨J1, e1, f1, v1⟩ := J7_fill (u := u) (L := L) (I := I) (x := -1) (a := 71) (N := 150) hn rfl (by decide) (by decide)
  obtain ⟨J2, e2, f2, v2⟩ := J7_fill (u := u) (L := L) (I := J1) (x := 0) (a := 72) (N := 150) hn rfl (by decide) (by decide)
  have f12 : Fr [71, 72] I J2 := (f1.up (by simp)).tr (f2.up (by simp))
  obtain ⟨J3, e3, f3, b3⟩ := fT_out (u := u) (L := L) hn hw hT 24 n 0 J2 (by omega) (by omega) f12 ⟨fun p' k' h1 h2 => by omega, fun x hx _ => ⟨by rw [f2 71 (by decide), v1 x, if_pos hx], by rw [v2 x, if_pos hx]⟩⟩
  have hw3 := GWu_fr f3 nF712 hw
  have hg3 := cGu_fr (u := u) f3 nF712
  have et : (16 : Int) + ((Gt (cG I (gU u)) : Nat) : Int) = ((16 + Gt (cG I (gU u)) : Nat) : Int) := by omega
  refine ⟨gx_u (gx_u J3 71 144 ((16 + Gt (cG I (gU u)) : Nat) : Int)) 72 144 512, ?_, (f3.wr (by decide)).wr (by decide), fun p k hp hk => ?_, fun x hx h => ?_, ?_, ?_⟩
  · rw [f_X3_findItems]
    simp only [hi_F, hG_F_0, hg_F_1, hq_F_1, hg_F_2, hq_F_2, hg_F_3, hq_F_3, hg_F_4, hq_F_4, hG_F_5, hG_F_6, hG_F_7, hG_F_8, hG_F_9, hg_F_10, hq_F_10, hG_F_11, hG_F_12, hG_F_13, Option.bind_some, nm_eq, sm_inl, sm_inr, zo_0, zo_1, e1, e2]
    refine e3.trans ?_
    simp (disch := omega) only [b_X3_findItems_82, hi_F, hG_F_0, hg_F_1, hq_F_1, hg_F_2, hq_F_2, hg_F_3, hq_F_3, hg_F_4, hq_F_4, hG_F_5, hG_F_6, hG_F_7, hG_F_8, hG_F_9, hg_F_10, hq_F_10, hG_F_11, hG_F_12, hG_F_13, ha_71, hs_71, hl_71, ha_72, hs_72, hl_72, Option.bind_some, nm_eq, sm_inl, sm_inr, zo_0, zo_1, hi_G (gU_mem u), X4_top (gU_mem u) hw3, hg3, et]
    rfl
  · have h := b3.1 p k hk (by omega)
    unfold cIt at *
    rw [gu_ne (by decide), gu_at_ne (by omega), gu_at_ne (by omega)]
    exact h
  · rw [gu_ne (by decide), gu_at_ne (by omega), gu_at_ne (by omega)]
    exact b3.2 x hx (by omega)
  · rw [gu_ne (by decide), gu_at_eq rfl]
  · rw [gu_at_eq rfl]
end FI
