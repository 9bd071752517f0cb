/-! ===== the class's reader: helpers, release ===== -/
def uo (g : GT) (p i : Nat) : Prop := Go g p = i ∨ ∃ k, k < Gl g p ∧ Gs g p k = 16 + i
theorem pU_iff {ps : List (Nat × List Nat)} {h t : Nat} : pU ps h = true ↔ ∃ p, p < ps.length ∧ uo (gtp ps t) p h := by
  unfold pU
  rw [List.any_eq_true]
  constructor
  · rintro ⟨x, hx, hq⟩
    obtain ⟨p, hp, rfl⟩ := List.mem_iff_getElem.mp hx
    have e : ps.getD p (0, []) = ps[p] := by simp [List.getD_eq_getElem?_getD, hp]
    refine ⟨p, hp, ?_⟩
    unfold uo gtp Go Gl Gs
    dsimp only
    rw [e]
    simp only [Bool.or_eq_true, beq_iff_eq, List.contains_iff_mem] at hq
    rcases hq with hq | hq
    · exact Or.inl hq
    · obtain ⟨k, hk, hk2⟩ := List.mem_iff_getElem.mp hq
      exact Or.inr ⟨k, hk, by simp [List.getD_eq_getElem?_getD, hk, hk2]⟩
  · rintro ⟨p, hp, hq⟩
    have e : ps.getD p (0, []) = ps[p] := by simp [List.getD_eq_getElem?_getD, hp]
    refine ⟨ps[p], List.getElem_mem hp, ?_⟩
    unfold uo gtp Go Gl Gs at hq
    dsimp only at hq
    rw [e] at hq
    simp only [Bool.or_eq_true, beq_iff_eq, List.contains_iff_mem]
    rcases hq with hq | ⟨k, hk, hq⟩
    · exact Or.inl hq
    · refine Or.inr ?_
      have : ps[p].2.getD k 0 = ps[p].2[k] := by simp [List.getD_eq_getElem?_getD, hk]
      rw [← hq, this]; exact List.getElem_mem hk
def PX (a b : List (Nat × List Nat)) : Prop := ∃ t, b = a ++ t
theorem PX.rf {a : List (Nat × List Nat)} : PX a a := ⟨[], by simp⟩
theorem PX.tr {a b c : List (Nat × List Nat)} (h : PX a b) (q : PX b c) : PX a c := by
  obtain ⟨t, rfl⟩ := h; obtain ⟨t', rfl⟩ := q; exact ⟨t ++ t', by simp⟩
theorem PX.ap {a b : List (Nat × List Nat)} (h : PX a b) (c : List (Nat × List Nat)) : PX a (b ++ c) := h.tr ⟨c, rfl⟩
section GB
variable {u : Nat} {n : Nat} {L : Nat → Nat → Int}
theorem X4_freeHelper (hn : 1000000000000000000000000000000 ≤ n) {v : Nat} (hv : v ∈ [3, 87]) {J : Nat → Nat → Int} {ps : List (Nat × List Nat)} (h : CP v J ps) : f_X4_freeHelper n v (hp u J L) = some (match fH ps with | none => -1 | some x => (x : Int)) := by
  have hw := h.1
  have hg := GR_of hw
  have h24 := hg.1
  have hcn := cG_n hw
  have egt := h.gt
  -- the search
  have fin : ∀ y : Int, (∀ i, i < 16 → (bt y i = true ↔ pU ps i = true)) → ∀ (m f k : Nat), 16 = k + m → m < f → l_X4_freeHelper_74 n f y (k : Int) (hp u J L) = some (match fHs ps m k with | none => -1 | some x => (x : Int)) := by
    intro y hy m
    induction m with
    | zero =>
      intro f k hm hf
      obtain ⟨f', rfl⟩ : ∃ f', f = f' + 1 := ⟨f - 1, by omega⟩
      simp (disch := omega) only [l_X4_freeHelper_74, b_X4_freeHelper_74, Option.bind_some, nm_eq, sm_inl, sm_inr, zo_0, zo_1, rg_ok, if_pos, if_neg, if_true, if_false, Int.toNat_natCast, fHs]
    | succ m ih =>
      intro f k hm hf
      obtain ⟨f', rfl⟩ : ∃ f', f = f' + 1 := ⟨f - 1, by omega⟩
      have ek : (k : Int) + 1 = ((k + 1 : Nat) : Int) := by omega
      have hb := hy k (by omega)
      have e0 := X11_has y k (by omega) (hp u J L)
      by_cases q : pU ps k = true
      · rw [if_pos (hb.mpr q)] at e0
        simp (disch := omega) only [l_X4_freeHelper_74, b_X4_freeHelper_74, Option.bind_some, nm_eq, sm_inl, sm_inr, zo_0, zo_1, rg_ok, if_pos, if_neg, if_true, if_false, Int.toNat_natCast, e0, ek, fHs]
        exact ih f' (k + 1) (by omega) (by omega)
      · rw [if_neg (mt hb.mp q)] at e0
        simp (disch := omega) only [l_X4_freeHelper_74, b_X4_freeHelper_74, Option.bind_some, nm_eq, sm_inl, sm_inr, zo_0, zo_1, rg_ok, if_pos, if_neg, if_true, if_false, Int.toNat_natCast, e0, ek, fHs]
  -- one production
  have inn : ∀ (r4 : Nat → Int → Int → gi_H → Option Int) (p : Nat), p < Gn (cG J v) → zLP (Gl (cG J v) p) (fun f k (y : Int) => l_X4_freeHelper_24 n r4 f v y (p : Int) (k : Int) (hp u J L))
      (fun k y => ∀ i, bt y i = true ↔ (∃ p', p' < p ∧ uo (cG J v) p' i) ∨ Go (cG J v) p = i ∨ ∃ k', k' < k ∧ Gs (cG J v) p k' = 16 + i)
      (fun r => ∃ y, r = r4 v y ((p + 1 : Nat) : Int) (hp u J L) ∧ ∀ i, bt y i = true ↔ ∃ p', p' < p + 1 ∧ uo (cG J v) p' i) := by
    intro r4 p hp1
    have h5 := hg.2.2.2.1 p
    refine zlp ?_ ?_
    · rintro f k y hk hy
      have hs := hg.2.2.2.2.2 p k hk
      have ek : (k : Int) + 1 = ((k + 1 : Nat) : Int) := by omega
      right
      rcases hs with hs | hs
      · refine ⟨y, ?_, fun i => (hy i).trans ⟨fun q => q.elim Or.inl (fun z => z.elim (fun z => Or.inr (Or.inl z)) (fun ⟨k', z1, z2⟩ => Or.inr (Or.inr ⟨k', by omega, z2⟩))), fun q => q.elim Or.inl (fun z => z.elim (fun z => Or.inr (Or.inl z)) (fun ⟨k', z1, z2⟩ => ?_))⟩⟩
        · simp (disch := omega) only [l_X4_freeHelper_24, b_X4_freeHelper_24, b_X4_freeHelper_59, hi_G hv, Option.bind_some, nm_eq, sm_inl, sm_inr, zo_0, zo_1, rg_ok, if_pos, if_neg, if_true, if_false, Int.toNat_natCast, X4_length hv hw, X4_symbol hv hw hk, X11_isN0, ek]
        · by_cases e : k' = k
          · rw [e] at z2; omega
          · exact Or.inr (Or.inr ⟨k', by omega, z2⟩)
      · have e16 : ((Gs (cG J v) p k : Nat) : Int) - 16 = ((Gs (cG J v) p k - 16 : Nat) : Int) := by omega
        refine ⟨gi_or y (gi_shl 1 ((Gs (cG J v) p k - 16 : Nat) : Int)), ?_, fun i => ?_⟩
        · simp (disch := omega) only [l_X4_freeHelper_24, b_X4_freeHelper_24, b_X4_freeHelper_59, hi_G hv, Option.bind_some, nm_eq, sm_inl, sm_inr, zo_0, zo_1, rg_ok, if_pos, if_neg, if_true, if_false, Int.toNat_natCast, X4_length hv hw, X4_symbol hv hw hk, X11_isN1, ek, e16]
        · rw [bt_or, Bool.or_eq_true, hy i, bt_shl1 (by omega), decide_eq_true_eq]
          constructor
          · rintro ((z | z | ⟨k', z1, z2⟩) | z)
            · exact Or.inl z
            · exact Or.inr (Or.inl z)
            · exact Or.inr (Or.inr ⟨k', by omega, z2⟩)
            · exact Or.inr (Or.inr ⟨k, by omega, by omega⟩)
          · rintro (z | z | ⟨k', z1, z2⟩)
            · exact Or.inl (Or.inl z)
            · exact Or.inl (Or.inr (Or.inl z))
            · by_cases e : k' = k
              · rw [e] at z2; exact Or.inr (by omega)
              · exact Or.inl (Or.inr (Or.inr ⟨k', by omega, z2⟩))
    · rintro f y hy
      refine ⟨y, ?_, fun i => (hy i).trans ?_⟩
      · simp (disch := omega) only [l_X4_freeHelper_24, b_X4_freeHelper_24, b_X4_freeHelper_65, hi_G hv, Option.bind_some, nm_eq, sm_inl, sm_inr, zo_0, zo_1, rg_ok, if_pos, if_neg, if_true, if_false, Int.toNat_natCast, X4_length hv hw]
        rw [show (p : Int) + 1 = ((p + 1 : Nat) : Int) by omega]
      · constructor
        · rintro (⟨p', z1, z2⟩ | z | ⟨k', z1, z2⟩)
          · exact ⟨p', by omega, z2⟩
          · exact ⟨p, by omega, Or.inl z⟩
          · exact ⟨p, by omega, Or.inr ⟨k', z1, z2⟩⟩
        · rintro ⟨p', z1, z2⟩
          by_cases e : p' = p
          · subst e
            rcases z2 with z2 | ⟨k', z3, z4⟩
            · exact Or.inr (Or.inl z2)
            · exact Or.inr (Or.inr ⟨k', z3, z4⟩)
          · exact Or.inl ⟨p', by omega, z2⟩
  suffices key : zLP (Gn (cG J v)) (fun f p (y : Int) => l_X4_freeHelper_4 n f v y (p : Int) (hp u J L)) (fun p y => ∀ i, bt y i = true ↔ ∃ p', p' < p ∧ uo (cG J v) p' i) (fun r => r = some (match fH ps with | none => -1 | some x => (x : Int))) by
    exact key (Gn (cG J v)) n 0 0 (by omega) (by omega) (fun i => by rw [bt_zero]; exact ⟨fun q => absurd q (by decide), fun ⟨p', z, _⟩ => absurd z (by omega)⟩)
  refine zlp ?_ ?_
  · rintro f p y hp1 hy
    right
    have ho := hg.2.2.1 p
    obtain ⟨y', e, h'⟩ := inn (l_X4_freeHelper_4 n f) p hp1 (Gl (cG J v) p) n 0 (gi_or y (gi_shl 1 ((Go (cG J v) p : Nat) : Int))) (by omega) (by have := hg.2.2.2.1 p; omega) (fun i => by
      rw [bt_or, Bool.or_eq_true, hy i, bt_shl1 (by omega), decide_eq_true_eq]
      constructor
      · rintro (z | z)
        · exact Or.inl z
        · exact Or.inr (Or.inl z.symm)
      · rintro (z | z | ⟨k', z1, z2⟩)
        · exact Or.inl z
        · exact Or.inr z.symm
        · omega)
    have e' : l_X4_freeHelper_24 n (l_X4_freeHelper_4 n f) n v (gi_or y (gi_shl 1 ((Go (cG J v) p : Nat) : Int))) (p : Int) 0 (hp u J L) = l_X4_freeHelper_4 n f v y' ((p + 1 : Nat) : Int) (hp u J L) := e
    refine ⟨y', ?_, h'⟩
    simp (disch := omega) only [l_X4_freeHelper_4, b_X4_freeHelper_4, hi_G hv, hG_G_0 hv, hG_G_1 hv, hG_G_2 hv, hg_G_3 hv, hq_G_3 hv, hG_G_4 hv, hG_G_5 hv, hg_G_6 hv, hq_G_6 hv, hg_G_7 hv, hq_G_7 hv, hG_G_8 hv, hG_G_9 hv, ha_G_1 hv, hs_G_1 hv, hl_G_1 hv, ha_G_2 hv, hs_G_2 hv, hl_G_2 hv, ha_G_3 hv, hs_G_3 hv, hl_G_3 hv, ha_G_4 hv, hl_G_4 hv, ha_G_5 hv, hs_G_5 hv, hl_G_5 hv, Option.bind_some, nm_eq, sm_inl, sm_inr, zo_0, zo_1, rg_ok, if_pos, if_neg, if_true, if_false, Int.toNat_natCast, X4_owner hv hw hp1, ← hcn]
    exact e'
  · rintro f y hy
    have e := fin y (fun i hi => by rw [hy i, pU_iff (t := (J v 7).toNat), ← egt]; rw [show Gn (cG J v) = ps.length by rw [egt]; rfl]) 8 n 8 (by omega) (by omega)
    have e' : l_X4_freeHelper_74 n n y 8 (hp u J L) = some (match fH ps with | none => -1 | some x => (x : Int)) := e
    simp (disch := omega) only [l_X4_freeHelper_4, b_X4_freeHelper_4, b_X4_freeHelper_71, hi_G hv, hG_G_0 hv, hG_G_1 hv, hG_G_2 hv, hg_G_3 hv, hq_G_3 hv, hG_G_4 hv, hG_G_5 hv, hg_G_6 hv, hq_G_6 hv, hg_G_7 hv, hq_G_7 hv, hG_G_8 hv, hG_G_9 hv, ha_G_1 hv, hs_G_1 hv, hl_G_1 hv, ha_G_2 hv, hs_G_2 hv, hl_G_2 hv, ha_G_3 hv, hs_G_3 hv, hl_G_3 hv, ha_G_4 hv, hl_G_4 hv, ha_G_5 hv, hs_G_5 hv, hl_G_5 hv, Option.bind_some, nm_eq, sm_inl, sm_inr, zo_0, zo_1, rg_ok, if_pos, if_neg, if_true, if_false, Int.toNat_natCast, ← hcn, e']
theorem fH_rg {ps : List (Nat × List Nat)} {x : Nat} (h : fH ps = some x) : 8 ≤ x ∧ x < 16 := by
  have key : ∀ (m k : Nat), 8 ≤ k → k + m = 16 → fHs ps m k = some x → 8 ≤ x ∧ x < 16 := by
    intro m
    induction m with
    | zero => intro k _ _ q; exact absurd q (by simp [fHs])
    | succ m ih =>
      intro k h1 h2 q
      unfold fHs at q
      split at q
      · exact ih (k + 1) (by omega) (by omega) q
      · simp only [Option.some.injEq] at q; omega
  exact key 8 8 (by omega) (by omega) h
theorem r8 {v : Nat} (hv : v ∈ [3, 87]) : v + 8 ∈ [11, 95] := by
  rcases gG4 hv with rfl | rfl <;> decide
/-- the reader's row -/
def CR (v : Nat) (J : Nat → Nat → Int) (r : Nat → Int) (H : Nat) : Prop := J (v + 8) 1 = (H : Int) ∧ H ≤ 24 ∧ ∀ i, i < H → J (v + 9) i = r i
theorem CR.fr {v : Nat} {I J : Nat → Nat → Int} {r : Nat → Int} {H : Nat} (h : CR v I r H) (f : FC v I J) : CR v J r H := by
  have e1 : J (v + 8) = I (v + 8) := f.1 _ (by simp)
  have e2 : J (v + 9) = I (v + 9) := f.1 _ (by simp)
  unfold CR; rw [e1, e2]; exact h
theorem X7_push {v : Nat} (hv : v ∈ [3, 87]) {J : Nat → Nat → Int} {r : Nat → Int} {H : Nat} (h : CR v J r H) (hH : H < 24) (x : Int) : ∃ J', f_X7_push (v + 8) x (hp u J L) = some (1, hp u J' L) ∧ Fr [v + 8, v + 9] J J' ∧ CR v J' (zup r H x) (H + 1) := by
  have hr := r8 hv
  obtain ⟨h1, h2, h3⟩ := h
  have e1 : gx_u J (v + 8 + 1) H x (v + 8) 1 = (H : Int) := by rw [gu_ne (by omega)]; exact h1
  refine ⟨gx_u (gx_u J (v + 8 + 1) H x) (v + 8) 1 ((H : Int) + 1), ?_, (Fr.rf.wr (by simp)).wr (by simp), ?_, by omega, fun i hi => ?_⟩
  · simp (disch := omega) only [f_X7_push, hi_R hr, hG_R_0 hr, hg_R_1 hr, hq_R_1 hr, ha_R_1 hr, hs_R_1 hr, hl_R_1 hr, Option.bind_some, nm_eq, sm_inl, sm_inr, zo_0, zo_1, rg_ok, if_pos, if_neg, if_true, if_false, Int.toNat_natCast, h1, e1]
  · rw [gu_same]; omega
  · rw [gu_ne (by omega)]
    by_cases e : i = H
    · rw [e, zup_eq]; exact gu_same _ _ _ _
    · rw [zup_ne e]
      show gx_u J (v + 9) H x (v + 9) i = r i
      rw [gu_at_ne e]; exact h3 i (by omega)
def sgd (x : Int) : Prop := (0 ≤ x ∧ x < 8) ∨ (16 ≤ x ∧ x < 32)
theorem X7_release (hn : 1000000000000000000000000000000 ≤ n) {v : Nat} (hv : v ∈ [3, 87]) {J0 : Nat → Nat → Int} {ps0 : List (Nat × List Nat)} (h : CP v J0 ps0) {r : Nat → Int} {H : Nat} (hR : CR v J0 r H) {a o : Nat} (ha : a ≤ H) (hs : ∀ i, a ≤ i → i < H → r i = -1 ∨ sgd (r i)) (ho : o < 16) :
    (∃ ps' J', aa o r (H - a) ps0 a a = some ps' ∧ f_X7_release n (v + 8) v (o : Int) (a : Int) (hp u J0 L) = some (1, hp u J' L) ∧ FC v J0 J' ∧ CP v J' ps') ∨
    (aa o r (H - a) ps0 a a = none ∧ ∃ J' psx, f_X7_release n (v + 8) v (o : Int) (a : Int) (hp u J0 L) = some (0, hp u J' L) ∧ FC v J0 J' ∧ PX ps0 psx ∧ CP v J' psx) := by
  have hr := r8 hv
  have hH := hR.2.1
  suffices key : ∀ R, zLP H (fun f k (s : Int × (Nat → Nat → Int)) => l_X7_release_10 n f (v + 8) v (o : Int) s.1 (k : Int) (hp u s.2 L))
      (fun k s => FC v J0 s.2 ∧ ((s.1 = 1 ∧ ∃ psc b, PX ps0 psc ∧ psc.length < 24 ∧ a ≤ b ∧ b ≤ k ∧ k - b ≤ 5 ∧ CP v s.2 (psc ++ [(o, ch r b k)]) ∧ aa o r (H - k) psc b k = R) ∨ (s.1 = 0 ∧ R = none ∧ ∃ psx, PX ps0 psx ∧ CP v s.2 psx)))
      (fun res => (∃ ps' J', R = some ps' ∧ res = some (1, hp u J' L) ∧ FC v J0 J' ∧ CP v J' ps') ∨ (R = none ∧ ∃ J' psx, res = some (0, hp u J' L) ∧ FC v J0 J' ∧ PX ps0 psx ∧ CP v J' psx)) by
    rcases X4_open (u := u) (L := L) hv h ho with ⟨q1, q2⟩ | ⟨q1, J1, q2, q3, q4⟩
    · have e := key (aa o r (H - a) ps0 a a) (H - a) n a (0, J0) (by omega) (by omega) ⟨FC.rf, Or.inr ⟨rfl, aa_full _ _ _ _ q1, ps0, PX.rf, h⟩⟩
      have e2 : f_X7_release n (v + 8) v (o : Int) (a : Int) (hp u J0 L) = l_X7_release_10 n n (v + 8) v (o : Int) 0 (a : Int) (hp u J0 L) := by
        simp only [f_X7_release, hi_G hv, q2, Option.bind_some]
      rw [e2]; exact e
    · have e := key (aa o r (H - a) ps0 a a) (H - a) n a (1, J1) (by omega) (by omega) ⟨q4, Or.inl ⟨rfl, ps0, a, PX.rf, q1, by omega, by omega, by omega, by rw [ch_0]; exact q3, rfl⟩⟩
      have e2 : f_X7_release n (v + 8) v (o : Int) (a : Int) (hp u J0 L) = l_X7_release_10 n n (v + 8) v (o : Int) 1 (a : Int) (hp u J1 L) := by
        simp only [f_X7_release, hi_G hv, q2, Option.bind_some]
      rw [e2]; exact e
  intro R
  refine zlp ?_ ?_
  · rintro f k ⟨v4, J⟩ hk ⟨hF, hc⟩
    dsimp only at hF hc ⊢
    have hRJ := hR.fr hF
    have g1 := hRJ.1
    have g3 := hRJ.2.2 k hk
    have ek : (k : Int) + 1 = ((k + 1 : Nat) : Int) := by omega
    have g3' : J (v + 8 + 1) k = r k := g3
    rcases hc with ⟨c1, psc, b, c2, c3, c4, c5, c6, c7, c8⟩ | ⟨c1, c2, psx, c3, c4⟩
    · right
      obtain ⟨m, hm⟩ : ∃ m, H - k = m + 1 := ⟨H - k - 1, by omega⟩
      have hm' : H - (k + 1) = m := by omega
      rw [hm] at c8
      have c8' : (if r k = -1 then (match ad psc o r b k with | none => none | some ps' => aa o r m ps' (k + 1) (k + 1)) else aa o r m psc b (k + 1)) = R := c8
      rcases hs k (by omega) hk with hr1 | hr1
      · rw [if_pos hr1] at c8'
        have ead : ad psc o r b k = some (psc ++ [(o, ch r b k)]) := if_pos ⟨c3, c6⟩
        rw [ead] at c8'
        dsimp only at c8'
        rcases X4_open (u := u) (L := L) hv c7 ho with ⟨q1, q2⟩ | ⟨q1, J1, q2, q3, q4⟩
        · refine ⟨(0, J), ?_, hF, Or.inr ⟨rfl, ?_, _, c2.ap _, c7⟩⟩
          · simp (disch := omega) only [l_X7_release_10, b_X7_release_10, b_X7_release_64, hi_R hr, hG_R_0 hr, hg_R_1 hr, hq_R_1 hr, ha_R_1 hr, hs_R_1 hr, hl_R_1 hr, Option.bind_some, nm_eq, sm_inl, sm_inr, zo_0, zo_1, rg_ok, if_pos, if_neg, if_true, if_false, Int.toNat_natCast, hi_G hv, g1, g3', c1, hr1, q2, ek]
          · rw [← c8', aa_full _ _ _ _ q1]
        · refine ⟨(1, J1), ?_, hF.tr q4, Or.inl ⟨rfl, _, k + 1, c2.ap _, q1, by omega, Nat.le_refl _, by omega, by rw [ch_0]; exact q3, by rw [hm']; exact c8'⟩⟩
          simp (disch := omega) only [l_X7_release_10, b_X7_release_10, b_X7_release_64, hi_R hr, hG_R_0 hr, hg_R_1 hr, hq_R_1 hr, ha_R_1 hr, hs_R_1 hr, hl_R_1 hr, Option.bind_some, nm_eq, sm_inl, sm_inr, zo_0, zo_1, rg_ok, if_pos, if_neg, if_true, if_false, Int.toNat_natCast, hi_G hv, g1, g3', c1, hr1, q2, ek]
      · have hr2 : r k ≠ -1 := by unfold sgd at hr1; omega
        rw [if_neg hr2] at c8'
        have hx : ((r k).toNat < 8 ∨ (16 ≤ (r k).toNat ∧ (r k).toNat < 32)) ∧ (((r k).toNat : Nat) : Int) = r k := by unfold sgd at hr1; omega
        rcases X4_extend (u := u) (L := L) hv c7 hx.1 with ⟨q1, q2⟩ | ⟨q1, J1, q2, q3, q4⟩
        · rw [hx.2] at q2
          rw [ch_len] at q1
          refine ⟨(0, J), ?_, hF, Or.inr ⟨rfl, ?_, _, c2.ap _, c7⟩⟩
          · simp (disch := (unfold sgd at hr1; omega)) only [l_X7_release_10, b_X7_release_10, b_X7_release_64, hi_R hr, hG_R_0 hr, hg_R_1 hr, hq_R_1 hr, ha_R_1 hr, hs_R_1 hr, hl_R_1 hr, Option.bind_some, nm_eq, sm_inl, sm_inr, zo_0, zo_1, rg_ok, if_pos, if_neg, if_true, if_false, Int.toNat_natCast, hi_G hv, g1, g3', c1, q2, ek]
          · rw [← c8', aa_long _ _ _ _ (by omega)]
        · rw [hx.2] at q2
          rw [ch_len] at q1
          refine ⟨(1, J1), ?_, hF.tr q4, Or.inl ⟨rfl, psc, b, c2, c3, by omega, by omega, by omega, by rw [ch_s (by omega)]; exact q3, by rw [hm']; exact c8'⟩⟩
          simp (disch := (unfold sgd at hr1; omega)) only [l_X7_release_10, b_X7_release_10, b_X7_release_64, hi_R hr, hG_R_0 hr, hg_R_1 hr, hq_R_1 hr, ha_R_1 hr, hs_R_1 hr, hl_R_1 hr, Option.bind_some, nm_eq, sm_inl, sm_inr, zo_0, zo_1, rg_ok, if_pos, if_neg, if_true, if_false, Int.toNat_natCast, hi_G hv, g1, g3', c1, q2, ek]
    · left
      refine Or.inr ⟨c2, J, psx, ?_, hF, c3, c4⟩
      simp (disch := omega) only [l_X7_release_10, b_X7_release_10, hi_R hr, hG_R_0 hr, hg_R_1 hr, hq_R_1 hr, ha_R_1 hr, hs_R_1 hr, hl_R_1 hr, Option.bind_some, nm_eq, sm_inl, sm_inr, zo_0, zo_1, rg_ok, if_pos, if_neg, if_true, if_false, Int.toNat_natCast, g1, c1]
  · rintro f ⟨v4, J⟩ ⟨hF, hc⟩
    dsimp only at hF hc ⊢
    have hRJ := hR.fr hF
    have g1 := hRJ.1
    rcases hc with ⟨c1, psc, b, c2, c3, c4, c5, c6, c7, c8⟩ | ⟨c1, c2, psx, c3, c4⟩
    · rw [Nat.sub_self] at c8
      have ead : ad psc o r b H = some (psc ++ [(o, ch r b H)]) := if_pos ⟨c3, c6⟩
      refine Or.inl ⟨_, J, c8.symm.trans ead, ?_, hF, c7⟩
      simp (disch := omega) only [l_X7_release_10, b_X7_release_10, hi_R hr, hG_R_0 hr, hg_R_1 hr, hq_R_1 hr, ha_R_1 hr, hs_R_1 hr, hl_R_1 hr, Option.bind_some, nm_eq, sm_inl, sm_inr, zo_0, zo_1, rg_ok, if_pos, if_neg, if_true, if_false, Int.toNat_natCast, g1, c1]
    · refine Or.inr ⟨c2, J, psx, ?_, hF, c3, c4⟩
      simp (disch := omega) only [l_X7_release_10, b_X7_release_10, hi_R hr, hG_R_0 hr, hg_R_1 hr, hq_R_1 hr, ha_R_1 hr, hs_R_1 hr, hl_R_1 hr, Option.bind_some, nm_eq, sm_inl, sm_inr, zo_0, zo_1, rg_ok, if_pos, if_neg, if_true, if_false, Int.toNat_natCast, g1, c1]
end GB
