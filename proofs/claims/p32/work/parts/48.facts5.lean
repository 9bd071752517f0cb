/-! ===== Facts: reached, left recursive, circular ===== -/
/-- the relation by the places ahead of (p, k) that Q takes -/
def RP (g : GT) (Q : Nat → Nat → Prop) (p k a b : Nat) : Prop := ∃ p' k', (p' < p ∨ (p' = p ∧ k' < k)) ∧ p' < Gn g ∧ k' < Gl g p' ∧ Go g p' = a ∧ Gs g p' k' = 16 + b ∧ Q p' k'
theorem RP_0 {g : GT} {Q : Nat → Nat → Prop} {a b : Nat} : ¬ RP g Q 0 0 a b := by
  rintro ⟨p', k', h, -⟩; omega
theorem RP_step {g : GT} {Q : Nat → Nat → Prop} {p k a b : Nat} (hp : p < Gn g) (hk : k < Gl g p) : RP g Q p (k + 1) a b ↔ RP g Q p k a b ∨ (Q p k ∧ a = Go g p ∧ Gs g p k = 16 + b) := by
  constructor
  · rintro ⟨p', k', h, h1, h2, h3, h4, h5⟩
    by_cases e : p' = p ∧ k' = k
    · obtain ⟨rfl, rfl⟩ := e; exact Or.inr ⟨h5, h3.symm, h4⟩
    · exact Or.inl ⟨p', k', by omega, h1, h2, h3, h4, h5⟩
  · rintro (⟨p', k', h, h1⟩ | ⟨h5, h3, h4⟩)
    · exact ⟨p', k', by omega, h1⟩
    · exact ⟨p, k, by omega, hp, hk, h3.symm, h4, h5⟩
theorem RP_no {g : GT} {Q : Nat → Nat → Prop} {p k a b : Nat} (h : ¬ Q p k) : RP g Q p (k + 1) a b ↔ RP g Q p k a b := by
  constructor
  · rintro ⟨p', k', h0, h1, h2, h3, h4, h5⟩
    by_cases e : p' = p ∧ k' = k
    · obtain ⟨rfl, rfl⟩ := e; exact absurd h5 h
    · exact ⟨p', k', by omega, h1, h2, h3, h4, h5⟩
  · rintro ⟨p', k', h0, h1⟩; exact ⟨p', k', by omega, h1⟩
theorem RP_next {g : GT} {Q : Nat → Nat → Prop} {p k a b : Nat} (h : ∀ k', k ≤ k' → k' < Gl g p → ¬ Q p k') : RP g Q p k a b ↔ RP g Q (p + 1) 0 a b := by
  constructor
  · rintro ⟨p', k', h0, h1⟩; exact ⟨p', k', by omega, h1⟩
  · rintro ⟨p', k', h0, h1, h2, h3, h4, h5⟩
    refine ⟨p', k', ?_, h1, h2, h3, h4, h5⟩
    by_cases e : p' = p
    · subst e
      by_cases e2 : k' < k
      · exact Or.inr ⟨rfl, e2⟩
      · exact absurd h5 (h k' (by omega) h2)
    · exact Or.inl (by omega)
theorem RP_U {g : GT} (a b : Nat) : RP g (fun _ _ => True) (Gn g) 0 a b ↔ rlU g a b := by
  constructor
  · rintro ⟨p', k', -, h1, h2, h3, h4, -⟩; exact ⟨p', h1, h3, k', h2, h4⟩
  · rintro ⟨p, h1, h2, k, h3, h4⟩; exact ⟨p, k, by omega, h1, h3, h2, h4, trivial⟩
def qL (g : GT) (N : Nat → Prop) (p k : Nat) : Prop := ∀ i, i < k → nls N (Gs g p i)
def qC (g : GT) (N : Nat → Prop) (p k : Nat) : Prop := (∀ i, i < k → nls N (Gs g p i)) ∧ emF g N p (k + 1)
theorem RP_L {g : GT} {N : Nat → Prop} (a b : Nat) : RP g (qL g N) (Gn g) 0 a b ↔ rlL g N a b := by
  constructor
  · rintro ⟨p', k', -, h1, h2, h3, h4, h5⟩; exact ⟨p', h1, h3, k', h2, h5, h4⟩
  · rintro ⟨p, h1, h2, k, h3, h5, h4⟩; exact ⟨p, k, by omega, h1, h3, h2, h4, h5⟩
theorem RP_C {g : GT} {N : Nat → Prop} (a b : Nat) : RP g (qC g N) (Gn g) 0 a b ↔ rlC g N a b := by
  constructor
  · rintro ⟨p', k', -, h1, h2, h3, h4, h5⟩; exact ⟨p', h1, h3, k', h2, h5.1, h5.2, h4⟩
  · rintro ⟨p, h1, h2, k, h3, h5, h6, h4⟩; exact ⟨p, k, by omega, h1, h3, h2, h4, h5, h6⟩
section FE
variable {u : Nat} {L : Nat → Nat → Int} {n : Nat}
/-- the row emptied -/
theorem cR_fill (hn : 1000000000000000000000000000000 ≤ n) {I : Nat → Nat → Int} : ∃ J : Nat → Nat → Int, f_J7_fill_53178 n 70 0 (hp u I L) = some (hp u J L) ∧ Fr [70] I J ∧ cRk J ∧ ∀ a b, ¬ cRe J a b := by
  obtain ⟨J1, e1, f1, v1⟩ := J7_fill (u := u) (L := L) (I := I) (x := 0) (a := 70) (N := 16) hn rfl (by decide) (by decide)
  have hz : ∀ k, k < 16 → J1 70 k = 0 := fun k hk => by rw [v1 k, if_pos hk]
  refine ⟨J1, e1, f1, ⟨fun k hk => by rw [hz k hk]; decide, fun a ha i hi => by rw [hz a ha, bt_zero] at hi; cases hi⟩, ?_⟩
  rintro a b ⟨ha, -, q⟩
  rw [hz a ha, bt_zero] at q; cases q
theorem fU_in {I : Nat → Nat → Int} (hw : GW (gU u) I) (r10 : Nat → Int → gi_H → Option gi_H) {p : Nat} (hp1 : p < Gn (cG I (gU u))) : ∀ (m f k : Nat) (J : Nat → Nat → Int), Gl (cG I (gU u)) p = k + m → m < f → Fr [70] I J → cRk J → (∀ a b, cRe J a b ↔ RP (cG I (gU u)) (fun _ _ => True) p k a b) →
    ∃ J' : Nat → Nat → Int, l_X3_findReached_23 n r10 f 64 (p : Int) (k : Int) (hp u J L) = r10 64 ((p + 1 : Nat) : Int) (hp u J' L) ∧ Fr [70] I J' ∧ cRk J' ∧ ∀ a b, cRe J' a b ↔ RP (cG I (gU u)) (fun _ _ => True) (p + 1) 0 a b := by
  have hg := GR_of hw
  have h24 := hg.1
  have h5 := hg.2.2.2.1 p
  intro m
  induction m with
  | zero =>
    intro f k J hm hf hfr hR hv
    obtain ⟨f', rfl⟩ : ∃ f', f = f' + 1 := ⟨f - 1, by omega⟩
    have hwJ := GWu_fr hfr nF70 hw
    have hgJ := cGu_fr (u := u) hfr nF70
    simp (disch := omega) only [l_X3_findReached_23, b_X3_findReached_23, b_X3_findReached_47, hi_F, hG_F_0, hg_F_1, hq_F_1, hg_F_2, hq_F_2, hg_F_3, hq_F_3, hg_F_4, hq_F_4, hG_F_5, hG_F_6, hG_F_7, hG_F_8, hG_F_9, hg_F_10, hq_F_10, hG_F_11, hG_F_12, hG_F_13, Option.bind_some, nm_eq, sm_inl, sm_inr, zo_0, zo_1, hi_G (gU_mem u), X4_length (gU_mem u) hwJ, hgJ, rg_ok]
    rw [if_pos (by omega), show (p : Int) + 1 = ((p + 1 : Nat) : Int) by omega]
    exact ⟨J, rfl, hfr, hR, fun a b => (hv a b).trans (RP_next (fun k' h1 h2 => absurd h2 (by omega)))⟩
  | succ m ih =>
    intro f k J hm hf hfr hR hv
    obtain ⟨f', rfl⟩ : ∃ f', f = f' + 1 := ⟨f - 1, by omega⟩
    have hwJ := GWu_fr hfr nF70 hw
    have hgJ := cGu_fr (u := u) hfr nF70
    have hk : k < Gl (cG I (gU u)) p := by omega
    obtain ⟨J1, e1, f1, r1, v1⟩ := X3_relate (u := u) (L := L) hw hfr hR hk
    simp (disch := omega) only [l_X3_findReached_23, b_X3_findReached_23, hi_F, hG_F_0, hg_F_1, hq_F_1, hg_F_2, hq_F_2, hg_F_3, hq_F_3, hg_F_4, hq_F_4, hG_F_5, hG_F_6, hG_F_7, hG_F_8, hG_F_9, hg_F_10, hq_F_10, hG_F_11, hG_F_12, hG_F_13, Option.bind_some, nm_eq, sm_inl, sm_inr, zo_0, zo_1, hi_G (gU_mem u), X4_length (gU_mem u) hwJ, hgJ, rg_ok, e1]
    rw [if_neg (by omega), show (k : Int) + 1 = ((k + 1 : Nat) : Int) by omega]
    refine ih f' (k + 1) J1 (by omega) (by omega) f1 r1 (fun a b => ?_)
    rw [v1 a b, RP_step hp1 hk, hv a b]
    simp only [true_and]
theorem fU_out (hn : 1000000000000000000000000000000 ≤ n) {I : Nat → Nat → Int} (hw : GW (gU u) I) : ∀ (m f p : Nat) (J : Nat → Nat → Int), Gn (cG I (gU u)) = p + m → m < f → Fr [70] I J → cRk J → (∀ a b, cRe J a b ↔ RP (cG I (gU u)) (fun _ _ => True) p 0 a b) →
    ∃ J' : Nat → Nat → Int, l_X3_findReached_10 n f 64 (p : Int) (hp u J L) = b_X3_findReached_53 n 64 (hp u J' L) ∧ Fr [70] I J' ∧ cRk J' ∧ ∀ a b, cRe J' a b ↔ rlU (cG I (gU u)) a b := by
  have hg := GR_of hw
  have h24 := hg.1
  intro m
  induction m with
  | zero =>
    intro f p J hm hf hfr hR hv
    obtain ⟨f', rfl⟩ : ∃ f', f = f' + 1 := ⟨f - 1, by omega⟩
    have hwJ := GWu_fr hfr nF70 hw
    have hgJ := cGu_fr (u := u) hfr nF70
    simp (disch := omega) only [l_X3_findReached_10, b_X3_findReached_10, hi_F, hG_F_0, hg_F_1, hq_F_1, hg_F_2, hq_F_2, hg_F_3, hq_F_3, hg_F_4, hq_F_4, hG_F_5, hG_F_6, hG_F_7, hG_F_8, hG_F_9, hg_F_10, hq_F_10, hG_F_11, hG_F_12, hG_F_13, Option.bind_some, nm_eq, sm_inl, sm_inr, zo_0, zo_1, hi_G (gU_mem u), X4_count (gU_mem u) hwJ, hgJ, rg_ok]
    rw [if_pos (by omega)]
    refine ⟨J, rfl, hfr, hR, fun a b => (hv a b).trans ?_⟩
    rw [show p = Gn (cG I (gU u)) by omega]; exact RP_U a b
  | succ m ih =>
    intro f p J hm hf hfr hR hv
    obtain ⟨f', rfl⟩ : ∃ f', f = f' + 1 := ⟨f - 1, by omega⟩
    have hwJ := GWu_fr hfr nF70 hw
    have hgJ := cGu_fr (u := u) hfr nF70
    have h5 := hg.2.2.2.1 p
    obtain ⟨J1, e1, f1, r1, v1⟩ := fU_in (u := u) (L := L) (n := n) hw (l_X3_findReached_10 n f') (p := p) (by omega) (Gl (cG I (gU u)) p) n 0 J (by omega) (by omega) hfr hR hv
    have e1' : l_X3_findReached_23 n (l_X3_findReached_10 n f') n 64 (p : Int) 0 (hp u J L) = l_X3_findReached_10 n f' 64 ((p + 1 : Nat) : Int) (hp u J1 L) := e1
    simp (disch := omega) only [l_X3_findReached_10, b_X3_findReached_10, hi_F, hG_F_0, hg_F_1, hq_F_1, hg_F_2, hq_F_2, hg_F_3, hq_F_3, hg_F_4, hq_F_4, hG_F_5, hG_F_6, hG_F_7, hG_F_8, hG_F_9, hg_F_10, hq_F_10, hG_F_11, hG_F_12, hG_F_13, Option.bind_some, nm_eq, sm_inl, sm_inr, zo_0, zo_1, hi_G (gU_mem u), X4_count (gU_mem u) hwJ, hgJ, rg_ok, e1']
    rw [if_neg (by omega)]
    exact ih f' (p + 1) J1 (by omega) (by omega) f1 r1 v1
theorem nF7064 : 3 ∉ [70, 64] ∧ 4 ∉ [70, 64] ∧ 5 ∉ [70, 64] ∧ 6 ∉ [70, 64] ∧ 87 ∉ [70, 64] ∧ 88 ∉ [70, 64] ∧ 89 ∉ [70, 64] ∧ 90 ∉ [70, 64] := by decide
theorem ls3_congr {g : GT} {R R' : Nat → Prop} (h : ∀ a, R a ↔ R' a) (q : ls3 g R) : ls3 g R' := by
  have e : R = R' := funext fun a => propext (h a)
  rw [← e]; exact q
theorem X3_findReached (hn : 1000000000000000000000000000000 ≤ n) {I : Nat → Nat → Int} (hw : GW (gU u) I) :
    ∃ J : Nat → Nat → Int, f_X3_findReached n 64 (hp u I L) = some (hp u J L) ∧ Fr [70, 64] I J ∧ (∀ k, k ≠ 2 → J 64 k = I 64 k) ∧ gi_ok (J 64 2) ∧ ls3 (cG I (gU u)) (fun a => bt (J 64 2) a = true) := by
  have hg := GR_of hw
  obtain ⟨J1, e1, f1, r1, z1⟩ := cR_fill (u := u) (L := L) hn (I := I)
  obtain ⟨J2, e2, f2, r2, v2⟩ := fU_out (u := u) (L := L) hn hw (Gn (cG I (gU u))) n 0 J1 (by omega) (by have := hg.1; omega) f1 r1 (fun a b => ⟨fun q => absurd q (z1 a b), fun q => absurd q RP_0⟩)
  obtain ⟨J3, e3, f3, r3, v3⟩ := X3_closeRelation (u := u) (L := L) hn f2 r2
  have hw3 := GWu_fr f3 nF70 hw
  have hg3 := cGu_fr (u := u) f3 nF70
  have ht := hg.2.1
  have e2' : l_X3_findReached_10 n n 64 0 (hp u J1 L) = b_X3_findReached_53 n 64 (hp u J2 L) := e2
  have hls := ls3_of_TC (isTC_congr v2 v3)
  refine ⟨_, by
    rw [f_X3_findReached]
    simp (disch := omega) only [hi_F, hG_F_0, hg_F_1, hq_F_1, hg_F_2, hq_F_2, hg_F_3, hq_F_3, hg_F_4, hq_F_4, hG_F_5, hG_F_6, hG_F_7, hG_F_8, hG_F_9, hg_F_10, hq_F_10, hG_F_11, hG_F_12, hG_F_13, Option.bind_some, nm_eq, sm_inl, sm_inr, zo_0, zo_1, e1, e2', b_X3_findReached_53, e3, hi_G (gU_mem u), X4_top (gU_mem u) hw3, hg3, rg_ok]
    rw [if_neg (by omega), if_neg (by omega)]
    simp (disch := omega) only [hi_F, hG_F_0, hg_F_1, hq_F_1, hg_F_2, hq_F_2, hg_F_3, hq_F_3, hg_F_4, hq_F_4, hG_F_5, hG_F_6, hG_F_7, hG_F_8, hG_F_9, hg_F_10, hq_F_10, hG_F_11, hG_F_12, hG_F_13, ha_70, hs_70, hl_70, Option.bind_some, nm_eq, sm_inl, sm_inr, zo_0, zo_1, Int.toNat_natCast]
    rfl, ?_, fun k hk => ?_, ?_, ?_⟩
  · exact ((f3.up (fun a h => by rw [List.mem_singleton] at h; rw [h]; decide)).wr (by decide)).wr (by decide)
  · rw [gu_at_ne hk, gu_at_ne hk]; exact congrFun (f3 64 (by decide)) k
  · rw [gu_at_eq rfl]; exact bt_ok_or _ _
  · refine ls3_congr (fun a => ?_) hls
    rw [gu_at_eq rfl, bt_or, gu_at_eq rfl, bt_shl1 (by omega), Bool.or_eq_true, decide_eq_true_eq, gu_ne (by decide)]
    constructor
    · rintro (q | ⟨-, -, q⟩)
      · exact Or.inl q
      · exact Or.inr q
    · rintro (q | q)
      · exact Or.inl q
      · exact Or.inr ⟨by omega, r3.2 _ (by omega) a q, q⟩
/-! left recursive ones -/
theorem fL_in {I : Nat → Nat → Int} (hw : GW (gU u) I) (hT : cTb I) (r10 : Nat → Int → gi_H → Option gi_H) {p : Nat} (hp1 : p < Gn (cG I (gU u))) : ∀ (m f k : Nat) (J : Nat → Nat → Int) (v2 : Int), Gl (cG I (gU u)) p = k + m → m < f → Fr [70] I J → cRk J → ((v2 = 1 ∧ qL (cG I (gU u)) (cNi I) p k) ∨ (v2 = 0 ∧ ¬ qL (cG I (gU u)) (cNi I) p k)) → (∀ a b, cRe J a b ↔ RP (cG I (gU u)) (qL (cG I (gU u)) (cNi I)) p k a b) →
    ∃ J' : Nat → Nat → Int, l_X3_findLeftRecursive_25 n r10 f 64 (p : Int) v2 (k : Int) (hp u J L) = r10 64 ((p + 1 : Nat) : Int) (hp u J' L) ∧ Fr [70] I J' ∧ cRk J' ∧ ∀ a b, cRe J' a b ↔ RP (cG I (gU u)) (qL (cG I (gU u)) (cNi I)) (p + 1) 0 a b := by
  have hg := GR_of hw
  have h24 := hg.1
  have h5 := hg.2.2.2.1 p
  intro m
  induction m with
  | zero =>
    intro f k J v2 hm hf hfr hR hq hv
    obtain ⟨f', rfl⟩ : ∃ f', f = f' + 1 := ⟨f - 1, by omega⟩
    have hwJ := GWu_fr hfr nF70 hw
    have hgJ := cGu_fr (u := u) hfr nF70
    simp (disch := omega) only [l_X3_findLeftRecursive_25, b_X3_findLeftRecursive_25, b_X3_findLeftRecursive_79, hi_F, hG_F_0, hg_F_1, hq_F_1, hg_F_2, hq_F_2, hg_F_3, hq_F_3, hg_F_4, hq_F_4, hG_F_5, hG_F_6, hG_F_7, hG_F_8, hG_F_9, hg_F_10, hq_F_10, hG_F_11, hG_F_12, hG_F_13, Option.bind_some, nm_eq, sm_inl, sm_inr, zo_0, zo_1, hi_G (gU_mem u), X4_length (gU_mem u) hwJ, hgJ, rg_ok]
    rw [if_pos (by omega), show (p : Int) + 1 = ((p + 1 : Nat) : Int) by omega]
    exact ⟨J, rfl, hfr, hR, fun a b => (hv a b).trans (RP_next (fun k' h1 h2 => absurd h2 (by omega)))⟩
  | succ m ih =>
    intro f k J v2 hm hf hfr hR hq hv
    obtain ⟨f', rfl⟩ : ∃ f', f = f' + 1 := ⟨f - 1, by omega⟩
    have hwJ := GWu_fr hfr nF70 hw
    have hgJ := cGu_fr (u := u) hfr nF70
    have hk : k < Gl (cG I (gU u)) p := by omega
    have hs := hg.2.2.2.2.2 p k hk
    simp (disch := omega) only [l_X3_findLeftRecursive_25, b_X3_findLeftRecursive_25, b_X3_findLeftRecursive_79, hi_F, hG_F_0, hg_F_1, hq_F_1, hg_F_2, hq_F_2, hg_F_3, hq_F_3, hg_F_4, hq_F_4, hG_F_5, hG_F_6, hG_F_7, hG_F_8, hG_F_9, hg_F_10, hq_F_10, hG_F_11, hG_F_12, hG_F_13, Option.bind_some, nm_eq, sm_inl, sm_inr, zo_0, zo_1, hi_G (gU_mem u), X4_length (gU_mem u) hwJ, hgJ, rg_ok]
    rw [if_neg (by omega)]
    rcases hq with ⟨a1, a2⟩ | ⟨a1, a2⟩
    · obtain ⟨J1, e1, f1, r1, v1⟩ := X3_relate (u := u) (L := L) hw hfr hR hk
      have hw1 := GWu_fr f1 nF70 hw
      have hg1 := cGu_fr (u := u) f1 nF70
      have hk1 : k < Gl (cG J1 (gU u)) p := by rw [hg1]; exact hk
      have h65 : J1 65 = I 65 := f1 65 (by decide)
      have hb := bt_ok_and (I 65 (Gs (cG I (gU u)) p k)) 512
      rw [a1]
      simp (disch := omega) only [hi_F, hG_F_0, hg_F_1, hq_F_1, hg_F_2, hq_F_2, hg_F_3, hq_F_3, hg_F_4, hq_F_4, hG_F_5, hG_F_6, hG_F_7, hG_F_8, hG_F_9, hg_F_10, hq_F_10, hG_F_11, hG_F_12, hG_F_13, Option.bind_some, nm_eq, sm_inl, sm_inr, zo_0, zo_1, hi_G (gU_mem u), X4_symbol (gU_mem u) hw1 hk1, hg1, rg_ok, e1, X3_beginOf, h65, b_X3_findLeftRecursive_72]
      rw [if_neg (by decide), show (k : Int) + 1 = ((k + 1 : Nat) : Int) by omega]
      have hv1 : ∀ a b, cRe J1 a b ↔ RP (cG I (gU u)) (qL (cG I (gU u)) (cNi I)) p (k + 1) a b := fun a b => by
        rw [v1 a b, RP_step hp1 hk, hv a b]
        simp only [a2, true_and]
      have hnl := cTb_null hT hs
      by_cases h9 : bt (I 65 (Gs (cG I (gU u)) p k)) 9 = true
      · rw [if_neg (by rw [bt_and512, h9]; decide)]
        refine ih f' (k + 1) J1 1 (by omega) (by omega) f1 r1 (Or.inl ⟨rfl, fun i hi => ?_⟩) hv1
        by_cases e : i = k
        · subst e; exact hnl.mp h9
        · exact a2 i (by omega)
      · rw [if_pos (by rw [bt_and512]; exact Bool.not_eq_true _ ▸ h9)]
        exact ih f' (k + 1) J1 0 (by omega) (by omega) f1 r1 (Or.inr ⟨rfl, fun q => h9 (hnl.mpr (q k (by omega)))⟩) hv1
    · rw [a1]
      simp (disch := omega) only [Option.bind_some, nm_eq, sm_inl, sm_inr, zo_0, zo_1, rg_ok]
      rw [if_pos trivial, show (p : Int) + 1 = ((p + 1 : Nat) : Int) by omega]
      exact ⟨J, rfl, hfr, hR, fun a b => (hv a b).trans (RP_next (fun k' h1 h2 q => a2 (fun i hi => q i (by omega))))⟩
theorem fL_out (hn : 1000000000000000000000000000000 ≤ n) {I : Nat → Nat → Int} (hw : GW (gU u) I) (hT : cTb I) : ∀ (m f p : Nat) (J : Nat → Nat → Int), Gn (cG I (gU u)) = p + m → m < f → Fr [70] I J → cRk J → (∀ a b, cRe J a b ↔ RP (cG I (gU u)) (qL (cG I (gU u)) (cNi I)) p 0 a b) →
    ∃ J' : Nat → Nat → Int, l_X3_findLeftRecursive_10 n f 64 (p : Int) (hp u J L) = b_X3_findLeftRecursive_85 n 64 (hp u J' L) ∧ Fr [70] I J' ∧ cRk J' ∧ ∀ a b, cRe J' a b ↔ rlL (cG I (gU u)) (cNi I) a b := by
  have hg := GR_of hw
  have h24 := hg.1
  intro m
  induction m with
  | zero =>
    intro f p J hm hf hfr hR hv
    obtain ⟨f', rfl⟩ : ∃ f', f = f' + 1 := ⟨f - 1, by omega⟩
    have hwJ := GWu_fr hfr nF70 hw
    have hgJ := cGu_fr (u := u) hfr nF70
    simp (disch := omega) only [l_X3_findLeftRecursive_10, b_X3_findLeftRecursive_10, hi_F, hG_F_0, hg_F_1, hq_F_1, hg_F_2, hq_F_2, hg_F_3, hq_F_3, hg_F_4, hq_F_4, hG_F_5, hG_F_6, hG_F_7, hG_F_8, hG_F_9, hg_F_10, hq_F_10, hG_F_11, hG_F_12, hG_F_13, Option.bind_some, nm_eq, sm_inl, sm_inr, zo_0, zo_1, hi_G (gU_mem u), X4_count (gU_mem u) hwJ, hgJ, rg_ok]
    rw [if_pos (by omega)]
    refine ⟨J, rfl, hfr, hR, fun a b => (hv a b).trans ?_⟩
    rw [show p = Gn (cG I (gU u)) by omega]; exact RP_L a b
  | succ m ih =>
    intro f p J hm hf hfr hR hv
    obtain ⟨f', rfl⟩ : ∃ f', f = f' + 1 := ⟨f - 1, by omega⟩
    have hwJ := GWu_fr hfr nF70 hw
    have hgJ := cGu_fr (u := u) hfr nF70
    have h5 := hg.2.2.2.1 p
    obtain ⟨J1, e1, f1, r1, v1⟩ := fL_in (u := u) (L := L) (n := n) hw hT (l_X3_findLeftRecursive_10 n f') (p := p) (by omega) (Gl (cG I (gU u)) p) n 0 J 1 (by omega) (by omega) hfr hR (Or.inl ⟨rfl, fun i hi => absurd hi (by omega)⟩) hv
    have e1' : l_X3_findLeftRecursive_25 n (l_X3_findLeftRecursive_10 n f') n 64 (p : Int) 1 0 (hp u J L) = l_X3_findLeftRecursive_10 n f' 64 ((p + 1 : Nat) : Int) (hp u J1 L) := e1
    simp (disch := omega) only [l_X3_findLeftRecursive_10, b_X3_findLeftRecursive_10, hi_F, hG_F_0, hg_F_1, hq_F_1, hg_F_2, hq_F_2, hg_F_3, hq_F_3, hg_F_4, hq_F_4, hG_F_5, hG_F_6, hG_F_7, hG_F_8, hG_F_9, hg_F_10, hq_F_10, hG_F_11, hG_F_12, hG_F_13, Option.bind_some, nm_eq, sm_inl, sm_inr, zo_0, zo_1, hi_G (gU_mem u), X4_count (gU_mem u) hwJ, hgJ, rg_ok, e1']
    rw [if_neg (by omega)]
    exact ih f' (p + 1) J1 (by omega) (by omega) f1 r1 v1
theorem X3_findLeftRecursive (hn : 1000000000000000000000000000000 ≤ n) {I : Nat → Nat → Int} (hw : GW (gU u) I) (hT : cTb I) :
    ∃ (J : Nat → Nat → Int) (T : Nat → Nat → Prop), f_X3_findLeftRecursive n 64 (hp u I L) = some (hp u J L) ∧ Fr [70, 64] I J ∧ (∀ k, k ≠ 3 → J 64 k = I 64 k) ∧ gi_ok (J 64 3) ∧ isTC (rlL (cG I (gU u)) (cNi I)) T ∧ ∀ a, bt (J 64 3) a = true ↔ T a a := by
  have hg := GR_of hw
  obtain ⟨J1, e1, f1, r1, z1⟩ := cR_fill (u := u) (L := L) hn (I := I)
  obtain ⟨J2, e2, f2, r2, v2⟩ := fL_out (u := u) (L := L) hn hw hT (Gn (cG I (gU u))) n 0 J1 (by omega) (by have := hg.1; omega) f1 r1 (fun a b => ⟨fun q => absurd q (z1 a b), fun q => absurd q RP_0⟩)
  obtain ⟨J3, e3, f3, r3, v3⟩ := X3_closeRelation (u := u) (L := L) hn f2 r2
  obtain ⟨r, e4, o4, v4⟩ := X3_rel (u := u) (L := L) (n := n) hn r3
  have e2' : l_X3_findLeftRecursive_10 n n 64 0 (hp u J1 L) = b_X3_findLeftRecursive_85 n 64 (hp u J2 L) := e2
  refine ⟨gx_u J3 64 3 r, cRe J3, by
    rw [f_X3_findLeftRecursive]
    simp only [hi_F, hG_F_0, hg_F_1, hq_F_1, hg_F_2, hq_F_2, hg_F_3, hq_F_3, hg_F_4, hq_F_4, hG_F_5, hG_F_6, hG_F_7, hG_F_8, hG_F_9, hg_F_10, hq_F_10, hG_F_11, hG_F_12, hG_F_13, Option.bind_some, nm_eq, sm_inl, sm_inr, zo_0, zo_1, e1, e2', b_X3_findLeftRecursive_85, e3, e4], ?_, fun k hk => ?_, ?_, isTC_congr v2 v3, fun a => ?_⟩
  · exact (f3.up (fun a h => by rw [List.mem_singleton] at h; rw [h]; decide)).wr (by decide)
  · rw [gu_at_ne hk]; exact congrFun (f3 64 (by decide)) k
  · rw [gu_at_eq rfl]; exact o4
  · rw [gu_at_eq rfl, v4 a]
    exact ⟨fun q => ⟨q.1, q.1, q.2⟩, fun q => ⟨q.1, q.2.2⟩⟩
/-! circular ones -/
theorem fK_in (hn : 1000000000000000000000000000000 ≤ n) {I : Nat → Nat → Int} (hw : GW (gU u) I) (hT : cTb I) (r10 : Nat → Int → gi_H → Option gi_H) {p : Nat} (hp1 : p < Gn (cG I (gU u))) : ∀ (m f k : Nat) (J : Nat → Nat → Int) (v2 : Int), Gl (cG I (gU u)) p = k + m → m < f → Fr [70] I J → cRk J → ((v2 = 1 ∧ qL (cG I (gU u)) (cNi I) p k) ∨ (v2 = 0 ∧ ¬ qL (cG I (gU u)) (cNi I) p k)) → (∀ a b, cRe J a b ↔ RP (cG I (gU u)) (qC (cG I (gU u)) (cNi I)) p k a b) →
    ∃ J' : Nat → Nat → Int, l_X3_findCircular_25 n r10 f 64 (p : Int) v2 (k : Int) (hp u J L) = r10 64 ((p + 1 : Nat) : Int) (hp u J' L) ∧ Fr [70] I J' ∧ cRk J' ∧ ∀ a b, cRe J' a b ↔ RP (cG I (gU u)) (qC (cG I (gU u)) (cNi I)) (p + 1) 0 a b := by
  have hg := GR_of hw
  have h24 := hg.1
  have h5 := hg.2.2.2.1 p
  intro m
  induction m with
  | zero =>
    intro f k J v2 hm hf hfr hR hq hv
    obtain ⟨f', rfl⟩ : ∃ f', f = f' + 1 := ⟨f - 1, by omega⟩
    have hwJ := GWu_fr hfr nF70 hw
    have hgJ := cGu_fr (u := u) hfr nF70
    simp (disch := omega) only [l_X3_findCircular_25, b_X3_findCircular_25, b_X3_findCircular_94, hi_F, hG_F_0, hg_F_1, hq_F_1, hg_F_2, hq_F_2, hg_F_3, hq_F_3, hg_F_4, hq_F_4, hG_F_5, hG_F_6, hG_F_7, hG_F_8, hG_F_9, hg_F_10, hq_F_10, hG_F_11, hG_F_12, hG_F_13, Option.bind_some, nm_eq, sm_inl, sm_inr, zo_0, zo_1, hi_G (gU_mem u), X4_length (gU_mem u) hwJ, hgJ, rg_ok]
    rw [if_pos (by omega), show (p : Int) + 1 = ((p + 1 : Nat) : Int) by omega]
    exact ⟨J, rfl, hfr, hR, fun a b => (hv a b).trans (RP_next (fun k' h1 h2 => absurd h2 (by omega)))⟩
  | succ m ih =>
    intro f k J v2 hm hf hfr hR hq hv
    obtain ⟨f', rfl⟩ : ∃ f', f = f' + 1 := ⟨f - 1, by omega⟩
    have hwJ := GWu_fr hfr nF70 hw
    have hgJ := cGu_fr (u := u) hfr nF70
    have h65J : J 65 = I 65 := hfr 65 (by decide)
    have hk : k < Gl (cG I (gU u)) p := by omega
    have hkJ : k < Gl (cG J (gU u)) p := by rw [hgJ]; exact hk
    have hs := hg.2.2.2.2.2 p k hk
    have hnl := cTb_null hT hs
    have hb := bt_ok_and (I 65 (Gs (cG I (gU u)) p k)) 512
    simp (disch := omega) only [l_X3_findCircular_25, b_X3_findCircular_25, b_X3_findCircular_94, hi_F, hG_F_0, hg_F_1, hq_F_1, hg_F_2, hq_F_2, hg_F_3, hq_F_3, hg_F_4, hq_F_4, hG_F_5, hG_F_6, hG_F_7, hG_F_8, hG_F_9, hg_F_10, hq_F_10, hG_F_11, hG_F_12, hG_F_13, Option.bind_some, nm_eq, sm_inl, sm_inr, zo_0, zo_1, hi_G (gU_mem u), X4_length (gU_mem u) hwJ, hgJ, rg_ok]
    rw [if_neg (by omega)]
    rcases hq with ⟨a1, a2⟩ | ⟨a1, a2⟩
    · obtain ⟨rb, er, ho, hr⟩ := X3_beg (n := n) (L := L) hn hwJ (cTb_fr h65J hT) (p := p) (k := k + 1) (by omega) (by omega)
      have er' : f_X3_beginnings n 64 (p : Int) ((k : Int) + 1) (hp u J L) = some rb := er
      rw [hgJ, cNi_fr h65J, cFi_fr h65J] at hr
      have hb2 := bt_ok_and rb 512
      have hem : bt rb 9 = true ↔ emF (cG I (gU u)) (cNi I) p (k + 1) := by
        rw [hr 9]
        exact ⟨fun q => q.elim (fun z => absurd z.1 (by decide)) (fun z => z.2), fun q => Or.inr ⟨rfl, q⟩⟩
      -- what follows the test, over any heap that has the same grammar and firsts
      have go : ∀ J1 : Nat → Nat → Int, Fr [70] I J1 → cRk J1 → (∀ a b, cRe J1 a b ↔ RP (cG I (gU u)) (qC (cG I (gU u)) (cNi I)) p (k + 1) a b) → ∃ J' : Nat → Nat → Int, b_X3_findCircular_62 n r10 (l_X3_findCircular_25 n r10 f') 64 (p : Int) (k : Int) (hp u J1 L) = r10 64 ((p + 1 : Nat) : Int) (hp u J' L) ∧ Fr [70] I J' ∧ cRk J' ∧ ∀ a b, cRe J' a b ↔ RP (cG I (gU u)) (qC (cG I (gU u)) (cNi I)) (p + 1) 0 a b := by
        intro J1 f1 r1 v1
        have hw1 := GWu_fr f1 nF70 hw
        have hg1 := cGu_fr (u := u) f1 nF70
        have hk1 : k < Gl (cG J1 (gU u)) p := by rw [hg1]; exact hk
        have h65 : J1 65 = I 65 := f1 65 (by decide)
        simp (disch := omega) only [b_X3_findCircular_62, hi_F, hG_F_0, hg_F_1, hq_F_1, hg_F_2, hq_F_2, hg_F_3, hq_F_3, hg_F_4, hq_F_4, hG_F_5, hG_F_6, hG_F_7, hG_F_8, hG_F_9, hg_F_10, hq_F_10, hG_F_11, hG_F_12, hG_F_13, Option.bind_some, nm_eq, sm_inl, sm_inr, zo_0, zo_1, hi_G (gU_mem u), X4_symbol (gU_mem u) hw1 hk1, hg1, rg_ok, X3_beginOf, h65, b_X3_findCircular_87]
        rw [show (k : Int) + 1 = ((k + 1 : Nat) : Int) by omega]
        by_cases h9 : bt (I 65 (Gs (cG I (gU u)) p k)) 9 = true
        · rw [if_neg (by rw [bt_and512, h9]; decide)]
          refine ih f' (k + 1) J1 1 (by omega) (by omega) f1 r1 (Or.inl ⟨rfl, fun i hi => ?_⟩) v1
          by_cases e : i = k
          · subst e; exact hnl.mp h9
          · exact a2 i (by omega)
        · rw [if_pos (by rw [bt_and512]; exact Bool.not_eq_true _ ▸ h9)]
          exact ih f' (k + 1) J1 0 (by omega) (by omega) f1 r1 (Or.inr ⟨rfl, fun q => h9 (hnl.mpr (q k (by omega)))⟩) v1
      rw [a1]
      simp (disch := omega) only [hi_F, hG_F_0, hg_F_1, hq_F_1, hg_F_2, hq_F_2, hg_F_3, hq_F_3, hg_F_4, hq_F_4, hG_F_5, hG_F_6, hG_F_7, hG_F_8, hG_F_9, hg_F_10, hq_F_10, hG_F_11, hG_F_12, hG_F_13, Option.bind_some, nm_eq, sm_inl, sm_inr, zo_0, zo_1, rg_ok, er']
      rw [if_neg (by decide)]
      by_cases h9 : bt rb 9 = true
      · obtain ⟨J1, e1, f1, r1, v1⟩ := X3_relate (u := u) (L := L) hw hfr hR hk
        rw [if_neg (by rw [bt_and512, h9]; decide)]
        simp only [hi_F, hG_F_0, hg_F_1, hq_F_1, hg_F_2, hq_F_2, hg_F_3, hq_F_3, hg_F_4, hq_F_4, hG_F_5, hG_F_6, hG_F_7, hG_F_8, hG_F_9, hg_F_10, hq_F_10, hG_F_11, hG_F_12, hG_F_13, Option.bind_some, nm_eq, sm_inl, sm_inr, zo_0, zo_1, e1]
        refine go J1 f1 r1 (fun a b => ?_)
        rw [v1 a b, RP_step hp1 hk, hv a b]
        have hq : qC (cG I (gU u)) (cNi I) p k := ⟨a2, hem.mp h9⟩
        simp only [hq, true_and]
      · rw [if_pos (by rw [bt_and512]; exact Bool.not_eq_true _ ▸ h9)]
        refine go J hfr hR (fun a b => ?_)
        rw [hv a b, RP_no (fun q => h9 (hem.mpr q.2))]
    · rw [a1]
      simp (disch := omega) only [Option.bind_some, nm_eq, sm_inl, sm_inr, zo_0, zo_1, rg_ok]
      rw [if_pos trivial, show (p : Int) + 1 = ((p + 1 : Nat) : Int) by omega]
      exact ⟨J, rfl, hfr, hR, fun a b => (hv a b).trans (RP_next (fun k' h1 h2 q => a2 (fun i hi => q.1 i (by omega))))⟩
theorem fK_out (hn : 1000000000000000000000000000000 ≤ n) {I : Nat → Nat → Int} (hw : GW (gU u) I) (hT : cTb I) : ∀ (m f p : Nat) (J : Nat → Nat → Int), Gn (cG I (gU u)) = p + m → m < f → Fr [70] I J → cRk J → (∀ a b, cRe J a b ↔ RP (cG I (gU u)) (qC (cG I (gU u)) (cNi I)) p 0 a b) →
    ∃ J' : Nat → Nat → Int, l_X3_findCircular_10 n f 64 (p : Int) (hp u J L) = b_X3_findCircular_100 n 64 (hp u J' L) ∧ Fr [70] I J' ∧ cRk J' ∧ ∀ a b, cRe J' a b ↔ rlC (cG I (gU u)) (cNi I) a b := by
  have hg := GR_of hw
  have h24 := hg.1
  intro m
  induction m with
  | zero =>
    intro f p J hm hf hfr hR hv
    obtain ⟨f', rfl⟩ : ∃ f', f = f' + 1 := ⟨f - 1, by omega⟩
    have hwJ := GWu_fr hfr nF70 hw
    have hgJ := cGu_fr (u := u) hfr nF70
    simp (disch := omega) only [l_X3_findCircular_10, b_X3_findCircular_10, hi_F, hG_F_0, hg_F_1, hq_F_1, hg_F_2, hq_F_2, hg_F_3, hq_F_3, hg_F_4, hq_F_4, hG_F_5, hG_F_6, hG_F_7, hG_F_8, hG_F_9, hg_F_10, hq_F_10, hG_F_11, hG_F_12, hG_F_13, Option.bind_some, nm_eq, sm_inl, sm_inr, zo_0, zo_1, hi_G (gU_mem u), X4_count (gU_mem u) hwJ, hgJ, rg_ok]
    rw [if_pos (by omega)]
    refine ⟨J, rfl, hfr, hR, fun a b => (hv a b).trans ?_⟩
    rw [show p = Gn (cG I (gU u)) by omega]; exact RP_C a b
  | succ m ih =>
    intro f p J hm hf hfr hR hv
    obtain ⟨f', rfl⟩ : ∃ f', f = f' + 1 := ⟨f - 1, by omega⟩
    have hwJ := GWu_fr hfr nF70 hw
    have hgJ := cGu_fr (u := u) hfr nF70
    have h5 := hg.2.2.2.1 p
    obtain ⟨J1, e1, f1, r1, v1⟩ := fK_in (u := u) (L := L) hn hw hT (l_X3_findCircular_10 n f') (p := p) (by omega) (Gl (cG I (gU u)) p) n 0 J 1 (by omega) (by omega) hfr hR (Or.inl ⟨rfl, fun i hi => absurd hi (by omega)⟩) hv
    have e1' : l_X3_findCircular_25 n (l_X3_findCircular_10 n f') n 64 (p : Int) 1 0 (hp u J L) = l_X3_findCircular_10 n f' 64 ((p + 1 : Nat) : Int) (hp u J1 L) := e1
    simp (disch := omega) only [l_X3_findCircular_10, b_X3_findCircular_10, hi_F, hG_F_0, hg_F_1, hq_F_1, hg_F_2, hq_F_2, hg_F_3, hq_F_3, hg_F_4, hq_F_4, hG_F_5, hG_F_6, hG_F_7, hG_F_8, hG_F_9, hg_F_10, hq_F_10, hG_F_11, hG_F_12, hG_F_13, Option.bind_some, nm_eq, sm_inl, sm_inr, zo_0, zo_1, hi_G (gU_mem u), X4_count (gU_mem u) hwJ, hgJ, rg_ok, e1']
    rw [if_neg (by omega)]
    exact ih f' (p + 1) J1 (by omega) (by omega) f1 r1 v1
theorem X3_findCircular (hn : 1000000000000000000000000000000 ≤ n) {I : Nat → Nat → Int} (hw : GW (gU u) I) (hT : cTb I) :
    ∃ (J : Nat → Nat → Int) (T : Nat → Nat → Prop), f_X3_findCircular n 64 (hp u I L) = some (hp u J L) ∧ Fr [70, 64] I J ∧ (∀ k, k ≠ 4 → J 64 k = I 64 k) ∧ gi_ok (J 64 4) ∧ isTC (rlC (cG I (gU u)) (cNi I)) T ∧ ∀ a, bt (J 64 4) a = true ↔ T a a := by
  have hg := GR_of hw
  obtain ⟨J1, e1, f1, r1, z1⟩ := cR_fill (u := u) (L := L) hn (I := I)
  obtain ⟨J2, e2, f2, r2, v2⟩ := fK_out (u := u) (L := L) hn hw hT (Gn (cG I (gU u))) n 0 J1 (by omega) (by have := hg.1; omega) f1 r1 (fun a b => ⟨fun q => absurd q (z1 a b), fun q => absurd q RP_0⟩)
  obtain ⟨J3, e3, f3, r3, v3⟩ := X3_closeRelation (u := u) (L := L) hn f2 r2
  obtain ⟨r, e4, o4, v4⟩ := X3_rel (u := u) (L := L) (n := n) hn r3
  have e2' : l_X3_findCircular_10 n n 64 0 (hp u J1 L) = b_X3_findCircular_100 n 64 (hp u J2 L) := e2
  refine ⟨gx_u J3 64 4 r, cRe J3, by
    rw [f_X3_findCircular]
    simp only [hi_F, hG_F_0, hg_F_1, hq_F_1, hg_F_2, hq_F_2, hg_F_3, hq_F_3, hg_F_4, hq_F_4, hG_F_5, hG_F_6, hG_F_7, hG_F_8, hG_F_9, hg_F_10, hq_F_10, hG_F_11, hG_F_12, hG_F_13, Option.bind_some, nm_eq, sm_inl, sm_inr, zo_0, zo_1, e1, e2', b_X3_findCircular_100, e3, e4], ?_, fun k hk => ?_, ?_, isTC_congr v2 v3, fun a => ?_⟩
  · exact (f3.up (fun a h => by rw [List.mem_singleton] at h; rw [h]; decide)).wr (by decide)
  · rw [gu_at_ne hk]; exact congrFun (f3 64 (by decide)) k
  · rw [gu_at_eq rfl]; exact o4
  · rw [gu_at_eq rfl, v4 a]
    exact ⟨fun q => ⟨q.1, q.1, q.2⟩, fun q => ⟨q.1, q.2.2⟩⟩
end FE
