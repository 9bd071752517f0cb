/-! ===== counting bits; fill, widen; firsts and nullable ones (Facts.findBeginnings) ===== -/
def cB (f : Nat → Bool) : Nat → Nat
  | 0 => 0
  | N + 1 => cB f N + (if f N = true then 1 else 0)
theorem cB_le (f : Nat → Bool) : ∀ N, cB f N ≤ N
  | 0 => Nat.le_refl 0
  | N + 1 => by
    have := cB_le f N
    show cB f N + (if f N = true then 1 else 0) ≤ N + 1
    split <;> omega
theorem cB_mono {f g : Nat → Bool} : ∀ N, (∀ i, i < N → f i = true → g i = true) → cB f N ≤ cB g N
  | 0, _ => Nat.le_refl 0
  | N + 1, h => by
    have h1 := cB_mono N (fun i hi => h i (by omega))
    have h2 := h N (by omega)
    show cB f N + (if f N = true then 1 else 0) ≤ cB g N + (if g N = true then 1 else 0)
    by_cases hf : f N = true
    · rw [if_pos hf, if_pos (h2 hf)]; omega
    · rw [if_neg hf]; split <;> omega
theorem cB_lt {f g : Nat → Bool} : ∀ N, (∀ i, i < N → f i = true → g i = true) → (∃ i, i < N ∧ g i = true ∧ f i = false) → cB f N < cB g N
  | 0, _, ⟨i, hi, _⟩ => absurd hi (by omega)
  | N + 1, h, ⟨i, hi, hg, hf⟩ => by
    have h2 := h N (by omega)
    show cB f N + (if f N = true then 1 else 0) < cB g N + (if g N = true then 1 else 0)
    by_cases hN : i = N
    · subst hN
      have h1 := cB_mono i (fun j hj => h j (by omega))
      rw [if_pos hg, hf, if_neg (by decide)]; omega
    · have h1 := cB_lt N (fun j hj => h j (by omega)) ⟨i, by omega, hg, hf⟩
      by_cases hf : f N = true
      · rw [if_pos hf, if_pos (h2 hf)]; omega
      · rw [if_neg hf]; split <;> omega
/-- how many bits a row of N numbers has -/
def cM (x : Nat → Int) (N : Nat) : Nat := cB (fun k => bt (x (k / 32)) (k % 32)) (N * 32)
theorem cM_le (x : Nat → Int) (N : Nat) : cM x N ≤ N * 32 := cB_le _ _
theorem cM_lt {x y : Nat → Int} {N : Nat} (h : ∀ i, i < N → ∀ b, b < 32 → bt (x i) b = true → bt (y i) b = true) (q : ∃ i, i < N ∧ ∃ b, b < 32 ∧ bt (y i) b = true ∧ bt (x i) b = false) : cM x N < cM y N := by
  refine cB_lt _ (fun k hk => h (k / 32) (by omega) (k % 32) (by omega)) ?_
  obtain ⟨i, hi, b, hb, h1, h2⟩ := q
  refine ⟨32 * i + b, by omega, ?_, ?_⟩
  · show bt (y ((32 * i + b) / 32)) ((32 * i + b) % 32) = true
    rw [show (32 * i + b) / 32 = i by omega, show (32 * i + b) % 32 = b by omega]; exact h1
  · show bt (x ((32 * i + b) / 32)) ((32 * i + b) % 32) = false
    rw [show (32 * i + b) / 32 = i by omega, show (32 * i + b) % 32 = b by omega]; exact h2
theorem cM_wid {I : Nat → Nat → Int} {a i N : Nat} {y : Int} (hi : i < N) (hok : gi_ok (I a i)) (hne : ¬ gi_or (I a i) y = I a i) : cM (I a) N < cM (gx_u I a i (gi_or (I a i) y) a) N := by
  refine cM_lt (fun j _ b _ hb => ?_) ?_
  · rw [gu_at]
    split
    · next e => subst e; rw [bt_or, hb, Bool.true_or]
    · exact hb
  · have h1 := mt (bt_or_left hok).mpr hne
    by_cases h2 : ∃ b, b < 32 ∧ bt y b = true ∧ bt (I a i) b = false
    · obtain ⟨b, hb, h3, h4⟩ := h2
      exact ⟨i, hi, b, hb, by rw [gu_at_eq rfl, bt_or, h3, Bool.or_true], h4⟩
    · refine absurd (fun b hb hy => ?_) h1
      cases h5 : bt (I a i) b
      · exact absurd ⟨b, hb, hy, h5⟩ h2
      · rfl
section FA
variable {u : Nat} {L : Nat → Nat → Int} {n : Nat}
theorem J7_fill_l {a N : Nat} {x : Int} (ha : h0S.getD a (0, 0) = (1, N)) (ha1 : a < 162) (hN : N ≤ 30000) : ∀ (m f i : Nat) (I : Nat → Nat → Int), i + m = N → m < f → ∃ J, l_J7_fill_53178_5 n f a x (i : Int) (N : Int) (hp u I L) = some (hp u J L) ∧ Fr [a] I J ∧ ∀ k, J a k = if i ≤ k ∧ k < N then x else I a k := by
  intro m
  induction m with
  | zero =>
    intro f i I hm hf
    obtain ⟨f', rfl⟩ : ∃ f', f = f' + 1 := ⟨f - 1, by omega⟩
    simp (disch := omega) only [l_J7_fill_53178_5, b_J7_fill_53178_5, Option.bind_some, nm_eq, sm_inl, sm_inr, zo_0, zo_1, rg_ok]
    rw [if_pos (by omega)]
    exact ⟨I, rfl, Fr.rf, fun k => by rw [if_neg (by omega)]⟩
  | succ m ih =>
    intro f i I hm hf
    obtain ⟨f', rfl⟩ : ∃ f', f = f' + 1 := ⟨f - 1, by omega⟩
    simp (disch := omega) only [l_J7_fill_53178_5, b_J7_fill_53178_5, Option.bind_some, nm_eq, sm_inl, sm_inr, zo_0, zo_1, rg_ok]
    rw [if_neg (by omega), hs0 ha ha1 (by omega) (by omega) (by omega)]
    simp only [Option.bind_some, nm_eq, sm_inl, sm_inr, zo_0, zo_1, Int.toNat_natCast]
    rw [show ((i : Int) + 1) = ((i + 1 : Nat) : Int) by omega]
    obtain ⟨J, e, hfr, hv⟩ := ih f' (i + 1) (gx_u I a i x) (by omega) (by omega)
    refine ⟨J, e, (Fr.rf.wr (List.mem_singleton.mpr rfl)).tr hfr, fun k => ?_⟩
    rw [hv k, gu_at]
    by_cases h1 : k = i
    · subst h1; rw [if_neg (by omega), if_pos rfl, if_pos (by omega)]
    · rw [if_neg h1]
      by_cases h2 : i + 1 ≤ k ∧ k < N
      · rw [if_pos h2, if_pos (by omega)]
      · rw [if_neg h2, if_neg (by omega)]
theorem J7_fill {a N : Nat} {x : Int} {I : Nat → Nat → Int} (hn : 1000000000000000000000000000000 ≤ n) (ha : h0S.getD a (0, 0) = (1, N)) (ha1 : a < 162) (hN : N ≤ 30000) : ∃ J, f_J7_fill_53178 n a x (hp u I L) = some (hp u J L) ∧ Fr [a] I J ∧ ∀ k, J a k = if k < N then x else I a k := by
  obtain ⟨J, e, h1, h2⟩ := J7_fill_l (u := u) (L := L) (n := n) (x := x) ha ha1 hN N n 0 I (by omega) (by omega)
  refine ⟨J, ?_, h1, fun k => by rw [h2 k]; simp⟩
  rw [f_J7_fill_53178, hl0 ha ha1 (by decide)]
  exact e
theorem X3_widen {a N i : Nat} {y : Int} {I : Nat → Nat → Int} (ha : h0S.getD a (0, 0) = (1, N)) (ha1 : a < 162) (hN : N ≤ 30000) (hi : i < N) (hok : gi_ok (I a i)) : f_X3_widen a (i : Int) y (hp u I L) = some (if gi_or (I a i) y = I a i then ((0 : Int), hp u I L) else ((1 : Int), hp u (gx_u I a i (gi_or (I a i) y)) L)) := by
  have h1 := bt_ok_or (I a i) y
  simp (disch := omega) only [f_X3_widen, Option.bind_some, nm_eq, sm_inl, sm_inr, zo_0, zo_1, rg_ok, hl0 ha ha1 (by decide), ha0 ha ha1, Int.toNat_natCast]
  rw [if_neg (by omega), if_neg (by omega)]
  by_cases h2 : gi_or (I a i) y = I a i
  · rw [if_pos h2, if_pos h2]
  · rw [if_neg h2, if_neg h2]
    simp (disch := omega) only [Option.bind_some, nm_eq, sm_inl, sm_inr, zo_0, zo_1, hs0 ha ha1, Int.toNat_natCast]
/-- the firsts and nullable ones that the class has found -/
def cFi (I : Nat → Nat → Int) (a t : Nat) : Prop := a < 16 ∧ t < 8 ∧ bt (I 65 (16 + a)) t = true
def cNi (I : Nat → Nat → Int) (a : Nat) : Prop := a < 16 ∧ bt (I 65 (16 + a)) 9 = true
/-- terminals begin with themselves; all numbers are in range, and have no other bits -/
def cTb (I : Nat → Nat → Int) : Prop := (∀ t, t < 8 → ∀ i, bt (I 65 t) i = decide (i = t)) ∧ (∀ k, k < 32 → gi_ok (I 65 k)) ∧ ∀ a, a < 16 → ∀ i, bt (I 65 (16 + a)) i = true → i < 8 ∨ i = 9
theorem cTb_fr {I J : Nat → Nat → Int} (h : J 65 = I 65) (q : cTb I) : cTb J := by unfold cTb; rw [h]; exact q
theorem cFi_fr {I J : Nat → Nat → Int} (h : J 65 = I 65) : cFi J = cFi I := by funext a t; unfold cFi; rw [h]
theorem cNi_fr {I J : Nat → Nat → Int} (h : J 65 = I 65) : cNi J = cNi I := by funext a; unfold cNi; rw [h]
variable {I : Nat → Nat → Int}
theorem cTb_first (h : cTb I) {s : Nat} (hs : s < 8 ∨ (16 ≤ s ∧ s < 32)) {i : Nat} (hi : i < 8) : bt (I 65 s) i = true ↔ syf (cFi I) s i := by
  rcases hs with hs | hs
  · rw [h.1 s hs i]
    simp only [decide_eq_true_eq, syf]
    constructor
    · intro e; exact Or.inl ⟨by omega, e⟩
    · rintro (⟨-, e⟩ | ⟨e, -⟩)
      · exact e
      · omega
  · have e : 16 + (s - 16) = s := by omega
    simp only [syf, cFi, e]
    constructor
    · intro q; exact Or.inr ⟨hs.1, by omega, hi, q⟩
    · rintro (⟨q, -⟩ | ⟨-, -, -, q⟩)
      · omega
      · exact q
theorem cTb_null (h : cTb I) {s : Nat} (hs : s < 8 ∨ (16 ≤ s ∧ s < 32)) : bt (I 65 s) 9 = true ↔ nls (cNi I) s := by
  rcases hs with hs | hs
  · rw [h.1 s hs 9]
    simp only [decide_eq_true_eq, nls]
    constructor
    · intro e; omega
    · rintro ⟨e, -⟩; omega
  · have e : 16 + (s - 16) = s := by omega
    simp only [nls, cNi, e]
    constructor
    · intro q; exact ⟨hs.1, by omega, q⟩
    · rintro ⟨-, -, q⟩; exact q
theorem X3_beginOf (s : Nat) (hs : s < 32) : f_X3_beginOf 64 (s : Int) (hp u I L) = some (I 65 s) := by
  simp (disch := omega) only [f_X3_beginOf, b_X3_beginOf_19, hi_F, hG_F_0, hg_F_1, hq_F_1, hg_F_2, hq_F_2, hg_F_3, hq_F_3, hg_F_4, hq_F_4, hG_F_5, hG_F_6, hG_F_7, hG_F_8, hG_F_9, hg_F_10, hq_F_10, hG_F_11, hG_F_12, hG_F_13, ha_65, hs_65, hl_65, Option.bind_some, nm_eq, sm_inl, sm_inr, zo_0, zo_1, rg_ok, Int.toNat_natCast]
  rw [if_neg (by omega), if_neg (by omega)]
theorem X3_beg_l (hw : GW (gU u) I) (hT : cTb I) {p : Nat} (hp1 : p < 1000) : ∀ (m f k : Nat) (acc : Int), Gl (cG I (gU u)) p = k + m ∨ (m = 0 ∧ Gl (cG I (gU u)) p ≤ k ∧ k < 1000) → m < f → gi_ok acc → ∃ r, l_X3_beginnings_5 n f 64 (p : Int) acc (k : Int) (hp u I L) = some r ∧ gi_ok r ∧ ∀ i, bt r i = true ↔ bt acc i = true ∨ (i < 8 ∧ fsF (cG I (gU u)) (cNi I) (cFi I) p k i) ∨ (i = 9 ∧ emF (cG I (gU u)) (cNi I) p k) := by
  have h5 := cG_l5 (p := p) hw
  intro m
  induction m with
  | zero =>
    intro f k acc hm hf hok
    obtain ⟨f', rfl⟩ : ∃ f', f = f' + 1 := ⟨f - 1, by omega⟩
    simp (disch := omega) only [l_X3_beginnings_5, b_X3_beginnings_5, b_X3_beginnings_60, hi_F, hG_F_0, hg_F_1, hq_F_1, hg_F_2, hq_F_2, hg_F_3, hq_F_3, hg_F_4, hq_F_4, hG_F_5, hG_F_6, hG_F_7, hG_F_8, hG_F_9, hg_F_10, hq_F_10, hG_F_11, hG_F_12, hG_F_13, Option.bind_some, nm_eq, sm_inl, sm_inr, zo_0, zo_1, hi_G (gU_mem u), X4_length (gU_mem u) hw hp1, rg_ok]
    rw [if_pos (by omega)]
    have e1 : ∀ i, ¬ fsF (cG I (gU u)) (cNi I) (cFi I) p k i := fun i => fsF_end (by omega)
    have e2 : emF (cG I (gU u)) (cNi I) p k := emF_end (by omega)
    refine ⟨_, rfl, bt_ok_or _ _, fun i => ?_⟩
    rw [bt_or, bt_512]
    simp [e1, e2]
  | succ m ih =>
    intro f k acc hm hf hok
    obtain ⟨f', rfl⟩ : ∃ f', f = f' + 1 := ⟨f - 1, by omega⟩
    have hk : k < Gl (cG I (gU u)) p := by omega
    have hs := cG_sr hw hk
    have hb : gi_ok (I 65 (Gs (cG I (gU u)) p k)) := hT.2.1 _ (by omega)
    simp (disch := omega) only [l_X3_beginnings_5, b_X3_beginnings_5, b_X3_beginnings_60, hi_F, hG_F_0, hg_F_1, hq_F_1, hg_F_2, hq_F_2, hg_F_3, hq_F_3, hg_F_4, hq_F_4, hG_F_5, hG_F_6, hG_F_7, hG_F_8, hG_F_9, hg_F_10, hq_F_10, hG_F_11, hG_F_12, hG_F_13, Option.bind_some, nm_eq, sm_inl, sm_inr, zo_0, zo_1, hi_G (gU_mem u), X4_length (gU_mem u) hw hp1, X4_symbol (gU_mem u) hw hk, X3_beginOf, rg_ok]
    rw [if_neg (by omega)]
    have h1 := bt_ok_and (I 65 (Gs (cG I (gU u)) p k)) 512
    simp (disch := omega) only [Option.bind_some, nm_eq, sm_inl, sm_inr, zo_0, zo_1, rg_ok]
    by_cases h9 : bt (I 65 (Gs (cG I (gU u)) p k)) 9 = true
    · rw [if_neg (by rw [bt_and512, h9]; decide), show ((k : Int) + 1) = ((k + 1 : Nat) : Int) by omega]
      obtain ⟨r, e, ho, hr⟩ := ih f' (k + 1) (gi_or acc (gi_and (I 65 (Gs (cG I (gU u)) p k)) 255)) (by omega) (by omega) (bt_ok_or _ _)
      refine ⟨r, e, ho, fun i => ?_⟩
      rw [hr i, fsF_step hk, emF_step hk, bt_or, bt_and, bt_255, ← cTb_null hT hs]
      simp only [Bool.or_eq_true, Bool.and_eq_true, decide_eq_true_eq, h9, true_and]
      by_cases hi : i < 8
      · rw [cTb_first hT hs hi]
        simp only [hi, true_and, and_true, show ¬ i = 9 by omega, false_and, or_false]
        exact ⟨fun q => q.elim (fun z => z.elim Or.inl (fun y => Or.inr (Or.inl y))) (fun z => Or.inr (Or.inr z)), fun q => q.elim (fun z => Or.inl (Or.inl z)) (fun z => z.elim (fun y => Or.inl (Or.inr y)) Or.inr)⟩
      · simp only [hi, false_and, and_false, or_false, false_or]
    · rw [if_pos (by rw [bt_and512]; exact Bool.not_eq_true _ ▸ h9)]
      refine ⟨_, rfl, bt_ok_or _ _, fun i => ?_⟩
      rw [fsF_step hk, emF_step hk, bt_or, bt_and, bt_255, ← cTb_null hT hs]
      simp only [Bool.or_eq_true, Bool.and_eq_true, decide_eq_true_eq, h9, Bool.false_eq_true, false_and, and_false, or_false]
      by_cases hi : i < 8
      · rw [cTb_first hT hs hi]; simp only [hi, true_and, and_true]
      · simp only [hi, false_and, and_false]
theorem X3_beg (hn : 1000000000000000000000000000000 ≤ n) (hw : GW (gU u) I) (hT : cTb I) {p k : Nat} (hp1 : p < 1000) (hk1 : k < 1000) : ∃ r, f_X3_beginnings n 64 (p : Int) (k : Int) (hp u I L) = some r ∧ gi_ok r ∧ ∀ i, bt r i = true ↔ (i < 8 ∧ fsF (cG I (gU u)) (cNi I) (cFi I) p k i) ∨ (i = 9 ∧ emF (cG I (gU u)) (cNi I) p k) := by
  have h5 := cG_l5 (p := p) hw
  obtain ⟨r, e, h1, h2⟩ := X3_beg_l (n := n) (L := L) hw hT hp1 (Gl (cG I (gU u)) p - k) n k 0 (by omega) (by omega) (by decide)
  refine ⟨r, e, h1, fun i => ?_⟩
  rw [h2 i, bt_zero]
  simp
end FA
