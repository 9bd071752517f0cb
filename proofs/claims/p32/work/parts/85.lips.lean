/-! ===== a sentence one edit away has a repair at most one away ===== -/
def SF9 (g : GT) (w : Nat → Nat) (r : CV) (nw : Nat) : Prop := (∀ a x y, r a x y ≤ 99) ∧ ∀ x y, x ≤ y → y ≤ nw → (∀ p, p < Gn g → r (Go g p) x y ≤ sE g w r p x y) ∧ ∀ t : Nat → Nat, (∀ b, t b ≤ 99) → (∀ p, p < Gn g → t (Go g p) ≤ sE g w (vs r x y t) p x y) → ∀ a, a < 16 → t a ≤ r a x y
/-- a terminal is put in at q -/
def INS (w w' : Nat → Nat) (q : Nat) : Prop := (∀ i, i < q → w' i = w i) ∧ ∀ i, q ≤ i → w' (i + 1) = w i
def psi1 (q i : Nat) : Nat := if i ≤ q then i else i - 1
def inc (q x y : Nat) : Nat := if x ≤ q ∧ q < y then 1 else 0
section LI_
variable {g : GT} {w w' : Nat → Nat} {q : Nat}
theorem SF9_of (hg : GR g) {nw : Nat} (hnw : nw ≤ 12) {v : CV} (hv : vB v) (h : FIX (opR g w) g (fun v x y z => KG (PhE g w v x y) z) v (fun x y => x ≤ y ∧ y ≤ nw)) : SF9 g w (fi v) nw := by
  refine ⟨fi_le v, fun x y hxy hy => ?_⟩
  obtain ⟨h1, h2⟩ := h x y ⟨hxy, hy⟩
  refine ⟨fun p hp => ?_, fun t ht hc a ha => ?_⟩
  · have e : fi v (Go g p) x y = gF (opS g w) g (fi v) (Go g p) x y (Gn g) := by
      rw [← gF_S hxy (by omega)]
      show mn 99 (v (Go g p) x y) = _
      rw [h1 _ (hg.2.2.1 p)]
      rfl
    rw [e]
    exact gF_le_p _ p hp rfl
  · have h3 := h2.2 t (fun b => Nat.le_trans (ht b) (by omega)) (fun b hb => ?_) a ha
    · show t a ≤ mn 99 (v a x y)
      have := ht a
      unfold mn
      split <;> omega
    · have e : mn 99 (PhE g w v x y t b) = gF (opS g w) g (vs (fi v) x y t) b x y (Gn g) := by
        rw [← fi_vs ht, ← gF_S hxy (by omega)]
        rfl
      have h4 : t b ≤ gF (opS g w) g (vs (fi v) x y t) b x y (Gn g) := le_gF_p (ht b) _ (fun p hp ho => by rw [← ho]; exact hc p hp)
      rw [← e] at h4
      exact Nat.le_trans h4 (mn_le _ _).2
theorem htm_iff {s x : Nat} {c : Nat} : htm w s x c = true ↔ ∃ j, j < c ∧ w (x + j) = s := by
  constructor
  · intro h
    refine Classical.byContradiction fun z => ?_
    rw [htm_f c (fun j hj e => z ⟨j, hj, e⟩)] at h
    exact absurd h (by decide)
  · rintro ⟨j, hj, e⟩
    exact htm_t c hj e
theorem inc_add {x m y : Nat} (h1 : x ≤ m) (h2 : m ≤ y) : inc q x m + inc q m y = inc q x y := by
  unfold inc
  by_cases c1 : x ≤ q ∧ q < m
  · rw [if_pos c1, if_neg (by omega), if_pos (by omega)]
  · rw [if_neg c1]
    by_cases c2 : m ≤ q ∧ q < y
    · rw [if_pos c2, if_pos (by omega)]
    · rw [if_neg c2, if_neg (by omega)]
theorem psm_mono {x y : Nat} (h : x ≤ y) : psi1 q x ≤ psi1 q y := by
  unfold psi1
  split <;> split <;> omega
theorem psi_len {x y : Nat} (h : x ≤ y) : psi1 q y - psi1 q x + inc q x y = y - x ∧ psi1 q x ≤ x := by
  unfold psi1 inc
  by_cases c1 : x ≤ q
  · rw [if_pos c1]
    by_cases c2 : y ≤ q
    · rw [if_pos c2, if_neg (by omega)]; omega
    · rw [if_neg c2, if_pos (by omega)]; omega
  · rw [if_neg c1, if_neg (by omega), if_neg (by omega)]; omega
/-- what is outside of the place is the same -/
theorem eT_same (hI : INS w w' q) {s x y : Nat} (hxy : x ≤ y) (h0 : inc q x y = 0) : eTm w s (psi1 q x) (psi1 q y) = eTm w' s x y := by
  have h1 : y ≤ q ∨ q < x := by
    unfold inc at h0
    split at h0
    · omega
    · omega
  have hl := (psi_len (q := q) hxy).1
  have hh : htm w s (psi1 q x) (y - x) = htm w' s x (y - x) := by
    have : htm w s (psi1 q x) (y - x) = true ↔ htm w' s x (y - x) = true := by
      rw [htm_iff, htm_iff]
      rcases h1 with z | z
      · have e : psi1 q x = x := if_pos (by omega)
        rw [e]
        exact ⟨fun ⟨j, a, b⟩ => ⟨j, a, by rw [hI.1 _ (by omega)]; exact b⟩, fun ⟨j, a, b⟩ => ⟨j, a, by rw [← hI.1 _ (by omega)]; exact b⟩⟩
      · have e : psi1 q x = x - 1 := if_neg (by omega)
        rw [e]
        exact ⟨fun ⟨j, a, b⟩ => ⟨j, a, by rw [show x + j = (x - 1 + j) + 1 by omega, hI.2 _ (by omega)]; exact b⟩, fun ⟨j, a, b⟩ => ⟨j, a, by rw [← hI.2 _ (by omega), show x - 1 + j + 1 = x + j by omega]; exact b⟩⟩
    cases c : htm w' s x (y - x) with
    | true => exact this.mpr c
    | false =>
      cases c2 : htm w s (psi1 q x) (y - x) with
      | true => rw [this.mp c2] at c; exact absurd c (by decide)
      | false => rfl
  unfold eTm
  rw [show psi1 q y - psi1 q x = y - x by omega, hh]
  have hm := psm_mono (q := q) hxy
  by_cases c : x = y
  · rw [if_pos c, if_pos (by rw [c])]
  · rw [if_neg c, if_neg (by omega)]
theorem eT_two (hI : INS w w' q) {s x y : Nat} (hxy : x ≤ y) : eTm w s (psi1 q x) (psi1 q y) ≤ eTm w' s x y + inc q x y ∧ eTm w' s x y ≤ eTm w s (psi1 q x) (psi1 q y) + inc q x y := by
  by_cases h0 : inc q x y = 0
  · rw [eT_same hI hxy h0, h0]; exact ⟨Nat.le_refl _, Nat.le_refl _⟩
  · have hin : x ≤ q ∧ q < y := by
      unfold inc at h0
      split at h0
      · assumption
      · omega
    have ei : inc q x y = 1 := if_pos hin
    have ex : psi1 q x = x := if_pos hin.1
    have ey : psi1 q y = y - 1 := if_neg (by omega)
    rw [ei, ex, ey]
    have hhh : htm w s x (y - 1 - x) = true → htm w' s x (y - x) = true := by
      rw [htm_iff, htm_iff]
      rintro ⟨j, a, b⟩
      by_cases c : x + j < q
      · exact ⟨j, by omega, by rw [hI.1 _ c]; exact b⟩
      · exact ⟨j + 1, by omega, by rw [show x + (j + 1) = (x + j) + 1 by omega, hI.2 _ (by omega)]; exact b⟩
    unfold eTm
    rw [if_neg (show x ≠ y by omega)]
    by_cases c : x = y - 1
    · rw [if_pos c]
      constructor
      · split <;> omega
      · split <;> omega
    · rw [if_neg c]
      by_cases c1 : htm w s x (y - 1 - x) = true
      · rw [if_pos c1, if_pos (hhh c1)]; omega
      · rw [if_neg c1]
        constructor
        · split <;> omega
        · split <;> omega
theorem gsv_two (hI : INS w w' q) {e e' : CV} {s x y : Nat} (hs : s < 8 ∨ (16 ≤ s ∧ s < 32)) (hxy : x ≤ y) : ((∀ b, b < 16 → e b (psi1 q x) (psi1 q y) ≤ e' b x y + inc q x y) → gsv (opS g w) e s (psi1 q x) (psi1 q y) ≤ gsv (opS g w') e' s x y + inc q x y) ∧ ((∀ b, b < 16 → e' b x y ≤ e b (psi1 q x) (psi1 q y) + inc q x y) → gsv (opS g w') e' s x y ≤ gsv (opS g w) e s (psi1 q x) (psi1 q y) + inc q x y) := by
  unfold gsv
  by_cases c : s < 16
  · rw [if_pos c, if_pos c]
    exact ⟨fun _ => (eT_two hI hxy).1, fun _ => (eT_two hI hxy).2⟩
  · rw [if_neg c, if_neg c]
    exact ⟨fun h => h _ (by omega), fun h => h _ (by omega)⟩
theorem mn9 (a b : Nat) : mn a b ≤ a ∧ mn a b ≤ b ∧ (mn a b = a ∨ mn a b = b) := by
  unfold mn
  split <;> omega
/-- sums of parts: the one without the terminal is at most one more -/
theorem gD_ins2 (hg : GR g) (hI : INS w w' q) {e e' : CV} {x0 y0 : Nat} (hy0 : y0 ≤ 12) (H : ∀ b, b < 16 → ∀ x y, x0 ≤ x → x ≤ y → y ≤ y0 → e b (psi1 q x) (psi1 q y) ≤ e' b x y + inc q x y) {p : Nat} : ∀ (k y : Nat), k ≤ Gl g p → x0 ≤ y → y ≤ y0 → gD (opS g w) g e p k (psi1 q x0) (psi1 q y) ≤ gD (opS g w') g e' p k x0 y + inc q x0 y
  | 0, y, _, h1, _ => by
    show psi1 q y - psi1 q x0 ≤ y - x0 + inc q x0 y
    have := psi_len (q := q) h1
    omega
  | k + 1, y, hk, h1, h2 => by
    have hp1 := psi_len (q := q) h1
    have hpm := psm_mono (q := q) h1
    have hp2 := (psi_len (q := q) (Nat.le_refl y)).2
    have h99 := (gD_99 (g := g) (w := w) (v := e) (p := p) (k := k + 1) hpm (by omega)).1
    have key : gD (opS g w) g e p (k + 1) (psi1 q x0) (psi1 q y) - inc q x0 y ≤ gD (opS g w') g e' p (k + 1) x0 y := by
      rw [gD_s (o := opS g w')]
      refine le_gfo (by omega) _ (fun i hi => ?_)
      have a1 : x0 ≤ x0 + i := by omega
      have a2 : x0 + i ≤ y := by omega
      have hm1 := psm_mono (q := q) a1
      have hm2 := psm_mono (q := q) a2
      have f1 := (gfo_at (g := g) (w := w) (f := fun j => oO (opS g w) (gD (opS g w) g e p k (psi1 q x0) (psi1 q x0 + j)) (gsv (opS g w) e (Gs g p k) (psi1 q x0 + j) (psi1 q y))) (psi1 q y + 1 - psi1 q x0) (psi1 q (x0 + i) - psi1 q x0) (by omega)).1
      rw [← gD_s (o := opS g w), show psi1 q x0 + (psi1 q (x0 + i) - psi1 q x0) = psi1 q (x0 + i) by omega] at f1
      have i1 := gD_ins2 hg hI hy0 H (p := p) k (x0 + i) (by omega) a1 (by omega)
      have i2 := (gsv_two (g := g) hI (e := e) (e' := e') (hg.2.2.2.2.2 p k (by omega)) a2).1 (fun b hb => H b hb _ _ a1 a2 h2)
      have ia := inc_add (q := q) a1 a2
      have f1 : gD (opS g w) g e p (k + 1) (psi1 q x0) (psi1 q y) ≤ mn 99 (gD (opS g w) g e p k (psi1 q x0) (psi1 q (x0 + i)) + gsv (opS g w) e (Gs g p k) (psi1 q (x0 + i)) (psi1 q y)) := f1
      show _ ≤ mn 99 (gD (opS g w') g e' p k x0 (x0 + i) + gsv (opS g w') e' (Gs g p k) (x0 + i) y)
      have m1 := mn9 99 (gD (opS g w) g e p k (psi1 q x0) (psi1 q (x0 + i)) + gsv (opS g w) e (Gs g p k) (psi1 q (x0 + i)) (psi1 q y))
      have m2 := mn9 99 (gD (opS g w') g e' p k x0 (x0 + i) + gsv (opS g w') e' (Gs g p k) (x0 + i) y)
      omega
    omega
theorem psi_pre {x0 y m : Nat} (h1 : psi1 q x0 ≤ m) (h2 : m ≤ psi1 q y) (hxy : x0 ≤ y) : ∃ m', psi1 q m' = m ∧ x0 ≤ m' ∧ m' ≤ y := by
  by_cases c1 : m = psi1 q x0
  · exact ⟨x0, c1.symm, Nat.le_refl _, hxy⟩
  · by_cases c2 : m = psi1 q y
    · exact ⟨y, c2.symm, hxy, Nat.le_refl _⟩
    · refine ⟨if m ≤ q then m else m + 1, ?_, ?_, ?_⟩
      · by_cases c3 : m ≤ q
        · rw [if_pos c3]; exact if_pos c3
        · rw [if_neg c3]; exact (if_neg (by omega)).trans (by omega)
      · unfold psi1 at h1 c1
        split at h1 <;> split <;> simp_all <;> omega
      · unfold psi1 at h2 c2
        split at h2 <;> split <;> simp_all <;> omega
/-- and the other way round -/
theorem gD_ins1 (hg : GR g) (hI : INS w w' q) {e e' : CV} {x0 y0 : Nat} (hy0 : y0 ≤ 12) (H : ∀ b, b < 16 → ∀ x y, x0 ≤ x → x ≤ y → y ≤ y0 → e' b x y ≤ e b (psi1 q x) (psi1 q y) + inc q x y) {p : Nat} : ∀ (k y : Nat), k ≤ Gl g p → x0 ≤ y → y ≤ y0 → gD (opS g w') g e' p k x0 y ≤ gD (opS g w) g e p k (psi1 q x0) (psi1 q y) + inc q x0 y
  | 0, y, _, h1, _ => by
    show y - x0 ≤ psi1 q y - psi1 q x0 + inc q x0 y
    have := psi_len (q := q) h1
    omega
  | k + 1, y, hk, h1, h2 => by
    have hpm := psm_mono (q := q) h1
    have h99 := (gD_99 (g := g) (w := w') (v := e') (p := p) (k := k + 1) h1 (by omega)).1
    have key : gD (opS g w') g e' p (k + 1) x0 y - inc q x0 y ≤ gD (opS g w) g e p (k + 1) (psi1 q x0) (psi1 q y) := by
      rw [gD_s (o := opS g w)]
      refine le_gfo (by omega) _ (fun i hi => ?_)
      obtain ⟨m', em, a1, a2⟩ := psi_pre (q := q) (x0 := x0) (y := y) (m := psi1 q x0 + i) (by omega) (by omega) h1
      have f1 := (gfo_at (g := g) (w := w') (f := fun j => oO (opS g w') (gD (opS g w') g e' p k x0 (x0 + j)) (gsv (opS g w') e' (Gs g p k) (x0 + j) y)) (y + 1 - x0) (m' - x0) (by omega)).1
      rw [← gD_s (o := opS g w'), show x0 + (m' - x0) = m' by omega] at f1
      have i1 := gD_ins1 hg hI hy0 H (p := p) k m' (by omega) a1 (by omega)
      have i2 := (gsv_two (g := g) hI (e := e) (e' := e') (hg.2.2.2.2.2 p k (by omega)) a2).2 (fun b hb => H b hb _ _ a1 a2 h2)
      have ia := inc_add (q := q) a1 a2
      rw [em] at i1 i2
      have f1 : gD (opS g w') g e' p (k + 1) x0 y ≤ mn 99 (gD (opS g w') g e' p k x0 m' + gsv (opS g w') e' (Gs g p k) m' y) := f1
      show _ ≤ mn 99 (gD (opS g w) g e p k (psi1 q x0) (psi1 q x0 + i) + gsv (opS g w) e (Gs g p k) (psi1 q x0 + i) (psi1 q y))
      have m1 := mn9 99 (gD (opS g w') g e' p k x0 m' + gsv (opS g w') e' (Gs g p k) m' y)
      have m2 := mn9 99 (gD (opS g w) g e p k (psi1 q x0) (psi1 q x0 + i) + gsv (opS g w) e (Gs g p k) (psi1 q x0 + i) (psi1 q y))
      omega
    omega
section LM
variable {nw : Nat} {r r' : CV}
theorem psi_top (hq : q ≤ nw) {y : Nat} (hy : y ≤ nw + 1) : psi1 q y ≤ nw := by
  unfold psi1
  split <;> omega
theorem lip2 (hg : GR g) (hI : INS w w' q) (hq : q ≤ nw) (hnw : nw + 1 ≤ 12) (h : SF9 g w r nw) (h' : SF9 g w' r' (nw + 1)) : ∀ (W x y : Nat), y - x < W → x ≤ y → y ≤ nw + 1 → ∀ a, a < 16 → r a (psi1 q x) (psi1 q y) ≤ r' a x y + inc q x y
  | 0, x, y, z, _, _, _, _ => absurd z (by omega)
  | W + 1, x, y, hW, hxy, hy, a, ha => by
    have ih := lip2 hg hI hq hnw h h' W
    have h1 := (h'.2 x y hxy hy).2 (fun b => r b (psi1 q x) (psi1 q y) - inc q x y) (fun b => by have := h.1 b (psi1 q x) (psi1 q y); show _ - _ ≤ 99; omega) (fun p hp => ?_) a ha
    · have h1 : r a (psi1 q x) (psi1 q y) - inc q x y ≤ r' a x y := h1
      omega
    · have c1 := (h.2 (psi1 q x) (psi1 q y) (psm_mono hxy) (psi_top hq hy)).1 p hp
      have c2 := gD_ins2 hg hI (e := r) (e' := vs r' x y (fun b => r b (psi1 q x) (psi1 q y) - inc q x y)) (x0 := x) (y0 := y) (by omega) (fun b hb x1 y1 a1 a2 a3 => by
        by_cases c : x1 = x ∧ y1 = y
        · rw [c.1, c.2, vs_eq]; omega
        · rw [vs_ne c]
          exact ih x1 y1 (by omega) a2 (by omega) b hb) (p := p) (Gl g p) y (Nat.le_refl _) hxy (Nat.le_refl _)
      unfold sE at c1 ⊢
      show r (Go g p) (psi1 q x) (psi1 q y) - inc q x y ≤ _
      omega
def lo1 (q X : Nat) : Nat := if X ≤ q then X else X + 1
def hi1 (q X : Nat) : Nat := if X < q then X else X + 1
theorem psi_inv {x X : Nat} (h : psi1 q x = X) : x = lo1 q X ∨ x = hi1 q X := by
  unfold psi1 at h
  unfold lo1 hi1
  split at h <;> split <;> split <;> omega
theorem psi_lo {X : Nat} : psi1 q (lo1 q X) = X ∧ psi1 q (hi1 q X) = X ∧ lo1 q X ≤ X + 1 ∧ hi1 q X ≤ X + 1 := by
  unfold lo1 hi1
  by_cases c1 : X < q
  · rw [if_pos c1, if_pos (by omega)]
    exact ⟨if_pos (by omega), if_pos (by omega), by omega, by omega⟩
  · rw [if_neg c1]
    refine ⟨?_, (if_neg (by omega)).trans (by omega), by split <;> omega, by omega⟩
    split
    · exact if_pos (by omega)
    · exact (if_neg (by omega)).trans (by omega)
def cd1 (q : Nat) (r' : CV) (b i j : Nat) : Nat := if i ≤ j then r' b i j - inc q i j else 0
def sp1 (q : Nat) (r' : CV) (X Y b : Nat) : Nat := Nat.max (Nat.max (cd1 q r' b (lo1 q X) (lo1 q Y)) (cd1 q r' b (lo1 q X) (hi1 q Y))) (Nat.max (cd1 q r' b (hi1 q X) (lo1 q Y)) (cd1 q r' b (hi1 q X) (hi1 q Y)))
theorem sp1_ge {X Y b i j : Nat} (hi : psi1 q i = X) (hj : psi1 q j = Y) (hij : i ≤ j) : r' b i j - inc q i j ≤ sp1 q r' X Y b := by
  have e : r' b i j - inc q i j = cd1 q r' b i j := (if_pos hij).symm
  rw [e]
  unfold sp1
  rcases psi_inv hi with z | z <;> rcases psi_inv hj with z' | z' <;> rw [z, z']
  · exact Nat.le_trans (Nat.le_max_left _ _) (Nat.le_max_left _ _)
  · exact Nat.le_trans (Nat.le_max_right _ _) (Nat.le_max_left _ _)
  · exact Nat.le_trans (Nat.le_max_left _ _) (Nat.le_max_right _ _)
  · exact Nat.le_trans (Nat.le_max_right _ _) (Nat.le_max_right _ _)
theorem sp1_le {X Y b B : Nat} (h : ∀ i j, psi1 q i = X → psi1 q j = Y → i ≤ j → i ≤ X + 1 → j ≤ Y + 1 → r' b i j - inc q i j ≤ B) : sp1 q r' X Y b ≤ B := by
  have hx := psi_lo (q := q) (X := X)
  have hy := psi_lo (q := q) (X := Y)
  have hc : ∀ i j, psi1 q i = X → psi1 q j = Y → i ≤ X + 1 → j ≤ Y + 1 → cd1 q r' b i j ≤ B := by
    intro i j a1 a2 a3 a4
    unfold cd1
    split
    · next hle => exact h i j a1 a2 hle a3 a4
    · omega
  unfold sp1
  exact Nat.max_le.mpr ⟨Nat.max_le.mpr ⟨hc _ _ hx.1 hy.1 hx.2.2.1 hy.2.2.1, hc _ _ hx.1 hy.2.1 hx.2.2.1 hy.2.2.2⟩, Nat.max_le.mpr ⟨hc _ _ hx.2.1 hy.1 hx.2.2.2 hy.2.2.1, hc _ _ hx.2.1 hy.2.1 hx.2.2.2 hy.2.2.2⟩⟩
theorem lip1 (hg : GR g) (hI : INS w w' q) (hnw : nw + 1 ≤ 12) (h : SF9 g w r nw) (h' : SF9 g w' r' (nw + 1)) : ∀ (W X Y : Nat), Y - X < W → X ≤ Y → Y ≤ nw → ∀ a, a < 16 → ∀ x y, psi1 q x = X → psi1 q y = Y → x ≤ y → r' a x y ≤ r a X Y + inc q x y
  | 0, X, Y, z, _, _, _, _, _, _, _, _, _ => absurd z (by omega)
  | W + 1, X, Y, hW, hXY, hY, a, ha, x, y, hx, hy, hxy => by
    have ih := lip1 hg hI hnw h h' W
    have h1 := (h.2 X Y hXY hY).2 (sp1 q r' X Y) (fun b => sp1_le (fun i j _ _ _ _ _ => by have := h'.1 b i j; omega)) (fun p hp => sp1_le (fun i j e1 e2 hij l1 l2 => ?_)) a ha
    · have h2 := sp1_ge (r' := r') (b := a) hx hy hxy
      omega
    · have c1 := (h'.2 i j hij (by omega)).1 p hp
      have c2 := gD_ins1 hg hI (e := vs r X Y (sp1 q r' X Y)) (e' := r') (x0 := i) (y0 := j) (by omega) (fun b hb x1 y1 a1 a2 a3 => by
        have m1 := psm_mono (q := q) a1
        have m2 := psm_mono (q := q) a2
        have m3 := psm_mono (q := q) a3
        by_cases c : psi1 q x1 = X ∧ psi1 q y1 = Y
        · rw [c.1, c.2, vs_eq]
          have := sp1_ge (r' := r') (b := b) c.1 c.2 a2
          omega
        · rw [vs_ne c]
          exact ih _ _ (by omega) m2 (by omega) b hb x1 y1 rfl rfl a2) (p := p) (Gl g p) j (Nat.le_refl _) hij (Nat.le_refl _)
      rw [e1, e2] at c2
      unfold sE at c1 ⊢
      omega
theorem rep_lip (hg : GR g) (hI : INS w w' q) (hq : q ≤ nw) (hnw : nw + 1 ≤ 12) (h : SF9 g w r nw) (h' : SF9 g w' r' (nw + 1)) {a : Nat} (ha : a < 16) : r a 0 nw ≤ r' a 0 (nw + 1) + 1 ∧ r' a 0 (nw + 1) ≤ r a 0 nw + 1 := by
  have e0 : psi1 q 0 = 0 := if_pos (by omega)
  have e1 : psi1 q (nw + 1) = nw := (if_neg (by omega)).trans (by omega)
  have ei : inc q 0 (nw + 1) = 1 := if_pos ⟨by omega, by omega⟩
  have h1 := lip2 hg hI hq hnw h h' (nw + 2) 0 (nw + 1) (by omega) (by omega) (Nat.le_refl _) a ha
  have h2 := lip1 hg hI hnw h h' (nw + 2) 0 nw (by omega) (by omega) (Nat.le_refl _) a ha 0 (nw + 1) e0 e1 (by omega)
  rw [e0, e1, ei] at h1
  rw [ei] at h2
  exact ⟨h1, h2⟩
end LM
end LI_
