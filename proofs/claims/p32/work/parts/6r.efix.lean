/-! ===== fewest edits: the class's and the reference's are the same ===== -/
theorem mn_mono {a b a' b' : Nat} (h1 : a ≤ a') (h2 : b ≤ b') : mn a b ≤ mn a' b' := by unfold mn; split <;> split <;> omega
theorem mn_i (a b : Nat) : mn a b = if b < a then b else a := rfl
/-- both with at most 99: the class's way, with what is ahead taken out; the reference's way -/
def opS (_ : GT) (w : Nat → Nat) : OP := (99, fun x y => y - x, eTm w, fun a b => mn 99 (a + b), fun a b => mn a b, fun _ s => s)
def opS' (_ : GT) (w : Nat → Nat) : OP := (99, fun x y => if x = y then 0 else 99, eTm w, fun a b => mn 99 (a + b), fun a b => mn a b, fun _ s => s)
def fi (v : CV) : CV := fun a x y => mn 99 (v a x y)
theorem fi_le (v : CV) (a x y : Nat) : fi v a x y ≤ 99 := (mn_le 99 _).1
theorem mn_id {a : Nat} (h : a ≤ 99) : mn 99 a = a := by unfold mn; split <;> omega
theorem fi_vs {v : CV} {x y : Nat} {t : Nat → Nat} (ht : ∀ b, t b ≤ 99) : fi (vs v x y t) = vs (fi v) x y t := by
  funext a x' y'
  unfold fi vs
  split
  · exact mn_id (ht a)
  · rfl
section EF
variable {g : GT} {w : Nat → Nat}
theorem gsv_S {v : CV} {s x y : Nat} (h1 : x ≤ y) (h2 : y ≤ 12) : mn 99 (gsv (opR g w) v s x y) = gsv (opS g w) (fi v) s x y := by
  unfold gsv
  split
  · show mn 99 (eTm w s x y) = eTm w s x y
    have := eTm_le (w := w) (s := s) h1 h2
    exact mn_id (by omega)
  · rfl
theorem gsv_S' {v : CV} {s x y : Nat} (h1 : x ≤ y) (h2 : y ≤ 12) : mn 99 (gsv (opQ g w) v s x y) = gsv (opS' g w) (fi v) s x y := by
  unfold gsv
  split
  · show mn 99 (eTm w s x y) = eTm w s x y
    have := eTm_le (w := w) (s := s) h1 h2
    exact mn_id (by omega)
  · rfl
theorem oO_S (a b : Nat) : mn 99 (oO (opR g w) a b) = mn 99 (mn 99 a + mn 99 b) := by
  show mn 99 (if a = 1000 ∨ b = 1000 then 1000 else mn 99 (a + b)) = _
  unfold mn
  repeat' split
  all_goals omega
theorem oO_S' (a b : Nat) : mn 99 (oO (opQ g w) a b) = mn 99 (mn 99 a + mn 99 b) := by
  show mn 99 (a + b) = _
  unfold mn
  repeat' split
  all_goals omega
theorem mn_mn (a b : Nat) : mn 99 (mn a b) = mn (mn 99 a) (mn 99 b) := by
  unfold mn
  repeat' split
  all_goals omega
theorem gfo_S {f f' : Nat → Nat} : ∀ c, (∀ i, i < c → mn 99 (f i) = f' i) → mn 99 (gfo (opR g w) f c) = gfo (opS g w) f' c
  | 0, _ => rfl
  | c + 1, h => by
    rw [gfo_s, gfo_s, ← gfo_S c (fun i hi => h i (by omega)), ← h c (by omega)]
    exact mn_mn _ _
theorem gfo_S' {f f' : Nat → Nat} : ∀ c, (∀ i, i < c → mn 99 (f i) = f' i) → mn 99 (gfo (opQ g w) f c) = gfo (opS' g w) f' c
  | 0, _ => rfl
  | c + 1, h => by
    rw [gfo_s, gfo_s, ← gfo_S' c (fun i hi => h i (by omega)), ← h c (by omega)]
    exact mn_mn _ _
theorem gD_S {v : CV} {p x : Nat} : ∀ (k y : Nat), x ≤ y → y ≤ 12 → mn 99 (gD (opR g w) g v p k x y) = gD (opS g w) g (fi v) p k x y
  | 0, y, _, h => mn_id (show y - x ≤ 99 by omega)
  | k + 1, y, h1, h2 => by
    rw [gD_s, gD_s]
    refine gfo_S _ (fun i hi => ?_)
    rw [oO_S, gD_S k (x + i) (by omega) (by omega), gsv_S (by omega) h2]
    rfl
theorem gD_S' {v : CV} {p x : Nat} : ∀ (k y : Nat), x ≤ y → y ≤ 12 → mn 99 (gD (opQ g w) g v p k x y) = gD (opS' g w) g (fi v) p k x y
  | 0, y, _, h => by
    show mn 99 (if x = y then 0 else 100) = if x = y then 0 else 99
    split <;> rfl
  | k + 1, y, h1, h2 => by
    rw [gD_s, gD_s]
    refine gfo_S' _ (fun i hi => ?_)
    rw [oO_S', gD_S' k (x + i) (by omega) (by omega), gsv_S' (by omega) h2]
    rfl
theorem gF_S {v : CV} {a x y : Nat} (h1 : x ≤ y) (h2 : y ≤ 12) : ∀ N, mn 99 (gF (opR g w) g v a x y N) = gF (opS g w) g (fi v) a x y N
  | 0 => rfl
  | N + 1 => by
    rw [gF_s, gF_s]
    split
    · rw [← gF_S h1 h2 N, ← gD_S (Gl g N) y h1 h2]
      exact mn_mn _ _
    · exact gF_S h1 h2 N
theorem opS_m : OM (opS g w) := ⟨fun a b a' b' h1 h2 => mn_mono h1 h2, fun a b a' b' h1 h2 _ _ => mn_mono (Nat.le_refl _) (Nat.add_le_add h1 h2)⟩
theorem opS'_m : OM (opS' g w) := ⟨fun a b a' b' h1 h2 => mn_mono h1 h2, fun a b a' b' h1 h2 _ _ => mn_mono (Nat.le_refl _) (Nat.add_le_add h1 h2)⟩
theorem opQ_m : OM (opQ g w) := ⟨fun a b a' b' h1 h2 => mn_mono h1 h2, fun a b a' b' h1 h2 _ _ => Nat.add_le_add h1 h2⟩
theorem opR_m : OM (opR g w) := ⟨fun a b a' b' h1 h2 => mn_mono h1 h2, fun a b a' b' h1 h2 h3 h4 => by
  show (if a = 1000 ∨ b = 1000 then 1000 else mn 99 (a + b)) ≤ (if a' = 1000 ∨ b' = 1000 then 1000 else mn 99 (a' + b'))
  have := mn_le 99 (a + b)
  by_cases c : a' = 1000 ∨ b' = 1000
  · rw [if_pos c]; split <;> omega
  · rw [if_neg c, if_neg (by omega)]
    exact mn_mono (Nat.le_refl _) (by omega)⟩
/-- no more than 99 -/
theorem gfo_99 {f : Nat → Nat} : ∀ c, gfo (opS g w) f c ≤ 99 ∧ gfo (opS' g w) f c ≤ 99
  | 0 => ⟨Nat.le_refl _, Nat.le_refl _⟩
  | c + 1 => ⟨Nat.le_trans (mn_le _ _).1 (gfo_99 c).1, Nat.le_trans (mn_le _ _).1 (gfo_99 c).2⟩
theorem gfo_at {f : Nat → Nat} : ∀ c i, i < c → gfo (opS g w) f c ≤ f i ∧ gfo (opS' g w) f c ≤ f i
  | 0, i, h => absurd h (by omega)
  | c + 1, i, h => by
    by_cases e : i = c
    · rw [e]; exact ⟨(mn_le _ _).2, (mn_le _ _).2⟩
    · have ih := gfo_at (f := f) c i (by omega)
      exact ⟨Nat.le_trans (mn_le _ _).1 ih.1, Nat.le_trans (mn_le _ _).1 ih.2⟩
theorem le_gfo' {f : Nat → Nat} {b : Nat} (hb : b ≤ 99) : ∀ c, (∀ i, i < c → b ≤ f i) → b ≤ gfo (opS' g w) f c
  | 0, _ => hb
  | c + 1, h => by
    have h1 := le_gfo' hb c (fun i hi => h i (by omega))
    have h2 := h c (by omega)
    show b ≤ mn (gfo (opS' g w) f c) (f c)
    unfold mn; split <;> omega
theorem le_gfo {f : Nat → Nat} {b : Nat} (hb : b ≤ 99) : ∀ c, (∀ i, i < c → b ≤ f i) → b ≤ gfo (opS g w) f c
  | 0, _ => hb
  | c + 1, h => by
    have h1 := le_gfo hb c (fun i hi => h i (by omega))
    have h2 := h c (by omega)
    show b ≤ mn (gfo (opS g w) f c) (f c)
    unfold mn; split <;> omega
theorem gD_99 {v : CV} {p k x y : Nat} (hxy : x ≤ y) (hy : y ≤ 12) : gD (opS g w) g v p k x y ≤ 99 ∧ gD (opS' g w) g v p k x y ≤ 99 := by
  cases k with
  | zero =>
    refine ⟨show y - x ≤ 99 by omega, ?_⟩
    show (if x = y then 0 else 99) ≤ 99
    split <;> omega
  | succ k => exact ⟨(gfo_99 _).1, (gfo_99 _).2⟩
theorem gsv_99 {o : OP} (ho : oT o = eTm w) {v : CV} (hv : ∀ a x y, v a x y ≤ 99) {s x y : Nat} (hxy : x ≤ y) (hy : y ≤ 12) : gsv o v s x y ≤ 99 := by
  unfold gsv
  split
  · rw [ho]; have := eTm_le (w := w) (s := s) hxy hy; omega
  · exact hv _ _ _
theorem gB_S {v : CV} (hv : ∀ a x y, v a x y ≤ 99) {x y : Nat} (hy : y ≤ 12) : gB (opS g w) g v x y ∧ gB (opS' g w) g v x y :=
  ⟨⟨fun p k y' _ h2 h3 => Nat.le_trans (gD_99 h2 (by omega)).1 (by omega), fun s x' y' _ _ h3 h4 => Nat.le_trans (gsv_99 (w := w) rfl hv h3 (by omega)) (by omega)⟩, ⟨fun p k y' _ h2 h3 => Nat.le_trans (gD_99 h2 (by omega)).2 (by omega), fun s x' y' _ _ h3 h4 => Nat.le_trans (gsv_99 (w := w) rfl hv h3 (by omega)) (by omega)⟩⟩
/-- what a production comes to: the class's, the reference's -/
def sE (g : GT) (w : Nat → Nat) (e : CV) (p x y : Nat) : Nat := gD (opS g w) g e p (Gl g p) x y
def qE' (g : GT) (w : Nat → Nat) (e : CV) (p x y : Nat) : Nat := if Gl g p = 0 then y - x else gD (opS' g w) g e p (Gl g p) x y
def qE (g : GT) (w : Nat → Nat) (e : CV) (p x y : Nat) : Nat := if Gl g p = 0 then y - x else gD (opQ g w) g e p (Gl g p) x y
theorem qE_fi {v : CV} {p x y : Nat} (h1 : x ≤ y) (h2 : y ≤ 12) : mn 99 (qE g w v p x y) = qE' g w (fi v) p x y := by
  unfold qE qE'
  split
  · exact mn_id (by omega)
  · exact gD_S' _ _ h1 h2
theorem qE'_mono (hg : GR g) {v v' : CV} (hv : ∀ a x y, v' a x y ≤ 99) {p x y : Nat} (hxy : x ≤ y) (hy : y ≤ 12) (h : vLe v v' x y) : qE' g w v p x y ≤ qE' g w v' p x y := by
  unfold qE'
  split
  · exact Nat.le_refl _
  · exact gD_mono opS'_m hg (gB_S hv hy).2 _ _ (Nat.le_refl _) hxy (Nat.le_refl _) h
theorem qE_mono (hg : GR g) {v v' : CV} (hv : ∀ a x y, v' a x y ≤ 100) {p x y : Nat} (hxy : x ≤ y) (hy : y ≤ 12) (h : vLe v v' x y) : qE g w v p x y ≤ qE g w v' p x y := by
  unfold qE
  split
  · exact Nat.le_refl _
  · exact gD_mono opQ_m hg ⟨fun p k y' h1 h2 h3 => Nat.le_trans (eB_D hg hv k y' h1 h2 (by omega)) (by omega), fun s x' y' h1 _ h3 h4 => Nat.le_trans (eB_V hv h1 h3 (by omega)) (by omega)⟩ _ _ (Nat.le_refl _) hxy (Nat.le_refl _) h
theorem qE_100 (hg : GR g) {v : CV} (hv : ∀ a x y, v a x y ≤ 100) {p x y : Nat} (hxy : x ≤ y) (hy : y ≤ 12) : qE g w v p x y ≤ 100 := by
  unfold qE
  split
  · omega
  · exact eB_D hg hv _ _ (Nat.le_refl _) hxy hy
/-- the class's is at most the reference's -/
theorem sE_le (hg : GR g) {e : CV} (he : ∀ a x y, e a x y ≤ 99) {p x y : Nat} (hxy : x ≤ y) (hy : y ≤ 12) : sE g w e p x y ≤ qE' g w e p x y := by
  have key : ∀ k y, x ≤ y → y ≤ 12 → gD (opS g w) g e p k x y ≤ gD (opS' g w) g e p k x y := by
    intro k
    induction k with
    | zero =>
      intro y h1 h2
      show y - x ≤ (if x = y then 0 else 99)
      split <;> omega
    | succ k ih =>
      intro y h1 h2
      rw [gD_s, gD_s]
      refine le_gfo' (gfo_99 _).1 _ (fun i hi => ?_)
      refine Nat.le_trans (gfo_at _ i hi).1 ?_
      exact mn_mono (Nat.le_refl _) (Nat.add_le_add (ih (x + i) (by omega) (by omega)) (Nat.le_refl _))
  unfold sE qE'
  split
  · next h => rw [h]; exact Nat.le_refl _
  · exact key _ _ hxy hy
/-- taking out from the left -/
def LD (nw : Nat) (e : CV) : Prop := ∀ a, a < 16 → ∀ x' x y, x' ≤ x → x ≤ y → y ≤ nw → e a x' y ≤ (x - x') + e a x y
theorem eTm_LD {s x' x y : Nat} (h1 : x' ≤ x) (h2 : x ≤ y) : eTm w s x' y ≤ (x - x') + eTm w s x y := by
  have hh : htm w s x (y - x) = true → htm w s x' (y - x') = true := by
    intro h
    apply Classical.byContradiction
    intro hn
    have hf : ∀ j, j < y - x → w (x + j) ≠ s := by
      intro j hj e
      exact hn (htm_t (j := x - x' + j) (y - x') (by omega) (by rw [show x' + (x - x' + j) = x + j by omega]; exact e))
    rw [htm_f (y - x) hf] at h
    exact absurd h (by decide)
  unfold eTm
  by_cases c : x = y
  · rw [if_pos c]
    by_cases c' : x' = y
    · rw [if_pos c']; omega
    · rw [if_neg c']; split <;> omega
  · rw [if_neg c, if_neg (show ¬ x' = y by omega)]
    by_cases c2 : htm w s x (y - x) = true
    · rw [if_pos c2, if_pos (hh c2)]; omega
    · rw [if_neg c2]; split <;> omega
theorem gsv_LD {nw : Nat} {e : CV} (h : LD nw e) {s x' x y : Nat} (hs : s < 8 ∨ (16 ≤ s ∧ s < 32)) (h1 : x' ≤ x) (h2 : x ≤ y) (h3 : y ≤ nw) {o : OP} (ho : oT o = eTm w) : gsv o e s x' y ≤ (x - x') + gsv o e s x y := by
  unfold gsv
  split
  · rw [ho]; exact eTm_LD h1 h2
  · exact h _ (by omega) x' x y h1 h2 h3
/-- with that the reference's is at most the class's -/
theorem qE_le (hg : GR g) {nw : Nat} (hnw : nw ≤ 12) {e : CV} (h : LD nw e) {p x y : Nat} (hxy : x ≤ y) (hy : y ≤ nw) : qE' g w e p x y ≤ sE g w e p x y := by
  have key : ∀ k y, k + 1 ≤ Gl g p → x ≤ y → y ≤ nw → gD (opS' g w) g e p (k + 1) x y ≤ gD (opS g w) g e p (k + 1) x y := by
    intro k
    induction k with
    | zero =>
      intro y hk h1 h2
      have hsr := hg.2.2.2.2.2 p 0 (by omega)
      rw [gD_s, gD_s]
      refine le_gfo (gfo_99 _).2 _ (fun i hi => ?_)
      refine Nat.le_trans (gfo_at _ 0 (by omega)).2 ?_
      have e1 : gD (opS' g w) g e p 0 x (x + 0) = 0 := if_pos rfl
      have e2 : gD (opS g w) g e p 0 x (x + i) = i := by show x + i - x = i; omega
      have h3 := gsv_LD (w := w) h (s := Gs g p 0) (x' := x) (x := x + i) (y := y) hsr (by omega) (by omega) h2 (o := opS g w) rfl
      show mn 99 (gD (opS' g w) g e p 0 x (x + 0) + gsv (opS' g w) e (Gs g p 0) (x + 0) y) ≤ mn 99 (gD (opS g w) g e p 0 x (x + i) + gsv (opS g w) e (Gs g p 0) (x + i) y)
      rw [e1, e2]
      refine mn_mono (Nat.le_refl _) ?_
      have e3 : gsv (opS' g w) e (Gs g p 0) (x + 0) y = gsv (opS g w) e (Gs g p 0) x y := rfl
      rw [e3]
      omega
    | succ k ih =>
      intro y hk h1 h2
      rw [gD_s, gD_s]
      refine le_gfo (gfo_99 _).2 _ (fun i hi => ?_)
      refine Nat.le_trans (gfo_at _ i hi).2 ?_
      exact mn_mono (Nat.le_refl _) (Nat.add_le_add (ih (x + i) (by omega) (by omega) (by omega)) (Nat.le_refl _))
  unfold sE qE'
  split
  · next h => rw [h]; exact Nat.le_refl _
  · next h =>
    have := key (Gl g p - 1) y (by omega) hxy hy
    rwa [show Gl g p - 1 + 1 = Gl g p by omega] at this
/-- the reference's chart: greatest, stretch by stretch -/
def KQ (g : GT) (w : Nat → Nat) (v : CV) (x y : Nat) (z : Nat → Nat) : Prop := (∀ b, z b ≤ 100) ∧ ∀ t : Nat → Nat, (∀ b, t b ≤ 100) → (∀ p, p < Gn g → t (Go g p) ≤ qE g w (vs v x y t) p x y) → ∀ a, a < 16 → t a ≤ z a
def QFX (g : GT) (w : Nat → Nat) (v : CV) (P : Nat → Nat → Prop) : Prop := ∀ x y, P x y → (∀ p, p < Gn g → v (Go g p) x y ≤ qE g w v p x y) ∧ KQ g w v x y (fun a => v a x y)
/-- the same, with at most 99 -/
def QF9 (g : GT) (w : Nat → Nat) (r : CV) (nw : Nat) : Prop := (∀ a x y, r a x y ≤ 99) ∧ ∀ x y, x ≤ y → y ≤ nw → (∀ p, p < Gn g → r (Go g p) x y ≤ qE' g w r p x y) ∧ ∀ t : Nat → Nat, (∀ b, t b ≤ 99) → (∀ p, p < Gn g → t (Go g p) ≤ qE' g w (vs r x y t) p x y) → ∀ a, a < 16 → t a ≤ r a x y
theorem QF9_of {v : CV} {nw : Nat} (hnw : nw ≤ 12) (h : QFX g w v (fun x y => x ≤ y ∧ y ≤ nw)) : QF9 g w (fi v) nw := by
  refine ⟨fi_le v, fun x y hxy hy => ⟨fun p hp1 => ?_, fun t ht hc a ha => ?_⟩⟩
  · rw [← qE_fi hxy (by omega)]
    exact mn_mono (Nat.le_refl _) ((h x y ⟨hxy, hy⟩).1 p hp1)
  · have h1 := (h x y ⟨hxy, hy⟩).2.2 t (fun b => by have := ht b; omega) (fun p hp1 => by
      have h2 := hc p hp1
      rw [← fi_vs ht, ← qE_fi hxy (by omega)] at h2
      exact Nat.le_trans h2 (mn_le _ _).2) a ha
    have h3 : t a ≤ v a x y := h1
    have h4 := ht a
    show t a ≤ mn 99 (v a x y)
    unfold mn; split <;> omega
theorem QF9_LD (hg : GR g) {r : CV} {nw : Nat} (hnw : nw ≤ 12) (h : QF9 g w r nw) : LD nw r := by
  obtain ⟨h99, hq⟩ := h
  suffices key : ∀ (W x y : Nat), y - x = W → x ≤ y → y ≤ nw → ∀ x', x' ≤ x → ∀ a, a < 16 → r a x' y ≤ (x - x') + r a x y from fun a ha x' x y h1 h2 h3 => key (y - x) x y rfl h2 h3 x' h1 a ha
  intro W
  induction W using Nat.strongRecOn with
  | _ W ih =>
    intro x y hW hxy hy x' hx' a ha
    obtain ⟨t, ht⟩ : ∃ t : Nat → Nat, t = fun b => if r b x y < r b x' y - (x - x') then r b x' y - (x - x') else r b x y := ⟨_, rfl⟩
    have ht1 : ∀ b, r b x y ≤ t b ∧ r b x' y ≤ (x - x') + t b ∧ t b ≤ 99 := fun b => by
      rw [ht]; dsimp only
      have := h99 b x y
      have := h99 b x' y
      split <;> omega
    have hle : vLe r (vs r x y t) x y := fun c u1 u2 _ _ _ _ => by
      by_cases e : u1 = x ∧ u2 = y
      · rw [e.1, e.2, vs_eq]; exact (ht1 c).1
      · rw [vs_ne e]; exact Nat.le_refl _
    have hv99 : ∀ b u1 u2, vs r x y t b u1 u2 ≤ 99 := fun b u1 u2 => by
      unfold vs; split
      · exact (ht1 b).2.2
      · exact h99 _ _ _
    -- a symbol, taking out ahead of it
    have hs1 : ∀ s m, (s < 8 ∨ (16 ≤ s ∧ s < 32)) → x ≤ m → m ≤ y → gsv (opS' g w) r s x' m ≤ (x - x') + gsv (opS' g w) (vs r x y t) s x m := fun s m hs h1 h2 => by
      unfold gsv
      split
      · exact eTm_LD hx' h1
      · by_cases e : m = y
        · rw [e, vs_eq]; exact (ht1 _).2.1
        · rw [vs_ne (fun q => e q.2)]
          exact ih (m - x) (by omega) x m rfl h1 (by omega) x' hx' _ (by omega)
    have hs2 : ∀ s m1 m, (s < 8 ∨ (16 ≤ s ∧ s < 32)) → x ≤ m1 → m1 ≤ m → m ≤ y → gsv (opS' g w) r s m1 m ≤ gsv (opS' g w) (vs r x y t) s m1 m := fun s m1 m hs h1 h2 h3 => gsv_mono hle hs h1 h2 h3
    have key : ∀ p k m, k + 1 ≤ Gl g p → x ≤ m → m ≤ y → gD (opS' g w) g r p (k + 1) x' m ≤ (x - x') + gD (opS' g w) g (vs r x y t) p (k + 1) x m := by
      intro p k
      induction k with
      | zero =>
        intro m hk h1 h2
        have hsr := hg.2.2.2.2.2 p 0 (by omega)
        rw [gD_s, gD_s]
        have hb : gfo (opS' g w) (fun i => oO (opS' g w) (gD (opS' g w) g r p 0 x' (x' + i)) (gsv (opS' g w) r (Gs g p 0) (x' + i) m)) (m + 1 - x') - (x - x') ≤ gfo (opS' g w) (fun i => oO (opS' g w) (gD (opS' g w) g (vs r x y t) p 0 x (x + i)) (gsv (opS' g w) (vs r x y t) (Gs g p 0) (x + i) m)) (m + 1 - x) := by
          have q0 := (gfo_99 (g := g) (w := w) (f := fun i => oO (opS' g w) (gD (opS' g w) g r p 0 x' (x' + i)) (gsv (opS' g w) r (Gs g p 0) (x' + i) m)) (m + 1 - x')).2
          refine le_gfo' (by omega) _ (fun i hi => ?_)
          have q1 := (gfo_at (g := g) (w := w) (f := fun i => oO (opS' g w) (gD (opS' g w) g r p 0 x' (x' + i)) (gsv (opS' g w) r (Gs g p 0) (x' + i) m)) (m + 1 - x') 0 (by omega)).2
          have e1 : gD (opS' g w) g r p 0 x' (x' + 0) = 0 := if_pos rfl
          have q2 : gfo (opS' g w) (fun i => oO (opS' g w) (gD (opS' g w) g r p 0 x' (x' + i)) (gsv (opS' g w) r (Gs g p 0) (x' + i) m)) (m + 1 - x') ≤ mn 99 (0 + gsv (opS' g w) r (Gs g p 0) x' m) := by
            have : oO (opS' g w) (gD (opS' g w) g r p 0 x' (x' + 0)) (gsv (opS' g w) r (Gs g p 0) (x' + 0) m) = mn 99 (0 + gsv (opS' g w) r (Gs g p 0) x' m) := by rw [e1]; rfl
            rw [← this]; exact q1
          have e2 : gD (opS' g w) g (vs r x y t) p 0 x (x + i) = if x = x + i then 0 else 99 := rfl
          show _ ≤ mn 99 (gD (opS' g w) g (vs r x y t) p 0 x (x + i) + gsv (opS' g w) (vs r x y t) (Gs g p 0) (x + i) m)
          rw [e2]
          by_cases c : i = 0
          · subst c
            rw [show (if x = x + 0 then 0 else 99) = 0 from if_pos rfl]
            have q3 := hs1 (Gs g p 0) m hsr h1 h2
            have q4 : gsv (opS' g w) (vs r x y t) (Gs g p 0) (x + 0) m = gsv (opS' g w) (vs r x y t) (Gs g p 0) x m := rfl
            rw [q4]
            generalize gsv (opS' g w) (vs r x y t) (Gs g p 0) x m = d1 at *
            generalize gsv (opS' g w) r (Gs g p 0) x' m = d2 at *
            unfold mn at q2 ⊢
            split at q2 <;> split <;> omega
          · rw [if_neg (by omega)]
            unfold mn; split <;> omega
        omega
      | succ k ihk =>
        intro m hk h1 h2
        have hsr := hg.2.2.2.2.2 p (k + 1) (by omega)
        rw [gD_s, gD_s (k := k + 1) (x := x)]
        have hb : gfo (opS' g w) (fun i => oO (opS' g w) (gD (opS' g w) g r p (k + 1) x' (x' + i)) (gsv (opS' g w) r (Gs g p (k + 1)) (x' + i) m)) (m + 1 - x') - (x - x') ≤ gfo (opS' g w) (fun i => oO (opS' g w) (gD (opS' g w) g (vs r x y t) p (k + 1) x (x + i)) (gsv (opS' g w) (vs r x y t) (Gs g p (k + 1)) (x + i) m)) (m + 1 - x) := by
          have q0 := (gfo_99 (g := g) (w := w) (f := fun i => oO (opS' g w) (gD (opS' g w) g r p (k + 1) x' (x' + i)) (gsv (opS' g w) r (Gs g p (k + 1)) (x' + i) m)) (m + 1 - x')).2
          refine le_gfo' (by omega) _ (fun i hi => ?_)
          have q1 := (gfo_at (g := g) (w := w) (f := fun i => oO (opS' g w) (gD (opS' g w) g r p (k + 1) x' (x' + i)) (gsv (opS' g w) r (Gs g p (k + 1)) (x' + i) m)) (m + 1 - x') (x - x' + i) (by omega)).2
          have ei : x' + (x - x' + i) = x + i := by omega
          try dsimp only at q1
          rw [ei] at q1
          have q2 := ihk (x + i) (by omega) (by omega) (by omega)
          have q3 := hs2 (Gs g p (k + 1)) (x + i) m hsr (by omega) (by omega) h2
          have q1' : gfo (opS' g w) (fun i => oO (opS' g w) (gD (opS' g w) g r p (k + 1) x' (x' + i)) (gsv (opS' g w) r (Gs g p (k + 1)) (x' + i) m)) (m + 1 - x') ≤ mn 99 (gD (opS' g w) g r p (k + 1) x' (x + i) + gsv (opS' g w) r (Gs g p (k + 1)) (x + i) m) := q1
          show _ ≤ mn 99 (gD (opS' g w) g (vs r x y t) p (k + 1) x (x + i) + gsv (opS' g w) (vs r x y t) (Gs g p (k + 1)) (x + i) m)
          generalize gD (opS' g w) g (vs r x y t) p (k + 1) x (x + i) = d1 at *
          generalize gsv (opS' g w) (vs r x y t) (Gs g p (k + 1)) (x + i) m = d2 at *
          generalize gD (opS' g w) g r p (k + 1) x' (x + i) = d3 at *
          generalize gsv (opS' g w) r (Gs g p (k + 1)) (x + i) m = d4 at *
          unfold mn at q1' ⊢
          split at q1' <;> split <;> omega
        omega
    have fin := (hq x y hxy hy).2 t (fun b => (ht1 b).2.2) (fun p hp1 => by
      have c1 := (hq x y hxy hy).1 p hp1
      have c2 := (hq x' y (by omega) hy).1 p hp1
      have c3 := qE'_mono (w := w) (p := p) hg hv99 hxy (by omega) hle
      by_cases c : r (Go g p) x y < r (Go g p) x' y - (x - x')
      · have e : t (Go g p) = r (Go g p) x' y - (x - x') := by rw [ht]; dsimp only; rw [if_pos c]
        rw [e]
        unfold qE' at c2 ⊢
        by_cases z : Gl g p = 0
        · rw [if_pos z] at c2 ⊢; omega
        · rw [if_neg z] at c2 ⊢
          have := key p (Gl g p - 1) y (by omega) hxy (Nat.le_refl _)
          rw [show Gl g p - 1 + 1 = Gl g p by omega] at this
          omega
      · have e : t (Go g p) = r (Go g p) x y := by rw [ht]; dsimp only; rw [if_neg c]
        rw [e]; exact Nat.le_trans c1 c3) a ha
    have := (ht1 a).2.1
    omega
/-- the class's chart -/
def PhE (g : GT) (w : Nat → Nat) (v : CV) (x y : Nat) (z : Nat → Nat) (a : Nat) : Nat := gOp (opR g w) g (vs v x y z) a x y
def KG (F : (Nat → Nat) → Nat → Nat) (z : Nat → Nat) : Prop := (∀ a, a < 16 → F z a ≤ z a) ∧ ∀ t : Nat → Nat, (∀ b, t b ≤ 1000) → (∀ a, a < 16 → t a ≤ F t a) → ∀ a, a < 16 → t a ≤ z a
theorem PhE_mono (hg : GR g) {v : CV} (hv : vB v) {x y : Nat} (hxy : x ≤ y) (hy : y ≤ 12) {z z' : Nat → Nat} (hz : ∀ b, z' b ≤ 1000) (h : ∀ a, a < 16 → z a ≤ z' a) (a : Nat) : PhE g w v x y z a ≤ PhE g w v x y z' a :=
  gF_mono opR_m hg (gB_of opR_b hg (vB_vs hv hz) hy) hxy (vs_le h) _
theorem PhE_1000 (hg : GR g) {v : CV} (hv : vB v) {x y : Nat} (hxy : x ≤ y) (hy : y ≤ 12) {z : Nat → Nat} (hz : ∀ b, z b ≤ 1000) (a : Nat) : PhE g w v x y z a ≤ 1000 := gOp_le opR_b hg (vB_vs hv hz) hxy hy
theorem kok_R (hg : GR g) {nw : Nat} (hnw : nw ≤ 12) : KOK (opR g w) g nw (fun v x y z => KG (PhE g w v x y) z) (fun z => sD z 16) := by
  refine ⟨fun v x y hv h1 h2 => ⟨fun a _ => PhE_1000 hg hv h1 (by omega) (fun _ => Nat.le_refl _) a, fun t ht _ a _ => ht a⟩, fun v x y u hv hu h1 h2 hK => ⟨⟨fun a ha => PhE_mono hg hv h1 (by omega) hu hK.1 a, fun t ht hc a ha => Nat.le_trans (hc a ha) (PhE_mono hg hv h1 (by omega) hu (hK.2 t ht hc) a)⟩, fun ⟨a, ha, hne⟩ => ?_⟩, fun u hu => ?_, fun v v' x y u u' hv hu hK => ?_⟩
  · have h3 : PhE g w v x y u a ≠ u a := hne
    have h4 := hK.1 a ha
    exact sD_lt 16 (fun b hb => hK.1 b hb) ⟨a, ha, show PhE g w v x y u a < u a by omega⟩
  · have := sD_le (d := u) (B := 1000) 16 (fun b _ => hu b)
    show sD u 16 ≤ 20000
    omega
  · have e : PhE g w v x y = PhE g w v' x y := by
      funext z a
      exact gOp_congr hg (fun b x' y' q1 q2 q3 q4 => by
        by_cases c : x' = x ∧ y' = y
        · rw [c.1, c.2, vs_eq, vs_eq]
        · rw [vs_ne c, vs_ne c]; exact hv b x' y' q1 q2 q3 q4 c)
    have eu : u' = u := by funext a; exact (hu a).symm
    show KG (PhE g w v' x y) u'
    rw [eu, ← e]; exact hK
theorem gF_le_p {v : CV} {a x y : Nat} : ∀ N p, p < N → Go g p = a → gF (opS g w) g v a x y N ≤ gD (opS g w) g v p (Gl g p) x y
  | 0, p, h, _ => absurd h (by omega)
  | N + 1, p, h, hp1 => by
    rw [gF_s]
    by_cases e : p = N
    · rw [← e, if_pos hp1]; exact (mn_le _ _).2
    · have ih := gF_le_p (v := v) (x := x) (y := y) N p (by omega) hp1
      split
      · exact Nat.le_trans (mn_le _ _).1 ih
      · exact ih
theorem le_gF_p {v : CV} {a x y b : Nat} (hb : b ≤ 99) : ∀ N, (∀ p, p < N → Go g p = a → b ≤ gD (opS g w) g v p (Gl g p) x y) → b ≤ gF (opS g w) g v a x y N
  | 0, _ => hb
  | N + 1, h => by
    have ih := le_gF_p hb N (fun p hp1 => h p (by omega))
    rw [gF_s]
    split
    · next e =>
      have h2 := h N (by omega) e
      show b ≤ mn (gF (opS g w) g v a x y N) (gD (opS g w) g v N (Gl g N) x y)
      unfold mn; split <;> omega
    · exact ih
theorem edit_eq (hg : GR g) {nw : Nat} (hnw : nw ≤ 12) {v v' : CV} (hv : vB v) (h : FIX (opR g w) g (fun v x y z => KG (PhE g w v x y) z) v (fun x y => x ≤ y ∧ y ≤ nw)) (h' : QFX g w v' (fun x y => x ≤ y ∧ y ≤ nw)) :
    ∀ (W x y : Nat), y - x ≤ W → x ≤ y → y ≤ nw → ∀ a, a < 16 → fi v a x y = fi v' a x y := by
  have hr := QF9_of (g := g) (w := w) hnw h'
  have hLD := QF9_LD hg hnw hr
  intro W
  induction W using Nat.strongRecOn with
  | _ W ih =>
    intro x y hW hxy hy
    have hy12 : y ≤ 12 := by omega
    have hsub : ∀ a u1 u2, a < 16 → x ≤ u1 → u1 ≤ u2 → u2 ≤ y → ¬ (u1 = x ∧ u2 = y) → fi v a u1 u2 = fi v' a u1 u2 := fun a u1 u2 q1 q2 q3 q4 q5 => ih (u2 - u1) (by omega) u1 u2 (Nat.le_refl _) q3 (by omega) a q1
    obtain ⟨c1, c2⟩ := h x y ⟨hxy, hy⟩
    -- what the class's chart is
    have hc : ∀ a, a < 16 → fi v a x y = gF (opS g w) g (fi v) a x y (Gn g) := fun a ha => by
      rw [← gF_S hxy hy12]
      show mn 99 (v a x y) = _
      rw [c1 a ha]; rfl
    have le1 := (hr.2 x y hxy hy).2 (fun a => fi v a x y) (fun b => fi_le v b x y) (fun p hp1 => by
      have e : qE' g w (vs (fi v') x y (fun a => fi v a x y)) p x y = qE' g w (fi v) p x y := by
        unfold qE'
        split
        · rfl
        · exact gD_congr hg _ _ (Nat.le_refl _) (fun a u1 u2 q1 q2 q3 q4 => by
            by_cases c : u1 = x ∧ u2 = y
            · rw [c.1, c.2, vs_eq]
            · rw [vs_ne c]; exact (hsub a u1 u2 q1 q2 q3 q4 c).symm)
      rw [e]
      show fi v (Go g p) x y ≤ _
      rw [hc _ (hg.2.2.1 p)]
      exact Nat.le_trans (gF_le_p (Gn g) p hp1 rfl) (sE_le hg (fi_le v) hxy hy12))
    have le2 := c2.2 (fun a => fi v' a x y) (fun b => by have := fi_le v' b x y; omega) (fun a ha => by
      have e1 : mn 99 (PhE g w v x y (fun a => fi v' a x y) a) = gF (opS g w) g (vs (fi v) x y (fun a => fi v' a x y)) a x y (Gn g) := by
        rw [← fi_vs (fun b => fi_le v' b x y), ← gF_S hxy hy12]; rfl
      refine Nat.le_trans ?_ (mn_le 99 _).2
      rw [e1]
      refine le_gF_p (fi_le _ _ _ _) _ (fun p hp1 hpo => ?_)
      have e2 : gD (opS g w) g (vs (fi v) x y (fun a => fi v' a x y)) p (Gl g p) x y = sE g w (fi v') p x y := gD_congr hg _ _ (Nat.le_refl _) (fun a u1 u2 q1 q2 q3 q4 => by
        by_cases c : u1 = x ∧ u2 = y
        · rw [c.1, c.2, vs_eq]
        · rw [vs_ne c]; exact hsub a u1 u2 q1 q2 q3 q4 c)
      rw [e2, ← hpo]
      exact Nat.le_trans ((hr.2 x y hxy hy).1 p hp1) (qE_le hg hnw hLD hxy hy))
    intro a ha
    have l1 : fi v a x y ≤ fi v' a x y := le1 a ha
    have l2 : fi v' a x y ≤ v a x y := le2 a ha
    have l3 := fi_le v' a x y
    have l4 : fi v' a x y ≤ fi v a x y := by
      show fi v' a x y ≤ mn 99 (v a x y)
      unfold mn; split <;> omega
    exact Nat.le_antisymm l1 l4
/-- who has a sentence can be repaired to -/
theorem prod_99 (hg : GR g) {nw : Nat} (hnw : nw ≤ 12) {v : CV} (hv : vB v) (h : FIX (opR g w) g (fun v x y z => KG (PhE g w v x y) z) v (fun x y => x ≤ y ∧ y ≤ nw)) {d : Nat → Nat} (hd : grD 99 g d) {a : Nat} (ha : a < 16) (hp1 : d a ≠ 1000) {x y : Nat} (hxy : x ≤ y) (hy : y ≤ nw) : v a x y ≤ 99 := by
  apply Classical.byContradiction
  intro hbad
  have := hd.2.2 (fun a => zif (∃ x y, x ≤ y ∧ y ≤ nw ∧ 99 < v a x y) 1000 0) (fun b _ => by
    by_cases c : ∃ x y, x ≤ y ∧ y ≤ nw ∧ 99 < v b x y
    · exact Or.inr (zif_p c)
    · refine Or.inl ?_
      show zif (∃ x y, x ≤ y ∧ y ≤ nw ∧ 99 < v b x y) 1000 0 ≤ 99
      rw [zif_n c]; omega) (fun p hp2 => by
    by_cases c : ∃ x y, x ≤ y ∧ y ≤ nw ∧ 99 < v (Go g p) x y
    · show zif _ 1000 0 ≤ _
      rw [zif_p c]
      -- some symbol has none
      have hs : ∃ k, k < Gl g p ∧ 1000 ≤ dS (fun a => zif (∃ x y, x ≤ y ∧ y ≤ nw ∧ 99 < v a x y) 1000 0) (Gs g p k) := by
        apply Classical.byContradiction
        intro hn
        have hgood : ∀ k, k < Gl g p → ∀ x y, x ≤ y → y ≤ nw → gsv (opR g w) v (Gs g p k) x y ≤ 99 := fun k hk x y h1 h2 => by
          unfold gsv
          split
          · show eTm w (Gs g p k) x y ≤ 99
            have := eTm_le (w := w) (s := Gs g p k) h1 (show y ≤ 12 by omega); omega
          · next hs =>
            apply Classical.byContradiction
            intro hh
            refine hn ⟨k, hk, ?_⟩
            unfold dS
            rw [if_neg hs]
            show 1000 ≤ zif (∃ x y, x ≤ y ∧ y ≤ nw ∧ 99 < v (Gs g p k - 16) x y) 1000 0
            rw [zif_p ⟨x, y, h1, h2, by omega⟩]
            exact Nat.le_refl _
        have hD : ∀ k x y, k ≤ Gl g p → x ≤ y → y ≤ nw → gD (opR g w) g v p k x y ≤ 99 := by
          intro k
          induction k with
          | zero => intro x y _ h1 h2; show y - x ≤ 99; omega
          | succ k ih =>
            intro x y hk h1 h2
            rw [gD_s, show y + 1 - x = (y - x) + 1 by omega, gfo_s]
            refine Nat.le_trans (mn_le _ _).2 ?_
            have q1 := ih x (x + (y - x)) (by omega) (by omega) (by omega)
            have q2 := hgood k (by omega) (x + (y - x)) y (by omega) h2
            show (if gD (opR g w) g v p k x (x + (y - x)) = 1000 ∨ gsv (opR g w) v (Gs g p k) (x + (y - x)) y = 1000 then 1000 else mn 99 _) ≤ 99
            rw [if_neg (by omega)]
            exact (mn_le _ _).1
        obtain ⟨x, y, h1, h2, h3⟩ := c
        have hf := (h x y ⟨h1, h2⟩).1 (Go g p) (hg.2.2.1 p)
        have hle : ∀ N, p < N → gF (opR g w) g v (Go g p) x y N ≤ 99 := by
          intro N
          induction N with
          | zero => intro z; omega
          | succ N ihN =>
            intro z
            rw [gF_s]
            by_cases e : p = N
            · rw [← e, if_pos rfl]
              exact Nat.le_trans (mn_le _ _).2 (hD _ _ _ (Nat.le_refl _) h1 h2)
            · have := ihN (by omega)
              split
              · exact Nat.le_trans (mn_le _ _).1 this
              · exact this
        have h4 : gOp (opR g w) g v (Go g p) x y ≤ 99 := hle (Gn g) hp2
        omega
      obtain ⟨k, hk, hk2⟩ := hs
      have hsm : ∀ m k0, k0 ≤ k → k < k0 + m → 1000 ≤ sm g (fun a => zif (∃ x y, x ≤ y ∧ y ≤ nw ∧ 99 < v a x y) 1000 0) p k0 m := by
        intro m
        induction m with
        | zero => intro k0 _ _; omega
        | succ m ihm =>
          intro k0 z1 z2
          show 1000 ≤ dS _ (Gs g p k0) + sm g _ p (k0 + 1) m
          by_cases e : k0 = k
          · rw [e]; omega
          · have := ihm (k0 + 1) (by omega) (by omega); omega
      have h5 := hsm (Gl g p) 0 (by omega) (by omega)
      unfold tc
      rw [if_pos h5]
      exact Nat.le_refl _
    · show zif _ 1000 0 ≤ _
      rw [zif_n c]; exact Nat.zero_le _) a ha
  have h6 : zif (∃ x y, x ≤ y ∧ y ≤ nw ∧ 99 < v a x y) 1000 0 ≤ d a := this
  rw [zif_p ⟨x, y, hxy, hy, by omega⟩] at h6
  have := hd.1 a ha
  omega
end EF
