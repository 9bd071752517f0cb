/-! ===== charts, as functions ===== -/
/-- none, an empty row, a terminal, both, either, a nonterminal -/
abbrev OP : Type := Nat × (Nat → Nat → Nat) × (Nat → Nat → Nat → Nat) × (Nat → Nat → Nat) × (Nat → Nat → Nat) × (Nat → Nat → Nat)
def oN (o : OP) : Nat := o.1
def oB (o : OP) : Nat → Nat → Nat := o.2.1
def oT (o : OP) : Nat → Nat → Nat → Nat := o.2.2.1
def oO (o : OP) : Nat → Nat → Nat := o.2.2.2.1
def oE (o : OP) : Nat → Nat → Nat := o.2.2.2.2.1
def oC (o : OP) : Nat → Nat → Nat := o.2.2.2.2.2
abbrev CV : Type := Nat → Nat → Nat → Nat
def gsv (o : OP) (v : CV) (s x y : Nat) : Nat := if s < 16 then oT o s x y else v (s - 16) x y
def gfo (o : OP) (f : Nat → Nat) : Nat → Nat
  | 0 => oN o
  | c + 1 => oE o (gfo o f c) (f c)
theorem gfo_s {o : OP} {f : Nat → Nat} {c : Nat} : gfo o f (c + 1) = oE o (gfo o f c) (f c) := rfl
theorem gfo_congr {o : OP} {f f' : Nat → Nat} : ∀ c, (∀ i, i < c → f i = f' i) → gfo o f c = gfo o f' c
  | 0, _ => rfl
  | c + 1, h => by rw [gfo_s, gfo_s, gfo_congr c (fun i hi => h i (by omega)), h c (by omega)]
/-- what k symbols of a right come to over a stretch -/
def gD (o : OP) (g : GT) (v : CV) (p : Nat) : Nat → Nat → Nat → Nat
  | 0, x, y => oB o x y
  | k + 1, x, y => gfo o (fun i => oO o (gD o g v p k x (x + i)) (gsv o v (Gs g p k) (x + i) y)) (y + 1 - x)
theorem gD_s {o : OP} {g : GT} {v : CV} {p k x y : Nat} : gD o g v p (k + 1) x y = gfo o (fun i => oO o (gD o g v p k x (x + i)) (gsv o v (Gs g p k) (x + i) y)) (y + 1 - x) := rfl
def gF (o : OP) (g : GT) (v : CV) (a x y : Nat) : Nat → Nat
  | 0 => oN o
  | p + 1 => if Go g p = a then oE o (gF o g v a x y p) (gD o g v p (Gl g p) x y) else gF o g v a x y p
theorem gF_s {o : OP} {g : GT} {v : CV} {a x y p : Nat} : gF o g v a x y (p + 1) = if Go g p = a then oE o (gF o g v a x y p) (gD o g v p (Gl g p) x y) else gF o g v a x y p := rfl
def gOp (o : OP) (g : GT) (v : CV) (a x y : Nat) : Nat := oC o a (gF o g v a x y (Gn g))
def vs (v : CV) (x y : Nat) (u : Nat → Nat) : CV := fun a x' y' => if x' = x ∧ y' = y then u a else v a x' y'
theorem vs_eq {v : CV} {x y a : Nat} {u : Nat → Nat} : vs v x y u a x y = u a := if_pos ⟨rfl, rfl⟩
theorem vs_ne {v : CV} {x y a x' y' : Nat} {u : Nat → Nat} (h : ¬ (x' = x ∧ y' = y)) : vs v x y u a x' y' = v a x' y' := if_neg h
/-- two charts that are the same below a stretch -/
def vEq (v v' : CV) (x y : Nat) : Prop := ∀ a x' y', a < 16 → x ≤ x' → x' ≤ y' → y' ≤ y → v a x' y' = v' a x' y'
theorem gsv_congr {o : OP} {v v' : CV} {x y s x' y' : Nat} (h : vEq v v' x y) (hs : s < 8 ∨ (16 ≤ s ∧ s < 32)) (h1 : x ≤ x') (h2 : x' ≤ y') (h3 : y' ≤ y) : gsv o v s x' y' = gsv o v' s x' y' := by
  unfold gsv
  split
  · rfl
  · exact h _ _ _ (by omega) h1 h2 h3
theorem gD_congr {o : OP} {g : GT} (hg : GR g) {v v' : CV} {p x : Nat} : ∀ (k y : Nat), k ≤ Gl g p → vEq v v' x y → gD o g v p k x y = gD o g v' p k x y
  | 0, _, _, _ => rfl
  | k + 1, y, hk, h => by
    rw [gD_s, gD_s]
    refine gfo_congr _ (fun i hi => ?_)
    rw [gD_congr hg k (x + i) (by omega) (fun a x' y' q1 q2 q3 q4 => h a x' y' q1 q2 q3 (by omega)), gsv_congr h (hg.2.2.2.2.2 p k (by omega)) (by omega) (by omega) (Nat.le_refl _)]
theorem gF_congr {o : OP} {g : GT} (hg : GR g) {v v' : CV} {a x y : Nat} (h : vEq v v' x y) : ∀ N, gF o g v a x y N = gF o g v' a x y N
  | 0 => rfl
  | N + 1 => by
    rw [gF_s, gF_s, gF_congr hg h N, gD_congr hg (Gl g N) y (Nat.le_refl _) h]
theorem gOp_congr {o : OP} {g : GT} (hg : GR g) {v v' : CV} {a x y : Nat} (h : vEq v v' x y) : gOp o g v a x y = gOp o g v' a x y := by
  unfold gOp; rw [gF_congr hg h]
/-- numbers that stay small -/
def OB (o : OP) : Prop := oN o ≤ 1000 ∧ (∀ x y, x ≤ y → y ≤ 12 → oB o x y ≤ 1000) ∧ (∀ s x y, s < 8 → x ≤ y → y ≤ 12 → oT o s x y ≤ 1000) ∧ (∀ a b, a ≤ 1000 → b ≤ 1000 → oO o a b ≤ 1000 ∧ oE o a b ≤ 1000) ∧ ∀ a b, b ≤ 1000 → oC o a b ≤ 1000
def vB (v : CV) : Prop := ∀ a x y, v a x y ≤ 1000
theorem vB_vs {v : CV} (h : vB v) {x y : Nat} {u : Nat → Nat} (hu : ∀ a, u a ≤ 1000) : vB (vs v x y u) := fun a x' y' => by
  unfold vs
  split
  · exact hu a
  · exact h a x' y'
theorem gsv_le {o : OP} (ho : OB o) {v : CV} (hv : vB v) {s x y : Nat} (hs : s < 8 ∨ (16 ≤ s ∧ s < 32)) (h : x ≤ y) (hy : y ≤ 12) : gsv o v s x y ≤ 1000 := by
  unfold gsv
  split
  · exact ho.2.2.1 s x y (by omega) h hy
  · exact hv _ _ _
theorem gfo_le {o : OP} (ho : OB o) {f : Nat → Nat} : ∀ c, (∀ i, i < c → f i ≤ 1000) → gfo o f c ≤ 1000
  | 0, _ => ho.1
  | c + 1, h => by
    rw [gfo_s]
    exact (ho.2.2.2.1 _ _ (gfo_le ho c (fun i hi => h i (by omega))) (h c (by omega))).2
theorem gD_le {o : OP} (ho : OB o) {g : GT} (hg : GR g) {v : CV} (hv : vB v) {p x : Nat} : ∀ (k y : Nat), k ≤ Gl g p → x ≤ y → y ≤ 12 → gD o g v p k x y ≤ 1000
  | 0, y, _, h, hy => ho.2.1 x y h hy
  | k + 1, y, hk, h, hy => by
    rw [gD_s]
    refine gfo_le ho _ (fun i hi => ?_)
    exact (ho.2.2.2.1 _ _ (gD_le ho hg hv k (x + i) (by omega) (by omega) (by omega)) (gsv_le ho hv (hg.2.2.2.2.2 p k (by omega)) (by omega) hy)).1
theorem gF_le {o : OP} (ho : OB o) {g : GT} (hg : GR g) {v : CV} (hv : vB v) {a x y : Nat} (h : x ≤ y) (hy : y ≤ 12) : ∀ N, gF o g v a x y N ≤ 1000
  | 0 => ho.1
  | N + 1 => by
    rw [gF_s]
    split
    · exact (ho.2.2.2.1 _ _ (gF_le ho hg hv h hy N) (gD_le ho hg hv (Gl g N) y (Nat.le_refl _) h hy)).2
    · exact gF_le ho hg hv h hy N
theorem gOp_le {o : OP} (ho : OB o) {g : GT} (hg : GR g) {v : CV} (hv : vB v) {a x y : Nat} (h : x ≤ y) (hy : y ≤ 12) : gOp o g v a x y ≤ 1000 := ho.2.2.2.2 _ _ (gF_le ho hg hv h hy _)
/-- the stretches that are filled before the one of width W at X -/
def fb (nw W X x y : Nat) : Prop := x ≤ y ∧ y ≤ nw ∧ (y - x < W ∨ (y - x = W ∧ x < X))
/-- a chart in the class's memory -/
def CHW (v : CV) (J : Nat → Nat → Int) (P : Nat → Nat → Prop) : Prop := ∀ x y, P x y → ∀ a, a < 16 → J 85 (169 * a + 13 * x + y) = (v a x y : Int)
def CHP (o : OP) (g : GT) (v : CV) (J : Nat → Nat → Int) (P : Nat → Nat → Prop) : Prop := ∀ x y, P x y → ∀ p, p < Gn g → ∀ k, k ≤ Gl g p → J 86 (169 * (6 * p + k) + 13 * x + y) = (gD o g v p k x y : Int)
/-- a chart is what its operation makes of it, stretch by stretch, and of that the one that K says -/
def FIX (o : OP) (g : GT) (K : CV → Nat → Nat → (Nat → Nat) → Prop) (v : CV) (P : Nat → Nat → Prop) : Prop := ∀ x y, P x y → (∀ a, a < 16 → v a x y = gOp o g v a x y) ∧ K v x y (fun a => v a x y)
/-- the charts' ways of coming to an end -/
def KOK (o : OP) (g : GT) (nw : Nat) (K : CV → Nat → Nat → (Nat → Nat) → Prop) (mu : (Nat → Nat) → Nat) : Prop :=
  (∀ v x y, vB v → x ≤ y → y ≤ nw → K v x y (fun _ => oN o)) ∧
  (∀ v x y u, vB v → (∀ a, u a ≤ 1000) → x ≤ y → y ≤ nw → K v x y u → K v x y (fun a => gOp o g (vs v x y u) a x y) ∧ ((∃ a, a < 16 ∧ gOp o g (vs v x y u) a x y ≠ u a) → mu (fun a => gOp o g (vs v x y u) a x y) < mu u)) ∧
  (∀ u, (∀ a, u a ≤ 1000) → mu u ≤ 20000) ∧
  (∀ v v' x y u u', (∀ a x' y', a < 16 → x ≤ x' → x' ≤ y' → y' ≤ y → ¬ (x' = x ∧ y' = y) → v a x' y' = v' a x' y') → (∀ a, u a = u' a) → K v x y u → K v' x y u')
