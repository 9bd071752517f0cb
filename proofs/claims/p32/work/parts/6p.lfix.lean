/-! ===== least and greatest charts ===== -/
def OM (o : OP) : Prop := (∀ a b a' b', a ≤ a' → b ≤ b' → oE o a b ≤ oE o a' b') ∧ ∀ a b a' b', a ≤ a' → b ≤ b' → a' ≤ 1000 → b' ≤ 1000 → oO o a b ≤ oO o a' b'
def vLe (v v' : CV) (x y : Nat) : Prop := ∀ a x' y', a < 16 → x ≤ x' → x' ≤ y' → y' ≤ y → v a x' y' ≤ v' a x' y'
theorem gfo_mono {o : OP} (hM : OM o) {f f' : Nat → Nat} : ∀ c, (∀ i, i < c → f i ≤ f' i) → gfo o f c ≤ gfo o f' c
  | 0, _ => Nat.le_refl _
  | c + 1, h => by
    rw [gfo_s, gfo_s]
    exact hM.1 _ _ _ _ (gfo_mono hM c (fun i hi => h i (by omega))) (h c (by omega))
theorem gsv_mono {o : OP} {v v' : CV} {x y s x' y' : Nat} (h : vLe v v' x y) (hs : s < 8 ∨ (16 ≤ s ∧ s < 32)) (h1 : x ≤ x') (h2 : x' ≤ y') (h3 : y' ≤ y) : gsv o v s x' y' ≤ gsv o v' s x' y' := by
  unfold gsv
  split
  · exact Nat.le_refl _
  · exact h _ _ _ (by omega) h1 h2 h3
/-- numbers of a chart that stay below 1000 -/
def gB (o : OP) (g : GT) (v : CV) (x y : Nat) : Prop := (∀ p k y', k ≤ Gl g p → x ≤ y' → y' ≤ y → gD o g v p k x y' ≤ 1000) ∧ ∀ s x' y', (s < 8 ∨ (16 ≤ s ∧ s < 32)) → x ≤ x' → x' ≤ y' → y' ≤ y → gsv o v s x' y' ≤ 1000
theorem gD_mono {o : OP} (hM : OM o) {g : GT} (hg : GR g) {v v' : CV} {p x y0 : Nat} (hb : gB o g v' x y0) : ∀ (k y : Nat), k ≤ Gl g p → x ≤ y → y ≤ y0 → vLe v v' x y → gD o g v p k x y ≤ gD o g v' p k x y
  | 0, _, _, _, _, _ => Nat.le_refl _
  | k + 1, y, hk, hxy, hy, h => by
    rw [gD_s, gD_s]
    refine gfo_mono hM _ (fun i hi => ?_)
    have hsr := hg.2.2.2.2.2 p k (by omega)
    exact hM.2 _ _ _ _ (gD_mono hM hg hb k (x + i) (by omega) (by omega) (by omega) (fun a x' y' q1 q2 q3 q4 => h a x' y' q1 q2 q3 (by omega))) (gsv_mono h hsr (by omega) (by omega) (Nat.le_refl _)) (hb.1 p k (x + i) (by omega) (by omega) (by omega)) (hb.2 _ _ _ hsr (by omega) (by omega) hy)
theorem gF_mono {o : OP} (hM : OM o) {g : GT} (hg : GR g) {v v' : CV} {a x y : Nat} (hb : gB o g v' x y) (hxy : x ≤ y) (h : vLe v v' x y) : ∀ N, gF o g v a x y N ≤ gF o g v' a x y N
  | 0 => Nat.le_refl _
  | N + 1 => by
    rw [gF_s, gF_s]
    split
    · exact hM.1 _ _ _ _ (gF_mono hM hg hb hxy h N) (gD_mono hM hg hb (Gl g N) y (Nat.le_refl _) hxy (Nat.le_refl _) h)
    · exact gF_mono hM hg hb hxy h N
theorem gB_of {o : OP} (ho : OB o) {g : GT} (hg : GR g) {v : CV} (hv : vB v) {x y : Nat} (hy : y ≤ 12) : gB o g v x y :=
  ⟨fun p k y' h1 h2 h3 => gD_le ho hg hv k y' h1 h2 (by omega), fun s x' y' h1 h2 h3 h4 => gsv_le ho hv h1 h3 (by omega)⟩
theorem vs_self {v : CV} {x y : Nat} : vs v x y (fun a => v a x y) = v := by
  funext a x' y'
  unfold vs
  split
  · next h => rw [h.1, h.2]
  · rfl
theorem vs_le {v : CV} {x y : Nat} {z z' : Nat → Nat} (h : ∀ a, a < 16 → z a ≤ z' a) : vLe (vs v x y z) (vs v x y z') x y := fun a x' y' ha _ _ _ => by
  by_cases e : x' = x ∧ y' = y
  · rw [e.1, e.2, vs_eq, vs_eq]; exact h a ha
  · rw [vs_ne e, vs_ne e]; exact Nat.le_refl _
theorem sD_mono {d e : Nat → Nat} : ∀ M, (∀ a, a < M → e a ≤ d a) → sD e M ≤ sD d M
  | 0, _ => Nat.le_refl _
  | M + 1, h => Nat.add_le_add (sD_mono M (fun a ha => h a (by omega))) (h M (by omega))
/-- least: below what it is made into, and below all that are above what they are made into -/
def KL (F : (Nat → Nat) → Nat → Nat) (z : Nat → Nat) : Prop := (∀ b, z b ≤ 100) ∧ (∀ a, a < 16 → z a ≤ F z a) ∧ ∀ t, (∀ a, a < 16 → F t a ≤ t a) → ∀ a, a < 16 → z a ≤ t a
def zu (z : Nat → Nat) (a x : Nat) : Nat → Nat := fun b => if b = a then x else z b
theorem zu_eq {z : Nat → Nat} {a x : Nat} : zu z a x a = x := if_pos rfl
theorem zu_ne {z : Nat → Nat} {a x b : Nat} (h : b ≠ a) : zu z a x b = z b := if_neg h
theorem zu_id {z : Nat → Nat} {a : Nat} : zu z a (z a) = z := by
  funext b; unfold zu; split
  · next h => rw [h]
  · rfl
def Fmon (F : (Nat → Nat) → Nat → Nat) : Prop := (∀ z z', (∀ b, z' b ≤ 100) → (∀ a, a < 16 → z a ≤ z' a) → ∀ a, a < 16 → F z a ≤ F z' a) ∧ ∀ z a, F z a ≤ 100
theorem KL.all {F : (Nat → Nat) → Nat → Nat} (hm : Fmon F) (ht : ∀ t, (∀ a, a < 16 → F t a ≤ t a) → ∀ z, (∀ b, z b ≤ 100) → (∀ a, a < 16 → z a ≤ t a) → ∀ a, a < 16 → F z a ≤ F t a) {z : Nat → Nat} (h : KL F z) : KL F (F z) :=
  ⟨fun b => hm.2 z b, fun a ha => hm.1 z (F z) (fun b => hm.2 z b) (fun b hb => h.2.1 b hb) a ha, fun t q a ha => Nat.le_trans (ht t q z h.1 (h.2.2 t q) a ha) (q a ha)⟩
theorem KL.one {F : (Nat → Nat) → Nat → Nat} (hm : Fmon F) (ht : ∀ t, (∀ a, a < 16 → F t a ≤ t a) → ∀ z, (∀ b, z b ≤ 100) → (∀ a, a < 16 → z a ≤ t a) → ∀ a, a < 16 → F z a ≤ F t a) {z : Nat → Nat} (h : KL F z) {a : Nat} (ha : a < 16) : KL F (zu z a (F z a)) := by
  have hb : ∀ b, zu z a (F z a) b ≤ 100 := fun b => by
    unfold zu; split
    · exact hm.2 z a
    · exact h.1 b
  have hle : ∀ b, b < 16 → z b ≤ zu z a (F z a) b := fun b hb => by
    unfold zu; split
    · next e => rw [e]; exact h.2.1 a ha
    · exact Nat.le_refl _
  refine ⟨hb, fun b hb2 => ?_, fun t q b hb2 => ?_⟩
  · have h1 := hm.1 z _ hb hle b hb2
    by_cases e : b = a
    · rw [e, zu_eq]; rw [e] at h1; exact h1
    · rw [zu_ne e]; exact Nat.le_trans (h.2.1 b hb2) h1
  · by_cases e : b = a
    · rw [e, zu_eq]; exact Nat.le_trans (ht t q z h.1 (h.2.2 t q) a ha) (q a ha)
    · rw [zu_ne e]; exact h.2.2 t q b hb2
theorem KL.zero {F : (Nat → Nat) → Nat → Nat} : KL F (fun _ => 0) := ⟨fun _ => Nat.zero_le _, fun _ _ => Nat.zero_le _, fun _ _ _ _ => Nat.zero_le _⟩
/-! counting -/
theorem m100_mono {a b : Nat} (h : a ≤ b) : m100 a ≤ m100 b := by
  unfold m100; repeat' split
  all_goals omega
theorem opC_m {g : GT} {w : Nat → Nat} : OM (opC g w) := ⟨fun a b a' b' h1 h2 => m100_mono (Nat.add_le_add h1 h2), fun a b a' b' h1 h2 _ _ => m100_mono (Nat.mul_le_mul h1 h2)⟩
/-- what a stretch's counts are made into: the reference's, the class's -/
noncomputable def PhR (g : GT) (w : Nat → Nat) (v : CV) (x y : Nat) (z : Nat → Nat) (a : Nat) : Nat := gF (opC g w) g (vs v x y z) a x y (Gn g)
noncomputable def PhC (g : GT) (w : Nat → Nat) (v : CV) (x y : Nat) (z : Nat → Nat) (a : Nat) : Nat := gOp (opC g w) g (vs v x y z) a x y
theorem gF_100 {g : GT} {w : Nat → Nat} {v : CV} {a x y : Nat} : ∀ N, gF (opC g w) g v a x y N ≤ 100
  | 0 => Nat.zero_le _
  | N + 1 => by
    rw [gF_s]; split
    · exact m100_le _
    · exact gF_100 N
/-- a count needs no bound below: what is above may be large -/
theorem gD_monoC {g : GT} {w : Nat → Nat} (hg : GR g) {v v' : CV} {p x : Nat} : ∀ (k y : Nat), k ≤ Gl g p → vLe v v' x y → gD (opC g w) g v p k x y ≤ gD (opC g w) g v' p k x y
  | 0, _, _, _ => Nat.le_refl _
  | k + 1, y, hk, h => by
    rw [gD_s, gD_s]
    refine gfo_mono opC_m _ (fun i hi => ?_)
    have hsr := hg.2.2.2.2.2 p k (by omega)
    exact m100_mono (Nat.mul_le_mul (gD_monoC hg k (x + i) (by omega) (fun a x' y' q1 q2 q3 q4 => h a x' y' q1 q2 q3 (by omega))) (gsv_mono h hsr (by omega) (by omega) (Nat.le_refl _)))
theorem gF_monoC {g : GT} {w : Nat → Nat} (hg : GR g) {v v' : CV} {a x y : Nat} (h : vLe v v' x y) : ∀ N, gF (opC g w) g v a x y N ≤ gF (opC g w) g v' a x y N
  | 0 => Nat.le_refl _
  | N + 1 => by
    rw [gF_s, gF_s]
    split
    · exact opC_m.1 _ _ _ _ (gF_monoC hg h N) (gD_monoC hg (Gl g N) y (Nat.le_refl _) h)
    · exact gF_monoC hg h N
theorem PhR_mono {g : GT} {w : Nat → Nat} (hg : GR g) {v : CV} {x y : Nat} {z z' : Nat → Nat} (h : ∀ a, a < 16 → z a ≤ z' a) (a : Nat) : PhR g w v x y z a ≤ PhR g w v x y z' a := gF_monoC hg (vs_le h) _
theorem PhC_mono {g : GT} {w : Nat → Nat} (hg : GR g) {v : CV} {x y : Nat} {z z' : Nat → Nat} (h : ∀ a, a < 16 → z a ≤ z' a) (a : Nat) : PhC g w v x y z a ≤ PhC g w v x y z' a := by
  have h1 := PhR_mono (w := w) (v := v) (x := x) (y := y) hg h a
  unfold PhR at h1
  have h2 := gF_100 (g := g) (w := w) (v := vs v x y z) (a := a) (x := x) (y := y) (Gn g)
  show (if 0 < gF (opC g w) g (vs v x y z) a x y (Gn g) ∧ zci g a = true then 100 else gF (opC g w) g (vs v x y z) a x y (Gn g)) ≤ (if 0 < gF (opC g w) g (vs v x y z') a x y (Gn g) ∧ zci g a = true then 100 else gF (opC g w) g (vs v x y z') a x y (Gn g))
  split
  · next c => rw [if_pos ⟨by omega, c.2⟩]; exact Nat.le_refl _
  · split
    · exact h2
    · exact h1
theorem PhC_100 {g : GT} {w : Nat → Nat} {v : CV} {x y : Nat} {z : Nat → Nat} (a : Nat) : PhC g w v x y z a ≤ 100 := by
  show (if 0 < gF (opC g w) g (vs v x y z) a x y (Gn g) ∧ zci g a = true then 100 else gF (opC g w) g (vs v x y z) a x y (Gn g)) ≤ 100
  split
  · exact Nat.le_refl _
  · exact gF_100 _
theorem PhR_fm {g : GT} {w : Nat → Nat} (hg : GR g) {v : CV} {x y : Nat} : Fmon (PhR g w v x y) := ⟨fun _ _ _ h a _ => PhR_mono hg h a, fun _ _ => gF_100 _⟩
theorem PhC_fm {g : GT} {w : Nat → Nat} (hg : GR g) {v : CV} {x y : Nat} : Fmon (PhC g w v x y) := ⟨fun _ _ _ h a _ => PhC_mono hg h a, fun _ a => PhC_100 a⟩
/-- the sums that the rounds of the class count -/
theorem kok_C {g : GT} (hg : GR g) {w : Nat → Nat} {nw : Nat} : KOK (opC g w) g nw (fun v x y z => KL (PhC g w v x y) z) (fun z => 1600 - sD z 16) := by
  refine ⟨fun v x y _ _ _ => KL.zero, fun v x y u _ _ _ _ hK => ⟨KL.all (PhC_fm hg) (fun t _ z _ h a _ => PhC_mono hg h a) hK, fun ⟨a, ha, hne⟩ => ?_⟩, fun u _ => by show 1600 - sD u 16 ≤ 20000; omega, fun v v' x y u u' hv hu hK => ?_⟩
  · have h1 : sD u 16 < sD (PhC g w v x y u) 16 := sD_lt 16 (fun b hb => hK.2.1 b hb) ⟨a, ha, by have := hK.2.1 a ha; have h2 : PhC g w v x y u a ≠ u a := hne; omega⟩
    have h3 : sD (PhC g w v x y u) 16 ≤ 100 * 16 := sD_le 16 (fun b _ => PhC_100 b)
    show 1600 - sD (PhC g w v x y u) 16 < 1600 - sD u 16
    omega
  · have e : PhC g w v x y = PhC g w v' x y := by
      funext z a
      exact gOp_congr hg (fun b x' y' q1 q2 q3 q4 => by
        by_cases c : x' = x ∧ y' = y
        · rw [c.1, c.2, vs_eq, vs_eq]
        · rw [vs_ne c, vs_ne c]; exact hv b x' y' q1 q2 q3 q4 c)
    have eu : u' = u := by funext a; exact (hu a).symm
    show KL (PhC g w v' x y) u'
    rw [eu, ← e]; exact hK
/-! the counts of class and reference are the same -/
/-- uncut counts -/
def su (f : Nat → Nat) : Nat → Nat
  | 0 => 0
  | c + 1 => su f c + f c
theorem su_s {f : Nat → Nat} {c : Nat} : su f (c + 1) = su f c + f c := rfl
theorem su_mono {f f' : Nat → Nat} : ∀ c, (∀ i, i < c → f i ≤ f' i) → su f c ≤ su f' c
  | 0, _ => Nat.le_refl _
  | c + 1, h => Nat.add_le_add (su_mono c (fun i hi => h i (by omega))) (h c (by omega))
theorem su_one {f : Nat → Nat} : ∀ c j, j < c → f j ≤ su f c
  | 0, j, h => absurd h (by omega)
  | c + 1, j, h => by
    rw [su_s]
    by_cases e : j = c
    · rw [e]; exact Nat.le_add_left _ _
    · exact Nat.le_trans (su_one c j (by omega)) (Nat.le_add_right _ _)
theorem su_add {f f' : Nat → Nat} {x j : Nat} : ∀ c, (∀ i, i < c → f i ≤ f' i) → j < c → f j + x ≤ f' j → su f c + x ≤ su f' c
  | 0, _, h, _ => absurd h (by omega)
  | c + 1, h, hj, hx => by
    rw [su_s, su_s]
    by_cases e : j = c
    · subst e
      have := su_mono j (fun i hi => h i (by omega)); omega
    · have := su_add c (fun i hi => h i (by omega)) (by omega) hx
      have := h c (by omega); omega
noncomputable def cD (g : GT) (w : Nat → Nat) (v : CV) (p : Nat) : Nat → Nat → Nat → Nat
  | 0, x, y => if x = y then 1 else 0
  | k + 1, x, y => su (fun i => cD g w v p k x (x + i) * gsv (opC g w) v (Gs g p k) (x + i) y) (y + 1 - x)
theorem cD_s {g : GT} {w : Nat → Nat} {v : CV} {p k x y : Nat} : cD g w v p (k + 1) x y = su (fun i => cD g w v p k x (x + i) * gsv (opC g w) v (Gs g p k) (x + i) y) (y + 1 - x) := rfl
theorem m100_mul (a b : Nat) : m100 (m100 a * b) = m100 (a * b) := by
  by_cases h : a ≤ 100
  · have : m100 a = a := if_pos h
    rw [this]
  · have e : m100 a = 100 := if_neg h
    rw [e]
    by_cases hb : b = 0
    · rw [hb, Nat.mul_zero, Nat.mul_zero]
    · have h1 : 100 * 1 ≤ 100 * b := Nat.mul_le_mul_left _ (by omega)
      have h2 : 100 * b ≤ a * b := Nat.mul_le_mul_right _ (by omega)
      by_cases h3 : 100 * b ≤ 100
      · have h4 : b = 1 := by omega
        rw [h4, Nat.mul_one]
        unfold m100; rw [if_pos (by omega), if_neg (by omega)]
      · unfold m100; rw [if_neg h3, if_neg (by omega)]
theorem gfo_su {g : GT} {w : Nat → Nat} {f f' : Nat → Nat} : ∀ c, (∀ i, i < c → f i = m100 (f' i)) → gfo (opC g w) f c = m100 (su f' c)
  | 0, _ => rfl
  | c + 1, h => by
    rw [gfo_s, gfo_su c (fun i hi => h i (by omega)), h c (by omega), su_s]
    show m100 (m100 (su f' c) + m100 (f' c)) = m100 (su f' c + f' c)
    rw [m100_add, Nat.add_comm, m100_add, Nat.add_comm]
theorem gD_cD {g : GT} {w : Nat → Nat} {v : CV} {p x : Nat} : ∀ (k y : Nat), gD (opC g w) g v p k x y = m100 (cD g w v p k x y)
  | 0, y => by
    show (if x = y then 1 else 0) = m100 (if x = y then 1 else 0)
    split <;> rfl
  | k + 1, y => by
    rw [gD_s, cD_s]
    refine gfo_su _ (fun i _ => ?_)
    rw [gD_cD k (x + i)]
    exact m100_mul _ _
/-- all productions of one -/
noncomputable def cS (g : GT) (w : Nat → Nat) (v : CV) (a x y : Nat) : Nat → Nat
  | 0 => 0
  | p + 1 => cS g w v a x y p + (if Go g p = a then cD g w v p (Gl g p) x y else 0)
theorem cS_s {g : GT} {w : Nat → Nat} {v : CV} {a x y p : Nat} : cS g w v a x y (p + 1) = cS g w v a x y p + (if Go g p = a then cD g w v p (Gl g p) x y else 0) := rfl
theorem gF_cS {g : GT} {w : Nat → Nat} {v : CV} {a x y : Nat} : ∀ N, gF (opC g w) g v a x y N = m100 (cS g w v a x y N)
  | 0 => rfl
  | N + 1 => by
    rw [gF_s, cS_s]
    split
    · rw [gF_cS N, gD_cD]
      show m100 (m100 (cS g w v a x y N) + m100 (cD g w v N (Gl g N) x y)) = _
      rw [m100_add, Nat.add_comm, m100_add, Nat.add_comm]
    · rw [gF_cS N, Nat.add_zero]
theorem cD_mono {g : GT} {w : Nat → Nat} (hg : GR g) {v v' : CV} {p x : Nat} : ∀ (k y : Nat), k ≤ Gl g p → vLe v v' x y → cD g w v p k x y ≤ cD g w v' p k x y
  | 0, _, _, _ => Nat.le_refl _
  | k + 1, y, hk, h => by
    rw [cD_s, cD_s]
    refine su_mono _ (fun i hi => ?_)
    have hsr := hg.2.2.2.2.2 p k (by omega)
    exact Nat.mul_le_mul (cD_mono hg k (x + i) (by omega) (fun a x' y' q1 q2 q3 q4 => h a x' y' q1 q2 q3 (by omega))) (gsv_mono h hsr (by omega) (by omega) (Nat.le_refl _))
theorem cS_mono {g : GT} {w : Nat → Nat} (hg : GR g) {v v' : CV} {a x y : Nat} (h : vLe v v' x y) : ∀ N, cS g w v a x y N ≤ cS g w v' a x y N
  | 0 => Nat.le_refl _
  | N + 1 => by
    rw [cS_s, cS_s]
    refine Nat.add_le_add (cS_mono hg h N) ?_
    split
    · exact cD_mono hg (Gl g N) y (Nat.le_refl _) h
    · exact Nat.le_refl _
/-- nullable symbols have a reading over nothing -/
theorem cD_nul {g : GT} {w : Nat → Nat} {v : CV} {x p : Nat} (h0 : ∀ a, zN g a → 1 ≤ v a x x) : ∀ k, (∀ j, j < k → nls (zN g) (Gs g p j)) → 1 ≤ cD g w v p k x x
  | 0, _ => by show 1 ≤ (if x = x then 1 else 0); rw [if_pos rfl]; exact Nat.le_refl _
  | k + 1, h => by
    have ih := cD_nul (w := w) h0 k (fun j hj => h j (by omega))
    have hk := h k (Nat.lt_succ_self k)
    rw [cD_s, show x + 1 - x = 1 by omega, su_s]
    have e : gsv (opC g w) v (Gs g p k) x x = v (Gs g p k - 16) x x := if_neg (by have := hk.1; omega)
    have h1 := h0 _ hk.2
    show 1 ≤ 0 + cD g w v p k x (x + 0) * gsv (opC g w) v (Gs g p k) (x + 0) x
    rw [Nat.add_zero, e, Nat.zero_add]
    exact Nat.mul_le_mul ih h1
/-- one circular part adds its own count -/
theorem cD_pump {g : GT} {w : Nat → Nat} (hg : GR g) {v v' : CV} {p x y k0 b : Nat} (hxy : x ≤ y) (hle : vLe v' v x y) (hk0 : k0 < Gl g p) (hb : Gs g p k0 = 16 + b) (hz : v' b x y = 0)
    (h0 : ∀ a, zN g a → 1 ≤ v a x x) (h1 : ∀ a, zN g a → 1 ≤ v a y y) (hpre : ∀ j, j < k0 → nls (zN g) (Gs g p j)) (hsuf : ∀ j, k0 + 1 ≤ j → j < Gl g p → nls (zN g) (Gs g p j)) :
    ∀ m, k0 + 1 + m ≤ Gl g p → cD g w v' p (k0 + 1 + m) x y + v b x y ≤ cD g w v p (k0 + 1 + m) x y
  | 0, _ => by
    rw [Nat.add_zero, cD_s, cD_s]
    have hsr := hg.2.2.2.2.2 p k0 hk0
    refine su_add (j := 0) _ (fun i hi => ?_) (by omega) ?_
    · exact Nat.mul_le_mul (cD_mono hg k0 (x + i) (by omega) (fun a x' y' q1 q2 q3 q4 => hle a x' y' q1 q2 q3 (by omega))) (gsv_mono hle hsr (by omega) (by omega) (Nat.le_refl _))
    · have e1 : ∀ V : CV, gsv (opC g w) V (Gs g p k0) x y = V b x y := fun V => by
        unfold gsv; rw [if_neg (by omega), show Gs g p k0 - 16 = b by omega]
      have hn := cD_nul (w := w) h0 k0 hpre
      show cD g w v' p k0 x (x + 0) * gsv (opC g w) v' (Gs g p k0) (x + 0) y + v b x y ≤ cD g w v p k0 x (x + 0) * gsv (opC g w) v (Gs g p k0) (x + 0) y
      rw [Nat.add_zero, e1, e1, hz, Nat.mul_zero, Nat.zero_add]
      exact Nat.le_trans (Nat.le_of_eq (Nat.one_mul _).symm) (Nat.mul_le_mul_right _ hn)
  | m + 1, hm => by
    have ih := cD_pump (w := w) hg hxy hle hk0 hb hz h0 h1 hpre hsuf m (by omega)
    have hkk : k0 + 1 + (m + 1) = (k0 + 1 + m) + 1 := by omega
    rw [hkk, cD_s, cD_s]
    have hsr := hg.2.2.2.2.2 p (k0 + 1 + m) (by omega)
    have hnl := hsuf (k0 + 1 + m) (by omega) (by omega)
    refine su_add (j := y - x) _ (fun i hi => ?_) (by omega) ?_
    · exact Nat.mul_le_mul (cD_mono hg (k0 + 1 + m) (x + i) (by omega) (fun a x' y' q1 q2 q3 q4 => hle a x' y' q1 q2 q3 (by omega))) (gsv_mono hle hsr (by omega) (by omega) (Nat.le_refl _))
    · have e1 : ∀ V : CV, gsv (opC g w) V (Gs g p (k0 + 1 + m)) y y = V (Gs g p (k0 + 1 + m) - 16) y y := fun V => if_neg (by have := hnl.1; omega)
      have h2 := h1 _ hnl.2
      have h3 := hle (Gs g p (k0 + 1 + m) - 16) y y (by have := hnl.1; omega) hxy (Nat.le_refl _) (Nat.le_refl _)
      show cD g w v' p (k0 + 1 + m) x (x + (y - x)) * gsv (opC g w) v' (Gs g p (k0 + 1 + m)) (x + (y - x)) y + v b x y ≤ cD g w v p (k0 + 1 + m) x (x + (y - x)) * gsv (opC g w) v (Gs g p (k0 + 1 + m)) (x + (y - x)) y
      rw [show x + (y - x) = y by omega, e1, e1]
      generalize cD g w v' p (k0 + 1 + m) x y = c1 at *
      generalize cD g w v p (k0 + 1 + m) x y = c2 at *
      generalize v' (Gs g p (k0 + 1 + m) - 16) y y = d1 at *
      generalize v (Gs g p (k0 + 1 + m) - 16) y y = d2 at *
      have q1 : (c1 + v b x y) * d2 ≤ c2 * d2 := Nat.mul_le_mul_right _ ih
      have q2 : c1 * d1 ≤ c1 * d2 := Nat.mul_le_mul_left _ h3
      have q3 : v b x y * 1 ≤ v b x y * d2 := Nat.mul_le_mul_left _ h2
      rw [Nat.add_mul] at q1
      omega
theorem cS_one {g : GT} {w : Nat → Nat} {v : CV} {a x y p : Nat} (ha : Go g p = a) : ∀ N, p < N → cD g w v p (Gl g p) x y ≤ cS g w v a x y N
  | 0, h => absurd h (by omega)
  | N + 1, h => by
    rw [cS_s]
    by_cases e : p = N
    · rw [← e, if_pos ha]; exact Nat.le_add_left _ _
    · exact Nat.le_trans (cS_one ha N (by omega)) (Nat.le_add_right _ _)
theorem cS_add {g : GT} {w : Nat → Nat} (hg : GR g) {v v' : CV} {a x y p c : Nat} (ha : Go g p = a) (hle : vLe v' v x y) (hc : cD g w v' p (Gl g p) x y + c ≤ cD g w v p (Gl g p) x y) : ∀ N, p < N → cS g w v' a x y N + c ≤ cS g w v a x y N
  | 0, h => absurd h (by omega)
  | N + 1, h => by
    rw [cS_s, cS_s]
    by_cases e : p = N
    · rw [← e, if_pos ha, if_pos ha]
      have := cS_mono (w := w) (a := a) hg hle p; omega
    · have i1 := cS_add hg ha hle hc N (by omega)
      have i2 : (if Go g N = a then cD g w v' N (Gl g N) x y else 0) ≤ (if Go g N = a then cD g w v N (Gl g N) x y else 0) := by
        split
        · exact cD_mono hg (Gl g N) y (Nat.le_refl _) hle
        · exact Nat.le_refl _
      omega
/-- the reference's chart: least, stretch by stretch -/
def LFX (F : CV → Nat → Nat → (Nat → Nat) → Nat → Nat) (v : CV) (P : Nat → Nat → Prop) : Prop := ∀ x y, P x y → (∀ a, a < 16 → F v x y (fun b => v b x y) a = v a x y) ∧ KL (F v x y) (fun b => v b x y)
theorem zN_one {g : GT} {w : Nat → Nat} {v : CV} {P : Nat → Nat → Prop} (hg : GR g) (h : LFX (PhR g w) v P) {x : Nat} (hx : P x x) {a : Nat} (ha : zN g a) : 1 ≤ v a x x := by
  have := ha (fun a => a < 16 → 1 ≤ v a x x) (fun _ _ => True) (fun p hp1 => ⟨fun he ho => ?_, fun _ _ => trivial⟩)
  · have ha16 : a < 16 := by
      have := ha (fun a => a < 16) (fun _ _ => True) (fun p hp1 => ⟨fun _ => hg.2.2.1 p, fun _ _ => trivial⟩)
      exact this
    exact this ha16
  · have h1 := (h x x hx).1 (Go g p) ho
    rw [← h1]
    unfold PhR
    rw [vs_self, gF_cS]
    have h2 : 1 ≤ cD g w v p (Gl g p) x x := by
      -- by the symbols
      have key : ∀ k, k ≤ Gl g p → 1 ≤ cD g w v p k x x := by
        intro k
        induction k with
        | zero => intro _; show 1 ≤ (if x = x then 1 else 0); rw [if_pos rfl]; exact Nat.le_refl _
        | succ k ih =>
          intro hk
          have hn := he k (Nat.zero_le _) (by omega)
          have hsr := hg.2.2.2.2.2 p k (by omega)
          rw [cD_s, show x + 1 - x = 1 by omega, su_s]
          have e : gsv (opC g w) v (Gs g p k) x x = v (Gs g p k - 16) x x := if_neg (by have := hn.1; omega)
          have h1 := hn.2 (by have := hn.1; omega)
          show 1 ≤ 0 + cD g w v p k x (x + 0) * gsv (opC g w) v (Gs g p k) (x + 0) x
          rw [Nat.add_zero, e, Nat.zero_add]
          exact Nat.mul_le_mul (ih (by omega)) h1
      exact key _ (Nat.le_refl _)
    have h3 := cS_one (g := g) (w := w) (v := v) (x := x) (y := x) (p := p) rfl (Gn g) hp1
    have h4 := m100_mono (Nat.le_trans h2 h3)
    exact h4
/-- who derives itself alone has no count or a hundred -/
theorem circ_100 {g : GT} {w : Nat → Nat} {v : CV} {nw : Nat} (hg : GR g) (h : LFX (PhR g w) v (fun x y => x ≤ y ∧ y ≤ nw)) {x y a0 : Nat} (hxy : x ≤ y) (hy : y ≤ nw) (ha0 : a0 < 16) (hc : zCT g a0 a0) (hpos : 0 < v a0 x y) : v a0 x y = 100 := by
  obtain ⟨hfix, hK⟩ := h x y ⟨hxy, hy⟩
  have h100 := hK.1 a0
  apply Classical.byContradiction
  intro hne
  have hlt : v a0 x y < 100 := by
    have : v a0 x y ≤ 100 := h100
    omega
  have hN0 : ∀ a, zN g a → 1 ≤ v a x x := fun a ha => zN_one hg h ⟨Nat.le_refl x, Nat.le_trans hxy hy⟩ ha
  have hN1 : ∀ a, zN g a → 1 ≤ v a y y := fun a ha => zN_one hg h ⟨Nat.le_refl y, hy⟩ ha
  have htc := zCT_tc g
  have h16 : ∀ a b, rlC g (zN g) a b → a < 16 ∧ b < 16 := by
    rintro a b ⟨p, hp1, rfl, k, hk, -, -, hs⟩
    have := hg.2.2.2.2.2 p k hk
    have := hg.2.2.1 p
    omega
  -- along a step counts fall
  have hstep : ∀ a b, rlC g (zN g) a b → v b x y ≤ v a x y := by
    intro a b hr
    obtain ⟨ha16, hb16⟩ := h16 a b hr
    obtain ⟨p, hp1, hpo, k, hk, hpre, hsuf, hs⟩ := hr
    have hle : vLe (vs v x y (fun c => if c = b then 0 else v c x y)) v x y := fun c x' y' _ _ _ _ => by
      by_cases e : x' = x ∧ y' = y
      · rw [e.1, e.2, vs_eq]; split
        · exact Nat.zero_le _
        · exact Nat.le_refl _
      · rw [vs_ne e]; exact Nat.le_refl _
    have hp2 := cD_pump (w := w) hg hxy hle hk hs (by rw [vs_eq, if_pos rfl]) hN0 hN1 hpre (fun j q1 q2 => hsuf j q1 q2) (Gl g p - (k + 1)) (by omega)
    rw [show k + 1 + (Gl g p - (k + 1)) = Gl g p by omega] at hp2
    have h3 := cS_one (g := g) (w := w) (v := v) (x := x) (y := y) hpo (Gn g) hp1
    have h4 := hfix a ha16
    unfold PhR at h4
    rw [vs_self, gF_cS] at h4
    have h5 := m100_mono (Nat.le_trans (Nat.le_trans (Nat.le_add_left _ _) hp2) h3)
    rw [h4] at h5
    have h6 : m100 (v b x y) = v b x y := if_pos (hK.1 b)
    rw [h6] at h5
    exact h5
  have hT : ∀ a b, zCT g a b → v b x y ≤ v a x y := fun a b q => q (fun a b => v b x y ≤ v a x y) hstep (fun a b c q1 q2 => Nat.le_trans q2 q1)
  have hT16 : ∀ a b, zCT g a b → a < 16 ∧ b < 16 := fun a b q => q (fun a b => a < 16 ∧ b < 16) h16 (fun a b c q1 q2 => ⟨q1.1, q2.2⟩)
  -- those on the circle are set to nothing
  have hfin := hK.2.2 (fun b => zif (zCT g a0 b ∧ zCT g b a0) 0 (v b x y)) (fun a ha => ?_) a0 ha0
  · have hfin' : v a0 x y ≤ zif (zCT g a0 a0 ∧ zCT g a0 a0) 0 (v a0 x y) := hfin
    rw [zif_p ⟨hc, hc⟩] at hfin'
    omega
  · have hle : vLe (vs v x y (fun b => zif (zCT g a0 b ∧ zCT g b a0) 0 (v b x y))) v x y := fun c x' y' _ _ _ _ => by
      by_cases e : x' = x ∧ y' = y
      · rw [e.1, e.2, vs_eq]
        by_cases q : zCT g a0 c ∧ zCT g c a0
        · rw [zif_p q]; exact Nat.zero_le _
        · rw [zif_n q]; exact Nat.le_refl _
      · rw [vs_ne e]; exact Nat.le_refl _
    have hfa := hfix a ha
    unfold PhR at hfa ⊢
    rw [vs_self] at hfa
    show gF (opC g w) g (vs v x y (fun b => zif (zCT g a0 b ∧ zCT g b a0) 0 (v b x y))) a x y (Gn g) ≤ zif (zCT g a0 a ∧ zCT g a a0) 0 (v a x y)
    by_cases q : zCT g a0 a ∧ zCT g a a0
    · rw [zif_p q]
      -- a step on the circle
      obtain ⟨c, hr, hcc⟩ := isTC_first htc (htc.2.1 a a0 a q.2 q.1)
      have hc1 : zCT g a0 c := htc.2.1 _ _ _ q.1 (htc.1 _ _ hr)
      have hc2 : zCT g c a0 := by
        rcases hcc with e | e
        · rw [e]; exact q.2
        · exact htc.2.1 _ _ _ e q.2
      have hva : v a x y = v a0 x y := Nat.le_antisymm (hT _ _ q.1) (hT _ _ q.2)
      have hvc : v c x y = v a0 x y := Nat.le_antisymm (hT _ _ hc1) (hT _ _ hc2)
      obtain ⟨p, hp1, hpo, k, hk, hpre, hsuf, hs⟩ := hr
      have hp2 := cD_pump (w := w) hg hxy hle hk hs (by rw [vs_eq, zif_p ⟨hc1, hc2⟩]) hN0 hN1 hpre (fun j q1 q2 => hsuf j q1 q2) (Gl g p - (k + 1)) (by omega)
      rw [show k + 1 + (Gl g p - (k + 1)) = Gl g p by omega] at hp2
      have h3 := cS_add (w := w) (x := x) (y := y) hg hpo hle hp2 (Gn g) hp1
      rw [gF_cS] at hfa ⊢
      have h4 : cS g w v a x y (Gn g) = v a x y := by
        unfold m100 at hfa
        split at hfa
        · exact hfa
        · omega
      have h5 : cS g w (vs v x y (fun b => zif (zCT g a0 b ∧ zCT g b a0) 0 (v b x y))) a x y (Gn g) = 0 := by omega
      rw [h5]; exact Nat.le_refl _
    · rw [zif_n q, ← hfa]
      exact gF_monoC hg hle _
/-- the charts are the same -/
theorem count_eq {g : GT} {w : Nat → Nat} {nw : Nat} (hg : GR g) {v v' : CV} (h : FIX (opC g w) g (fun v x y z => KL (PhC g w v x y) z) v (fun x y => x ≤ y ∧ y ≤ nw)) (h' : LFX (PhR g w) v' (fun x y => x ≤ y ∧ y ≤ nw)) :
    ∀ (W x y : Nat), y - x ≤ W → x ≤ y → y ≤ nw → ∀ a, a < 16 → v a x y = v' a x y := by
  intro W
  induction W using Nat.strongRecOn with
  | _ W ih =>
    intro x y hW hxy hy
    -- below they are the same
    have hsub : ∀ z a x' y', a < 16 → x ≤ x' → x' ≤ y' → y' ≤ y → vs v x y z a x' y' = vs v' x y z a x' y' := fun z a x' y' q1 q2 q3 q4 => by
      by_cases e : x' = x ∧ y' = y
      · rw [e.1, e.2, vs_eq, vs_eq]
      · rw [vs_ne e, vs_ne e]
        exact ih (y' - x') (by omega) x' y' (Nat.le_refl _) q3 (by omega) a q1
    have eF : ∀ z a, gF (opC g w) g (vs v x y z) a x y (Gn g) = gF (opC g w) g (vs v' x y z) a x y (Gn g) := fun z a => gF_congr hg (hsub z) _
    obtain ⟨c1, c2⟩ := h x y ⟨hxy, hy⟩
    obtain ⟨r1, r2⟩ := h' x y ⟨hxy, hy⟩
    have le1 := r2.2.2 (fun b => v b x y) (fun a ha => by
      unfold PhR
      rw [← eF]
      show gF (opC g w) g (vs v x y (fun b => v b x y)) a x y (Gn g) ≤ v a x y
      rw [vs_self, c1 a ha]
      show _ ≤ (if 0 < gF (opC g w) g v a x y (Gn g) ∧ zci g a = true then 100 else gF (opC g w) g v a x y (Gn g))
      split
      · exact gF_100 _
      · exact Nat.le_refl _)
    have le2 := c2.2.2 (fun b => v' b x y) (fun a ha => by
      have e1 : PhC g w v x y (fun b => v' b x y) a = if 0 < gF (opC g w) g (vs v' x y (fun b => v' b x y)) a x y (Gn g) ∧ zci g a = true then 100 else gF (opC g w) g (vs v' x y (fun b => v' b x y)) a x y (Gn g) := by
        rw [← eF]; rfl
      have e2 : gF (opC g w) g (vs v' x y (fun b => v' b x y)) a x y (Gn g) = v' a x y := r1 a ha
      rw [e1, e2]
      split
      · next q =>
        have := circ_100 hg h' hxy hy ha (zdb_t.mp q.2) q.1
        omega
      · exact Nat.le_refl _)
    exact fun a ha => Nat.le_antisymm (le2 a ha) (le1 a ha)
