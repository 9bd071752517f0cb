/-! ===== derivations with their values; a sentence with one reading has one value ===== -/
/-- a symbol over a stretch, with a value -/
def syD (w : Nat → Nat) (R : Nat → Nat → Nat → Nat → Prop) (s x y n : Nat) : Prop := (s < 16 ∧ y = x + 1 ∧ w x = s ∧ n = s + 1) ∨ (16 ≤ s ∧ R (s - 16) x y n)
/-- the first k symbols of a right over a stretch, with the sum of their values -/
def prD (g : GT) (w : Nat → Nat) (R : Nat → Nat → Nat → Nat → Prop) (p : Nat) : Nat → Nat → Nat → Nat → Prop
  | 0, x, y, n => x = y ∧ n = 0
  | k + 1, x, y, n => ∃ m n1 n2, x ≤ m ∧ m ≤ y ∧ prD g w R p k x m n1 ∧ syD w R (Gs g p k) m y n2 ∧ n = n1 + (k + 1) * n2
def clV (g : GT) (w : Nat → Nat) (R : Nat → Nat → Nat → Nat → Prop) : Prop := ∀ p, p < Gn g → ∀ x y n, prD g w R p (Gl g p) x y n → R (Go g p) x y ((p + 1 + n) % 1009)
/-- a nonterminal derives a stretch, by a tree of a value -/
def Dv (g : GT) (w : Nat → Nat) (a x y n : Nat) : Prop := ∀ R : Nat → Nat → Nat → Nat → Prop, clV g w R → R a x y n
section DV
variable {g : GT} {w : Nat → Nat}
theorem syD_mono {R R' : Nat → Nat → Nat → Nat → Prop} (h : ∀ a x y n, R a x y n → R' a x y n) {s x y n : Nat} : syD w R s x y n → syD w R' s x y n := fun q => q.elim Or.inl (fun z => Or.inr ⟨z.1, h _ _ _ _ z.2⟩)
theorem prD_mono {R R' : Nat → Nat → Nat → Nat → Prop} (h : ∀ a x y n, R a x y n → R' a x y n) {p : Nat} : ∀ {k x y n : Nat}, prD g w R p k x y n → prD g w R' p k x y n
  | 0, _, _, _, q => q
  | _ + 1, _, _, _, ⟨m, n1, n2, h1, h2, h3, h4, h5⟩ => ⟨m, n1, n2, h1, h2, prD_mono h h3, syD_mono h h4, h5⟩
theorem prD_le {R : Nat → Nat → Nat → Nat → Prop} {p : Nat} : ∀ {k x y n : Nat}, prD g w R p k x y n → x ≤ y
  | 0, _, _, _, q => Nat.le_of_eq q.1
  | _ + 1, _, _, _, ⟨_, _, _, h1, h2, _, _, _⟩ => Nat.le_trans h1 h2
theorem Dv_cl : clV g w (Dv g w) := fun p hp x y n h R c => c p hp x y n (prD_mono (fun a x y n q => q R c) h)
theorem Dv_inv {a x y n : Nat} (h : Dv g w a x y n) : x ≤ y ∧ ∃ p n', p < Gn g ∧ Go g p = a ∧ prD g w (Dv g w) p (Gl g p) x y n' ∧ n = (p + 1 + n') % 1009 := by
  have := h (fun a x y n => Dv g w a x y n ∧ x ≤ y ∧ ∃ p n', p < Gn g ∧ Go g p = a ∧ prD g w (Dv g w) p (Gl g p) x y n' ∧ n = (p + 1 + n') % 1009) (fun p hp x y n q => by
    have q1 := prD_mono (R' := Dv g w) (fun a x y n z => z.1) q
    exact ⟨Dv_cl p hp x y n q1, prD_le q, p, n, hp, rfl, q1, rfl⟩)
  exact this.2
theorem Dv_lt {a x y n : Nat} (h : Dv g w a x y n) : n < 1009 := by
  obtain ⟨-, p, n', -, -, -, e⟩ := Dv_inv h
  rw [e]
  exact Nat.mod_lt _ (by omega)
theorem su_two {f : Nat → Nat} : ∀ c i j, i < j → j < c → f i + f j ≤ su f c
  | 0, i, j, _, h => absurd h (by omega)
  | c + 1, i, j, h1, h2 => by
    rw [su_s]
    by_cases e : j = c
    · have := su_one (f := f) c i (by omega)
      rw [e]; omega
    · have := su_two (f := f) c i j h1 (by omega)
      omega
theorem gsv_C {v : CV} {s x y : Nat} : (s < 16 → gsv (opC g w) v s x y = if y = x + 1 ∧ w x = s then 1 else 0) ∧ (16 ≤ s → gsv (opC g w) v s x y = v (s - 16) x y) := by
  unfold gsv
  exact ⟨fun h => by rw [if_pos h]; rfl, fun h => by rw [if_neg (by omega)]⟩
section DU
variable {nw : Nat} {v : CV}
/-- there is a count where the parts have counts -/
theorem prD_cnt {R : Nat → Nat → Nat → Nat → Prop} (hR : ∀ a x y n, R a x y n → y ≤ nw → 1 ≤ v a x y) {p : Nat} : ∀ {k x y n : Nat}, prD g w R p k x y n → y ≤ nw → 1 ≤ cD g w v p k x y
  | 0, x, y, n, q, _ => by
    show 1 ≤ if x = y then 1 else 0
    rw [if_pos q.1]
    omega
  | k + 1, x, y, n, ⟨m, n1, n2, h1, h2, h3, h4, h5⟩, hy => by
    have e1 := prD_cnt hR h3 (by omega)
    have e2 : 1 ≤ gsv (opC g w) v (Gs g p k) m y := by
      rcases h4 with ⟨a1, a2, a3, a4⟩ | ⟨a1, a2⟩
      · rw [gsv_C.1 a1, if_pos ⟨a2, a3⟩]; omega
      · rw [gsv_C.2 a1]; exact hR _ _ _ _ a2 hy
    rw [cD_s]
    have e3 := su_one (f := fun i => cD g w v p k x (x + i) * gsv (opC g w) v (Gs g p k) (x + i) y) (y + 1 - x) (m - x) (by omega)
    rw [show x + (m - x) = m by omega] at e3
    have e4 : 1 * 1 ≤ cD g w v p k x m * gsv (opC g w) v (Gs g p k) m y := Nat.mul_le_mul e1 e2
    omega
variable (hg : GR g) (hF : FIX (opC g w) g (fun v x y z => KL (PhC g w v x y) z) v (fun x y => x ≤ y ∧ y ≤ nw))
theorem cnt_v (hF : FIX (opC g w) g (fun v x y z => KL (PhC g w v x y) z) v (fun x y => x ≤ y ∧ y ≤ nw)) {a x y : Nat} (ha : a < 16) (hxy : x ≤ y) (hy : y ≤ nw) : v a x y = if 0 < m100 (cS g w v a x y (Gn g)) ∧ zci g a = true then 100 else m100 (cS g w v a x y (Gn g)) := by
  rw [(hF x y ⟨hxy, hy⟩).1 a ha]
  unfold gOp
  rw [gF_cS]
  rfl
theorem Dv_cnt (hg : GR g) (hF : FIX (opC g w) g (fun v x y z => KL (PhC g w v x y) z) v (fun x y => x ≤ y ∧ y ≤ nw)) {a x y n : Nat} (h : Dv g w a x y n) (hy : y ≤ nw) : 1 ≤ v a x y := by
  refine h (fun a x y n => y ≤ nw → 1 ≤ v a x y) (fun p hp x y n q hy => ?_) hy
  have e1 := prD_cnt (v := v) (nw := nw) (fun a x y n z => z) q hy
  have e2 := cS_one (g := g) (w := w) (v := v) (x := x) (y := y) (p := p) rfl (Gn g) hp
  rw [cnt_v hF (hg.2.2.1 p) (prD_le q) hy]
  have : 1 ≤ m100 (cS g w v (Go g p) x y (Gn g)) := by unfold m100; split <;> omega
  split <;> omega
theorem prD_uni (hg : GR g) (hF : FIX (opC g w) g (fun v x y z => KL (PhC g w v x y) z) v (fun x y => x ≤ y ∧ y ≤ nw)) {p : Nat} : ∀ {k x y n : Nat}, prD g w (fun a x y n => Dv g w a x y n ∧ (y ≤ nw → v a x y = 1 → ∀ n', Dv g w a x y n' → n' = n)) p k x y n → y ≤ nw → cD g w v p k x y = 1 → ∀ n', prD g w (Dv g w) p k x y n' → n' = n
  | 0, x, y, n, q, _, _, n', q' => by rw [q.2, q'.2]
  | k + 1, x, y, n, ⟨m, n1, n2, h1, h2, h3, h4, h5⟩, hy, hc, n', ⟨m', n1', n2', h1', h2', h3', h4', h5'⟩ => by
    have hDc : ∀ a x y n, Dv g w a x y n → y ≤ nw → 1 ≤ v a x y := fun a x y n z hy => Dv_cnt hg hF z hy
    have hone : ∀ m n1 n2, x ≤ m → m ≤ y → prD g w (Dv g w) p k x m n1 → syD w (Dv g w) (Gs g p k) m y n2 → 1 ≤ cD g w v p k x m ∧ 1 ≤ gsv (opC g w) v (Gs g p k) m y := by
      intro m n1 n2 a1 a2 a3 a4
      refine ⟨prD_cnt hDc a3 (by omega), ?_⟩
      rcases a4 with ⟨b1, b2, b3, b4⟩ | ⟨b1, b2⟩
      · rw [gsv_C.1 b1, if_pos ⟨b2, b3⟩]; omega
      · rw [gsv_C.2 b1]; exact hDc _ _ _ _ b2 hy
    have o1 := hone m n1 n2 h1 h2 (prD_mono (fun a x y n z => z.1) h3) (syD_mono (fun a x y n z => z.1) h4)
    have o2 := hone m' n1' n2' h1' h2' h3' h4'
    rw [cD_s] at hc
    have hmul : ∀ {a b : Nat}, 1 ≤ a → 1 ≤ b → 1 ≤ a * b := fun h1 h2 => Nat.mul_le_mul h1 h2
    have hmm : m' = m := by
      refine Classical.byContradiction fun c => ?_
      have t1 := hmul o1.1 o1.2
      have t2 := hmul o2.1 o2.2
      rcases Nat.lt_or_gt_of_ne c with q | q
      · have := su_two (f := fun i => cD g w v p k x (x + i) * gsv (opC g w) v (Gs g p k) (x + i) y) (y + 1 - x) (m' - x) (m - x) (by omega) (by omega)
        rw [show x + (m' - x) = m' by omega, show x + (m - x) = m by omega] at this
        omega
      · have := su_two (f := fun i => cD g w v p k x (x + i) * gsv (opC g w) v (Gs g p k) (x + i) y) (y + 1 - x) (m - x) (m' - x) (by omega) (by omega)
        rw [show x + (m' - x) = m' by omega, show x + (m - x) = m by omega] at this
        omega
    subst hmm
    have t3 := su_one (f := fun i => cD g w v p k x (x + i) * gsv (opC g w) v (Gs g p k) (x + i) y) (y + 1 - x) (m' - x) (by omega)
    rw [show x + (m' - x) = m' by omega, hc] at t3
    have t4 : cD g w v p k x m' = 1 ∧ gsv (opC g w) v (Gs g p k) m' y = 1 := by
      have a1 : cD g w v p k x m' * 1 ≤ cD g w v p k x m' * gsv (opC g w) v (Gs g p k) m' y := Nat.mul_le_mul (Nat.le_refl _) o1.2
      have a2 : 1 * gsv (opC g w) v (Gs g p k) m' y ≤ cD g w v p k x m' * gsv (opC g w) v (Gs g p k) m' y := Nat.mul_le_mul o1.1 (Nat.le_refl _)
      have := o1.1
      have := o1.2
      omega
    have u1 := prD_uni hg hF h3 (by omega) t4.1 n1' h3'
    have u2 : n2' = n2 := by
      rcases h4 with ⟨a1, a2, a3, a4⟩ | ⟨a1, a2, a3⟩
      · rcases h4' with ⟨b1, b2, b3, b4⟩ | ⟨b1, b2⟩
        · omega
        · omega
      · rcases h4' with ⟨b1, b2, b3, b4⟩ | ⟨b1, b2⟩
        · omega
        · exact a3 hy (by rw [← t4.2, gsv_C.2 a1]) _ b2
    rw [h5, h5', u1, u2]
theorem cS_two {a x y p q : Nat} (hp : Go g p = a) (hq : Go g q = a) (hlt : p < q) : ∀ N, q < N → cD g w v p (Gl g p) x y + cD g w v q (Gl g q) x y ≤ cS g w v a x y N
  | 0, h => absurd h (by omega)
  | N + 1, h => by
    rw [cS_s]
    by_cases e : q = N
    · have := cS_one (g := g) (w := w) (v := v) (x := x) (y := y) hp N (by omega)
      rw [if_pos (by rw [← e]; exact hq), ← e]
      rw [← e] at this
      omega
    · have := cS_two (x := x) (y := y) hp hq hlt N (by omega)
      omega
/-- with one reading there is one value -/
theorem Dv_uni (hg : GR g) (hF : FIX (opC g w) g (fun v x y z => KL (PhC g w v x y) z) v (fun x y => x ≤ y ∧ y ≤ nw)) {a x y n n' : Nat} (h : Dv g w a x y n) (h' : Dv g w a x y n') (hy : y ≤ nw) (h1 : v a x y = 1) : n' = n := by
  refine (h (fun a x y n => Dv g w a x y n ∧ (y ≤ nw → v a x y = 1 → ∀ n', Dv g w a x y n' → n' = n)) (fun p hp x y n q => ?_)).2 hy h1 n' h'
  have hDc : ∀ a x y n, Dv g w a x y n → y ≤ nw → 1 ≤ v a x y := fun a x y n z hy => Dv_cnt hg hF z hy
  have q1 := prD_mono (R' := Dv g w) (fun a x y n z => z.1) q
  refine ⟨Dv_cl p hp x y n q1, fun hy hv n' hd => ?_⟩
  rw [cnt_v hF (hg.2.2.1 p) (prD_le q) hy] at hv
  have hS : cS g w v (Go g p) x y (Gn g) = 1 := by
    split at hv
    · omega
    · unfold m100 at hv
      split at hv <;> omega
  obtain ⟨-, p', n'', hp', ho', q2, e⟩ := Dv_inv hd
  have c1 := prD_cnt (v := v) (nw := nw) hDc q1 hy
  have c2 := prD_cnt (v := v) (nw := nw) hDc q2 hy
  have hpp : p' = p := by
    refine Classical.byContradiction fun c => ?_
    rcases Nat.lt_or_gt_of_ne c with z | z
    · have := cS_two (g := g) (w := w) (v := v) (x := x) (y := y) ho' rfl z (Gn g) hp
      omega
    · have := cS_two (g := g) (w := w) (v := v) (x := x) (y := y) rfl ho' z (Gn g) hp'
      omega
  subst hpp
  have c3 := cS_one (g := g) (w := w) (v := v) (x := x) (y := y) (p := p') rfl (Gn g) hp
  have := prD_uni hg hF q hy (by omega) n'' q2
  rw [e, this]
end DU
end DV
