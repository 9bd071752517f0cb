/-! ===== what has a reading is what needs no edit ===== -/
theorem gfo_pos {g : GT} {w : Nat → Nat} {f : Nat → Nat} : ∀ c, 0 < gfo (opC g w) f c ↔ ∃ i, i < c ∧ 0 < f i
  | 0 => ⟨fun h => absurd h (by show ¬ 0 < 0; omega), fun ⟨i, h, _⟩ => absurd h (by omega)⟩
  | c + 1 => by
    have ih := gfo_pos (g := g) (w := w) (f := f) c
    show 0 < m100 (gfo (opC g w) f c + f c) ↔ _
    have hm : ∀ x, 0 < m100 x ↔ 0 < x := fun x => by unfold m100; split <;> omega
    rw [hm]
    constructor
    · intro h
      by_cases c1 : 0 < f c
      · exact ⟨c, by omega, c1⟩
      · obtain ⟨i, h1, h2⟩ := ih.mp (by omega)
        exact ⟨i, by omega, h2⟩
    · rintro ⟨i, h1, h2⟩
      by_cases c1 : i = c
      · rw [c1] at h2; omega
      · have := ih.mpr ⟨i, by omega, h2⟩
        omega
theorem gfo_zero {g : GT} {w : Nat → Nat} {f : Nat → Nat} : ∀ c, gfo (opR g w) f c = 0 ↔ ∃ i, i < c ∧ f i = 0
  | 0 => ⟨fun h => absurd h (by show ¬ 1000 = 0; omega), fun ⟨i, h, _⟩ => absurd h (by omega)⟩
  | c + 1 => by
    have ih := gfo_zero (g := g) (w := w) (f := f) c
    show mn (gfo (opR g w) f c) (f c) = 0 ↔ _
    have hm : ∀ x y, mn x y = 0 ↔ x = 0 ∨ y = 0 := fun x y => by unfold mn; split <;> omega
    rw [hm]
    constructor
    · rintro (h | h)
      · obtain ⟨i, h1, h2⟩ := ih.mp h
        exact ⟨i, by omega, h2⟩
      · exact ⟨c, by omega, h⟩
    · rintro ⟨i, h1, h2⟩
      by_cases c1 : i = c
      · rw [c1] at h2; exact Or.inr h2
      · exact Or.inl (ih.mpr ⟨i, by omega, h2⟩)
/-- counts above 0 are where edits are 0 -/
def pzH (c1 c2 : CV) (x y : Nat) : Prop := ∀ b x' y', b < 16 → x ≤ x' → x' ≤ y' → y' ≤ y → (0 < c1 b x' y' ↔ c2 b x' y' = 0)
section PZ
variable {g : GT} {w : Nat → Nat} {c1 c2 : CV} {x y : Nat}
theorem eT_0 {s x y : Nat} (h : x ≤ y) : eTm w s x y = 0 ↔ y = x + 1 ∧ w x = s := by
  unfold eTm
  by_cases c : x = y
  · rw [if_pos c]; omega
  · rw [if_neg c]
    by_cases c1 : y = x + 1
    · have e1 : y - x = 0 + 1 := by omega
      rw [e1, htm_s]
      show (if (htm w s x 0 || decide (w (x + 0) = s)) = true then 0 + 1 - 1 else 0 + 1) = 0 ↔ _
      by_cases c2 : w x = s
      · rw [if_pos (by simp [htm, c2])]; exact ⟨fun _ => ⟨c1, c2⟩, fun _ => rfl⟩
      · rw [if_neg (by simp [htm, c2])]; exact ⟨fun z => absurd z (by omega), fun z => absurd z.2 c2⟩
    · split <;> omega
theorem gsv_pz (H : pzH c1 c2 x y) {s x' y' : Nat} (hs : s < 8 ∨ (16 ≤ s ∧ s < 32)) (h1 : x ≤ x') (h2 : x' ≤ y') (h3 : y' ≤ y) : 0 < gsv (opC g w) c1 s x' y' ↔ gsv (opR g w) c2 s x' y' = 0 := by
  unfold gsv
  by_cases c : s < 16
  · rw [if_pos c, if_pos c]
    show 0 < (if y' = x' + 1 ∧ w x' = s then 1 else 0) ↔ eTm w s x' y' = 0
    rw [eT_0 h2]
    by_cases c2 : y' = x' + 1 ∧ w x' = s
    · rw [if_pos c2]; exact ⟨fun _ => c2, fun _ => by omega⟩
    · rw [if_neg c2]; exact ⟨fun z => absurd z (by omega), fun z => absurd z c2⟩
  · rw [if_neg c, if_neg c]
    exact H _ _ _ (by omega) h1 h2 h3
theorem gD_pz (hg : GR g) (H : pzH c1 c2 x y) {p : Nat} : ∀ (k y' : Nat), k ≤ Gl g p → x ≤ y' → y' ≤ y → (0 < gD (opC g w) g c1 p k x y' ↔ gD (opR g w) g c2 p k x y' = 0)
  | 0, y', _, h1, h2 => by
    show 0 < (if x = y' then 1 else 0) ↔ y' - x = 0
    split <;> omega
  | k + 1, y', hk, h1, h2 => by
    rw [gD_s, gD_s, gfo_pos, gfo_zero]
    have hm : ∀ a, 0 < m100 a ↔ 0 < a := fun x => by unfold m100; split <;> omega
    have hO : ∀ a b, 0 < oO (opC g w) a b ↔ 0 < a ∧ 0 < b := fun a b => by
      show 0 < m100 (a * b) ↔ _
      rw [hm]
      exact ⟨fun h => ⟨Nat.pos_of_mul_pos_right h, Nat.pos_of_mul_pos_left h⟩, fun h => Nat.mul_pos h.1 h.2⟩
    have hO' : ∀ a b, oO (opR g w) a b = 0 ↔ a = 0 ∧ b = 0 := fun a b => by
      show (if a = 1000 ∨ b = 1000 then 1000 else mn 99 (a + b)) = 0 ↔ _
      unfold mn
      split
      · omega
      · split <;> omega
    constructor
    · rintro ⟨i, hi, h⟩
      obtain ⟨q1, q2⟩ := (hO _ _).mp h
      exact ⟨i, hi, (hO' _ _).mpr ⟨(gD_pz hg H k _ (by omega) (by omega) (by omega)).mp q1, (gsv_pz H (hg.2.2.2.2.2 p k (by omega)) (by omega) (by omega) h2).mp q2⟩⟩
    · rintro ⟨i, hi, h⟩
      obtain ⟨q1, q2⟩ := (hO' _ _).mp h
      exact ⟨i, hi, (hO _ _).mpr ⟨(gD_pz hg H k _ (by omega) (by omega) (by omega)).mpr q1, (gsv_pz H (hg.2.2.2.2.2 p k (by omega)) (by omega) (by omega) h2).mpr q2⟩⟩
theorem gF_pz (hg : GR g) (H : pzH c1 c2 x y) (hxy : x ≤ y) {a : Nat} : ∀ N, (0 < gF (opC g w) g c1 a x y N ↔ gF (opR g w) g c2 a x y N = 0)
  | 0 => by show 0 < 0 ↔ 1000 = 0; omega
  | p + 1 => by
    have ih := gF_pz hg H hxy (a := a) p
    have hd := gD_pz (w := w) hg H (p := p) (Gl g p) y (Nat.le_refl _) hxy (Nat.le_refl _)
    rw [gF_s, gF_s]
    by_cases c : Go g p = a
    · rw [if_pos c, if_pos c]
      show 0 < m100 (_ + _) ↔ mn _ _ = 0
      have hm : ∀ a, 0 < m100 a ↔ 0 < a := fun x => by unfold m100; split <;> omega
      have hn : ∀ x y, mn x y = 0 ↔ x = 0 ∨ y = 0 := fun x y => by unfold mn; split <;> omega
      rw [hm, hn]
      omega
    · rw [if_neg c, if_neg c]; exact ih
theorem oC_pos {a s : Nat} : 0 < oC (opC g w) a s ↔ 0 < s := by
  show 0 < (if 0 < s ∧ zci g a = true then 100 else s) ↔ _
  split <;> omega
theorem gOp_pz (hg : GR g) (H : pzH c1 c2 x y) (hxy : x ≤ y) {a : Nat} : 0 < gOp (opC g w) g c1 a x y ↔ gOp (opR g w) g c2 a x y = 0 := by
  unfold gOp
  rw [oC_pos]
  exact gF_pz hg H hxy _
end PZ
theorem pzero {g : GT} (hg : GR g) {w : Nat → Nat} {nw : Nat} {v1 v2 : CV} (h1 : FIX (opC g w) g (fun v x y z => KL (PhC g w v x y) z) v1 (fun x y => x ≤ y ∧ y ≤ nw)) (h2 : FIX (opR g w) g (fun v x y z => KG (PhE g w v x y) z) v2 (fun x y => x ≤ y ∧ y ≤ nw)) :
    ∀ (W x y : Nat), y - x < W → x ≤ y → y ≤ nw → ∀ a, a < 16 → (0 < v1 a x y ↔ v2 a x y = 0)
  | 0, x, y, h, _, _, _, _ => absurd h (by omega)
  | W + 1, x, y, hW, hxy, hy, a, ha => by
    have ih := pzero hg h1 h2 W
    have HH : ∀ (t u : Nat → Nat), (∀ b, b < 16 → (0 < t b ↔ u b = 0)) → pzH (vs v1 x y t) (vs v2 x y u) x y := by
      intro t u q b x' y' hb a1 a2 a3
      by_cases c : x' = x ∧ y' = y
      · rw [c.1, c.2, vs_eq, vs_eq]; exact q b hb
      · rw [vs_ne c, vs_ne c]
        exact ih x' y' (by omega) a2 (by omega) b hb
    obtain ⟨f1, k1⟩ := h1 x y ⟨hxy, hy⟩
    obtain ⟨f2, k2⟩ := h2 x y ⟨hxy, hy⟩
    constructor
    · intro hp
      -- the counts are below what is 100 where edits are 0
      have := k1.2.2 (fun b => if v2 b x y = 0 then 100 else 0) (fun b hb => ?_) a ha
      · have this : v1 a x y ≤ if v2 a x y = 0 then 100 else 0 := this
        refine Classical.byContradiction fun c => ?_
        rw [if_neg c] at this
        omega
      · show PhC g w v1 x y (fun b => if v2 b x y = 0 then 100 else 0) b ≤ if v2 b x y = 0 then 100 else 0
        by_cases c : v2 b x y = 0
        · rw [if_pos c]; exact PhC_100 b
        · rw [if_neg c]
          have hh := HH (fun b => if v2 b x y = 0 then 100 else 0) (fun b => v2 b x y) (fun b _ => by
            show 0 < (if v2 b x y = 0 then 100 else 0) ↔ v2 b x y = 0
            split <;> omega)
          have hg2 := gOp_pz (w := w) hg hh hxy (a := b)
          rw [vs_self] at hg2
          rw [← f2 b hb] at hg2
          refine Nat.le_of_not_lt fun z => c (hg2.mp z)
    · intro hz
      have := k2.2 (fun b => if 0 < v1 b x y then 0 else 1) (fun b => by show (if 0 < v1 b x y then 0 else 1) ≤ 1000; split <;> omega) (fun b hb => ?_) a ha
      · have this : (if 0 < v1 a x y then 0 else 1) ≤ v2 a x y := this
        refine Classical.byContradiction fun c => ?_
        rw [if_neg c] at this
        omega
      · show (if 0 < v1 b x y then 0 else 1) ≤ PhE g w v2 x y (fun b => if 0 < v1 b x y then 0 else 1) b
        by_cases c : 0 < v1 b x y
        · rw [if_pos c]; exact Nat.zero_le _
        · rw [if_neg c]
          have hh := HH (fun b => v1 b x y) (fun b => if 0 < v1 b x y then 0 else 1) (fun b _ => by
            show 0 < v1 b x y ↔ (if 0 < v1 b x y then 0 else 1) = 0
            split <;> omega)
          have hg2 := gOp_pz (w := w) hg hh hxy (a := b)
          rw [vs_self] at hg2
          rw [← f1 b hb] at hg2
          refine Nat.pos_of_ne_zero fun z => c (hg2.mpr z)
/-- what has a reading is productive -/
theorem gsv_any {g : GT} {w : Nat → Nat} {c : CV} {p : Nat} : ∀ (k : Nat) {x y : Nat}, x ≤ y → 0 < gD (opC g w) g c p k x y → ∀ j, j < k → 16 ≤ Gs g p j → ∃ x' y', x ≤ x' ∧ x' ≤ y' ∧ y' ≤ y ∧ 0 < c (Gs g p j - 16) x' y'
  | 0, x, y, _, _, j, hj, _ => absurd hj (by omega)
  | k + 1, x, y, hxy, h, j, hj, hs => by
    rw [gD_s, gfo_pos] at h
    obtain ⟨i, hi, h⟩ := h
    have hm : ∀ a, 0 < m100 a ↔ 0 < a := fun x => by unfold m100; split <;> omega
    have h : 0 < m100 (gD (opC g w) g c p k x (x + i) * gsv (opC g w) c (Gs g p k) (x + i) y) := h
    rw [hm] at h
    have q1 := Nat.pos_of_mul_pos_right h
    have q2 := Nat.pos_of_mul_pos_left h
    by_cases c1 : j = k
    · rw [c1] at hs ⊢
      unfold gsv at q2
      rw [if_neg (by omega)] at q2
      exact ⟨x + i, y, by omega, by omega, Nat.le_refl _, q2⟩
    · obtain ⟨x', y', a1, a2, a3, a4⟩ := gsv_any k (by omega) q1 j (by omega) hs
      exact ⟨x', y', a1, a2, by omega, a4⟩
theorem gF_any {g : GT} {w : Nat → Nat} {c : CV} {a x y : Nat} : ∀ N, 0 < gF (opC g w) g c a x y N → ∃ p, p < N ∧ Go g p = a ∧ 0 < gD (opC g w) g c p (Gl g p) x y
  | 0, h => absurd h (by show ¬ 0 < 0; omega)
  | p + 1, h => by
    rw [gF_s] at h
    by_cases c1 : Go g p = a
    · rw [if_pos c1] at h
      have h : 0 < m100 (gF (opC g w) g c a x y p + gD (opC g w) g c p (Gl g p) x y) := h
      by_cases c2 : 0 < gD (opC g w) g c p (Gl g p) x y
      · exact ⟨p, by omega, c1, c2⟩
      · have : 0 < gF (opC g w) g c a x y p := by
          unfold m100 at h
          split at h <;> omega
        obtain ⟨q, h1, h2⟩ := gF_any p this
        exact ⟨q, by omega, h2⟩
    · rw [if_neg c1] at h
      obtain ⟨q, h1, h2⟩ := gF_any p h
      exact ⟨q, by omega, h2⟩
theorem read_prod {g : GT} (hg : GR g) {w : Nat → Nat} {nw : Nat} {v1 : CV} (h1 : FIX (opC g w) g (fun v x y z => KL (PhC g w v x y) z) v1 (fun x y => x ≤ y ∧ y ≤ nw)) {d : Nat → Nat} (hd : grD 99 g d) :
    ∀ (W x y : Nat), y - x < W → x ≤ y → y ≤ nw → ∀ a, a < 16 → 0 < v1 a x y → d a ≠ 1000
  | 0, x, y, h, _, _, _, _ => absurd h (by omega)
  | W + 1, x, y, hW, hxy, hy, a, ha => by
    have ih := read_prod hg h1 hd W
    obtain ⟨f1, k1⟩ := h1 x y ⟨hxy, hy⟩
    intro hp hd0
    have := k1.2.2 (fun b => if d b = 1000 then 0 else 100) (fun b hb => ?_) a ha
    · have this : v1 a x y ≤ if d a = 1000 then 0 else 100 := this
      rw [if_pos hd0] at this; omega
    · show PhC g w v1 x y (fun b => if d b = 1000 then 0 else 100) b ≤ if d b = 1000 then 0 else 100
      by_cases c : d b = 1000
      · rw [if_pos c]
        refine Nat.le_of_not_lt fun z => ?_
        have z : 0 < gOp (opC g w) g (vs v1 x y (fun b => if d b = 1000 then 0 else 100)) b x y := z
        unfold gOp at z
        rw [oC_pos] at z
        obtain ⟨p, hp1, ho, hD⟩ := gF_any _ z
        have hall : ∀ j, j < Gl g p → dS d (Gs g p j) ≤ 99 := by
          intro j hj
          unfold dS
          split
          · omega
          · next hs =>
            rcases hg.2.2.2.2.2 p j hj with q | q
            · omega
            · obtain ⟨x', y', a1, a2, a3, a4⟩ := gsv_any _ hxy hD j hj q.1
              have h9 : d (Gs g p j - 16) ≠ 1000 := by
                by_cases c2 : x' = x ∧ y' = y
                · rw [c2.1, c2.2, vs_eq] at a4
                  intro z9
                  rw [if_pos z9] at a4
                  omega
                · rw [vs_ne c2] at a4
                  exact ih x' y' (by omega) a2 (by omega) _ (by omega) a4
              rcases hd.1 (Gs g p j - 16) (by omega) with q9 | q9
              · exact q9
              · exact absurd q9 h9
        have hsum : ∀ m k, k + m ≤ Gl g p → sm g d p k m ≤ 99 * m := by
          intro m
          induction m with
          | zero => intro k _; show 0 ≤ _; omega
          | succ m ih2 =>
            intro k hk
            show dS d (Gs g p k) + sm g d p (k + 1) m ≤ _
            have e1 := hall k (by omega)
            have e2 := ih2 (k + 1) (by omega)
            omega
        have h5 := hg.2.2.2.1 p
        have h6 := hsum (Gl g p) 0 (by omega)
        have h7 := hd.2.1 p hp1
        rw [ho, c] at h7
        unfold tc at h7
        rw [if_neg (by omega)] at h7
        split at h7 <;> omega
      · rw [if_neg c]; exact PhC_100 b
