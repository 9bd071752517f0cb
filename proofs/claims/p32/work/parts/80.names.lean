/-! ===== what is shortest fits what is nullable and first ===== -/
theorem cl1_z (g : GT) : cl1 g (zN g) (zF g) := fun p hp => ⟨fun h N' F' c => (c p hp).1 (emF_mono (fun a q => q N' F' c) h), fun t h N' F' c => (c p hp).2 t (fsF_mono (fun a q => q N' F' c) (fun a t q => q N' F' c) h)⟩
theorem cl2_z (g : GT) : cl2 g (zN g) (zF g) (zB g) := ⟨fun B' c => c.1, fun p hp k hk hs t h B' c => c.2 p hp k hk hs t (h.elim Or.inl (fun q => Or.inr ⟨q.1, q.2 B' c⟩))⟩
theorem sm_zero {g : GT} {d : Nat → Nat} {p : Nat} : ∀ m k, sm g d p k m = 0 ↔ ∀ j, k ≤ j → j < k + m → 16 ≤ Gs g p j ∧ d (Gs g p j - 16) = 0
  | 0, k => ⟨fun _ j h1 h2 => absurd h2 (by omega), fun _ => rfl⟩
  | m + 1, k => by
    have ih := sm_zero (g := g) (d := d) (p := p) m (k + 1)
    show dS d (Gs g p k) + sm g d p (k + 1) m = 0 ↔ _
    have hd : dS d (Gs g p k) = 0 ↔ 16 ≤ Gs g p k ∧ d (Gs g p k - 16) = 0 := by
      unfold dS
      split <;> omega
    constructor
    · intro h j h1 h2
      by_cases c : j = k
      · rw [c]; exact hd.mp (by omega)
      · exact ih.mp (by omega) j (by omega) (by omega)
    · intro h
      have h1 := hd.mpr (h k (Nat.le_refl _) (by omega))
      have h2 := ih.mpr (fun j a b => h j (by omega) (by omega))
      omega
theorem tc_one {K x : Nat} (hK : 1 ≤ K) (hx : 1 ≤ x) : 1 ≤ tc K x := by
  unfold tc
  split
  · omega
  · split <;> omega
/-- of length 0 is what is nullable -/
theorem null_0 {g : GT} {K : Nat} (hK : 1 ≤ K) {d : Nat → Nat} (h : grD K g d) {a : Nat} (ha : a < 16) : d a = 0 ↔ zN g a := by
  constructor
  · intro h0
    refine Classical.byContradiction fun hz => ?_
    have h1 := h.2.2 (fun b => zif (zN g b) 0 1) ?_ ?_ a ha
    · have h1 : zif (zN g a) 0 1 ≤ d a := h1
      rw [zif_n hz] at h1
      omega
    · intro b _
      left
      show zif (zN g b) 0 1 ≤ K
      by_cases c : zN g b
      · rw [zif_p c]; omega
      · rw [zif_n c]; omega
    · intro p hp
      show zif (zN g (Go g p)) 0 1 ≤ _
      by_cases c : zN g (Go g p)
      · rw [zif_p c]; omega
      · rw [zif_n c]
        refine tc_one hK ?_
        refine Nat.pos_of_ne_zero fun z => c ((cl1_z g p hp).1 fun j h1 h2 => ?_)
        have h3 := (sm_zero _ _).mp z j h1 (by omega)
        refine ⟨h3.1, Classical.byContradiction fun c2 => ?_⟩
        have h4 : zif (zN g (Gs g p j - 16)) 0 1 = (0 : Nat) := h3.2
        rw [zif_n c2] at h4
        omega
  · intro hz
    refine hz (fun b => d b = 0) (fun _ _ => True) (fun p hp => ⟨fun he => ?_, fun _ _ => trivial⟩)
    have h1 := h.2.1 p hp
    have h2 : sm g d p 0 (Gl g p) = 0 := (sm_zero _ _).mpr (fun j a b => he j a (by omega))
    rw [h2] at h1
    have : tc K 0 = 0 := by
      unfold tc
      split
      · omega
      · split <;> omega
    omega
theorem sm_at {g : GT} {d : Nat → Nat} {p : Nat} : ∀ m k j, k ≤ j → j < k + m → dS d (Gs g p j) ≤ sm g d p k m
  | 0, k, j, h1, h2 => absurd h2 (by omega)
  | m + 1, k, j, h1, h2 => by
    show _ ≤ dS d (Gs g p k) + sm g d p (k + 1) m
    by_cases c : j = k
    · rw [c]; omega
    · have := sm_at (g := g) (d := d) (p := p) m (k + 1) j (by omega) (by omega)
      omega
/-- the first letter of a text stays the first -/
theorem cf_top {g : GT} {e : Nat → Nat} {p : Nat} : ∀ (m k acc l : Nat), (∀ j, k ≤ j → j < k + m → tS e (Gs g p j) < 8 ^ dS (ln e) (Gs g p j)) → 1 ≤ l → cf g e p acc k m / 8 ^ (l + sm g (ln e) p k m - 1) = acc / 8 ^ (l - 1)
  | 0, k, acc, l, _, _ => rfl
  | m + 1, k, acc, l, hb, hl => by
    have ih := cf_top (g := g) (e := e) (p := p) m (k + 1) (acc * 8 ^ dS (ln e) (Gs g p k) + tS e (Gs g p k)) (l + dS (ln e) (Gs g p k)) (fun j a b => hb j (by omega) (by omega)) (by omega)
    have h0 := hb k (Nat.le_refl _) (by omega)
    show cf g e p (acc * 8 ^ dS (ln e) (Gs g p k) + tS e (Gs g p k)) (k + 1) m / 8 ^ (l + (dS (ln e) (Gs g p k) + sm g (ln e) p (k + 1) m) - 1) = _
    rw [show l + (dS (ln e) (Gs g p k) + sm g (ln e) p (k + 1) m) - 1 = l + dS (ln e) (Gs g p k) + sm g (ln e) p (k + 1) m - 1 by omega, ih]
    rw [show l + dS (ln e) (Gs g p k) - 1 = dS (ln e) (Gs g p k) + (l - 1) by omega, Nat.pow_add, ← Nat.div_div_eq_div_mul, Nat.add_comm (acc * _), Nat.add_mul_div_right _ _ (Nat.pow_pos (by omega)), Nat.div_eq_of_lt h0, Nat.zero_add]
theorem cf_first {g : GT} {e : Nat → Nat} {p : Nat} : ∀ (m k : Nat), (∀ j, k ≤ j → j < k + m → tS e (Gs g p j) < 8 ^ dS (ln e) (Gs g p j)) → 1 ≤ sm g (ln e) p k m → ∃ j, k ≤ j ∧ j < k + m ∧ (∀ i, k ≤ i → i < j → dS (ln e) (Gs g p i) = 0) ∧ 1 ≤ dS (ln e) (Gs g p j) ∧ cf g e p 0 k m / 8 ^ (sm g (ln e) p k m - 1) = tS e (Gs g p j) / 8 ^ (dS (ln e) (Gs g p j) - 1)
  | 0, k, _, h => absurd h (by show ¬ 1 ≤ 0; omega)
  | m + 1, k, hb, h => by
    have h0 := hb k (Nat.le_refl _) (by omega)
    have hb' : ∀ j, k + 1 ≤ j → j < k + 1 + m → tS e (Gs g p j) < 8 ^ dS (ln e) (Gs g p j) := fun j a b => hb j (by omega) (by omega)
    have h : 1 ≤ dS (ln e) (Gs g p k) + sm g (ln e) p (k + 1) m := h
    by_cases c : dS (ln e) (Gs g p k) = 0
    · rw [c] at h h0
      have ht : tS e (Gs g p k) = 0 := by simpa using h0
      obtain ⟨j, a1, a2, a3, a4, a5⟩ := cf_first (g := g) (e := e) (p := p) m (k + 1) hb' (by omega)
      refine ⟨j, by omega, by omega, fun i b1 b2 => ?_, a4, ?_⟩
      · by_cases c2 : i = k
        · rw [c2]; exact c
        · exact a3 i (by omega) b2
      · show cf g e p (0 * 8 ^ dS (ln e) (Gs g p k) + tS e (Gs g p k)) (k + 1) m / 8 ^ (dS (ln e) (Gs g p k) + sm g (ln e) p (k + 1) m - 1) = _
        rw [c, ht, Nat.zero_mul, Nat.zero_add, Nat.zero_add]
        exact a5
    · refine ⟨k, Nat.le_refl _, by omega, fun i b1 b2 => absurd b2 (by omega), by omega, ?_⟩
      show cf g e p (0 * 8 ^ dS (ln e) (Gs g p k) + tS e (Gs g p k)) (k + 1) m / 8 ^ (dS (ln e) (Gs g p k) + sm g (ln e) p (k + 1) m - 1) = _
      rw [Nat.zero_mul, Nat.zero_add]
      exact cf_top m (k + 1) _ _ hb' (by omega)
/-- the first letter of a shortest sentence is a first -/
theorem first_letter {g : GT} (hg : GR g) {v : Nat → Nat} (hv : grJ g v) (hd : ∀ b, b < 16 → ln v b = 0 → zN g b) {a : Nat} (ha : a < 16) (h1 : 1 ≤ ln v a) (h2 : ln v a ≤ 20) : zF g a (tx v a / 8 ^ (ln v a - 1)) := by
  refine Classical.byContradiction fun hno => ?_
  let good : Nat → Prop := fun b => 1 ≤ ln v b → ln v b ≤ 20 → zF g b (tx v b / 8 ^ (ln v b - 1))
  let e : Nat → Nat := fun b => zif (good b) (v b) (v b + 1)
  have he : ∀ b, e b = v b ↔ good b := by
    intro b
    show zif (good b) (v b) (v b + 1) = v b ↔ _
    by_cases c : good b
    · rw [zif_p c]; exact ⟨fun _ => c, fun _ => rfl⟩
    · rw [zif_n c]; exact ⟨fun z => absurd z (by omega), fun z => absurd z c⟩
  have h20 : ∀ b, b < 16 → e b ≠ v b → ln v b ≤ 20 := by
    intro b _ q
    refine Classical.byContradiction fun c => q ((he b).mpr fun _ z => absurd z c)
  obtain ⟨p, hp, hne, hc, hs, hall⟩ := turn hg hv h20 ⟨a, ha, fun z => hno ((he a).mp z h1 h2)⟩
  refine hne ((he _).mpr fun l1 l2 => ?_)
  have hlo : ∀ j, j < Gl g p → dS (ln v) (Gs g p j) ≤ 20 := fun j hj => Nat.le_trans (sm_at _ _ j (Nat.zero_le _) (by omega)) hs
  have hb : ∀ j, 0 ≤ j → j < 0 + Gl g p → tS v (Gs g p j) < 8 ^ dS (ln v) (Gs g p j) := fun j _ hj => tS_lt hg hv.1 (by omega) (hlo j (by omega))
  have hcf : cf g v p 0 0 (Gl g p) < 8 ^ (0 + sm g (ln v) p 0 (Gl g p)) := cf_bd hg hv.1 (Gl g p) 0 0 0 (by omega) (by omega) hs
  have hW : 8 ^ (0 + sm g (ln v) p 0 (Gl g p)) ≤ 1152921504606846976 := p8_le (by omega)
  have ej : cJ g v p = sm g (ln v) p 0 (Gl g p) * 1152921504606846976 + cf g v p 0 0 (Gl g p) := by
    unfold cJ
    rw [if_neg (by omega), if_neg (by omega)]
  have el : ln v (Go g p) = sm g (ln v) p 0 (Gl g p) := by
    unfold ln at *
    rw [← hc, ej]
    omega
  have et : tx v (Go g p) = cf g v p 0 0 (Gl g p) := by
    unfold tx
    rw [← hc, ej]
    omega
  obtain ⟨j, b1, b2, b3, b4, b5⟩ := cf_first (Gl g p) 0 hb (by omega)
  rw [el, et, b5]
  have hj : j < Gl g p := by omega
  have hnul : ∀ i, 0 ≤ i → i < j → nls (zN g) (Gs g p i) := by
    intro i _ hi
    have h0 := b3 i (Nat.zero_le _) hi
    unfold dS at h0
    split at h0
    · omega
    · rcases hg.2.2.2.2.2 p i (by omega) with q | q
      · omega
      · exact ⟨by omega, hd _ (by omega) h0⟩
  refine (cl1_z g p hp).2 _ ⟨j, Nat.zero_le _, hj, hnul, ?_⟩
  rcases hg.2.2.2.2.2 p j hj with q | q
  · left
    refine ⟨by omega, ?_⟩
    unfold tS dS
    rw [if_pos (by omega), if_pos (by omega)]
    simp
  · right
    refine ⟨q.1, ?_⟩
    have hgd := (he _).mp (hall j hj q.1)
    have hds : dS (ln v) (Gs g p j) = ln v (Gs g p j - 16) := if_neg (by omega)
    have hts : tS v (Gs g p j) = tx v (Gs g p j - 16) := if_neg (by omega)
    rw [hts, hds]
    have := hlo j hj
    exact hgd (by omega) (by omega)
