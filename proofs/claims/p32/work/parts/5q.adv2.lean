/-! ===== the class's automaton: a step from a state over a symbol ===== -/
def CB (u v : Nat) (g : GT) (N : Nat → Prop) (F : Nat → Nat → Prop) (b : Bool) (i : Nat) (J : Nat → Nat → Int) : Prop :=
  CE u g N F J ∧ J v 1 = (if b then 1 else 0) ∧ J v 3 = 0 ∧ J v 4 = (Sn (bfi g N F b i) : Int) ∧ Sb (bfi g N F b i) = false ∧
  (∀ t, t < Sn (bfi g N F b i) → VR g (v + 1) (ac t) J ∧ RZ g (v + 1) (150 * t) J ∧ ∀ p k y, (1 ≤ k ∨ p = 24) → (b = true → y = 9) → (SR g (v + 1) (ac t) J p k y ↔ SK (bfi g N F b i) t p k y)) ∧
  (J (v + 3) 0 = -1 ∧ ∀ t, 1 ≤ t → t < Sn (bfi g N F b i) → (0 ≤ J (v + 3) t ∧ J (v + 3) t < 32) ∧ ∀ p k, SK (bfi g N F b i) t p (k + 1) 9 → (Gs (gX g) p k : Int) = J (v + 3) t) ∧
  (∀ t, t < Sn (bfi g N F b i) → J (v + 4) t = 0 ∨ J (v + 4) t = 1) ∧
  ∀ s X, s < Sn (bfi g N F b i) → X < 32 → J (v + 2) (32 * s + X) = if X < 8 ∨ 16 ≤ X then Sm (bfi g N F b i) s (zix X) else -1
def ROK (b : Bool) (R C : AS) : Prop := (b = false → R = C) ∧ (b = true → ∀ p k, R p k 9 ↔ C p k 9)
theorem advR {b : Bool} {g : GT} {R C : AS} (h : ROK b R C) {x p k y : Nat} : adv b g C x p k y ↔ (b = true → y = 9) ∧ adv false g R x p k y := by
  cases b with
  | false => rw [h.1 rfl]; unfold adv; simp
  | true =>
    have h2 := h.2 rfl
    unfold adv
    constructor
    · rintro ⟨h0, k', h1, h3, h4, h5, h6, h7⟩
      have := h0 rfl
      subst this
      exact ⟨h0, fun q => absurd q (by decide), k', h1, h3, h4, h5, (h2 _ _).mpr h6, (h2 _ _).mpr h7⟩
    · rintro ⟨h0, -, k', h1, h3, h4, h5, h6, h7⟩
      have := h0 rfl
      subst this
      exact ⟨h0, k', h1, h3, h4, h5, (h2 _ _).mp h6, (h2 _ _).mp h7⟩
/-- all bits of the rows of states by now, counted -/
def psi (v : Nat) (J : Nat → Nat → Int) (k : Nat) : Nat := cM (fun x => if x < 150 * k then J (v + 1) x else 0) 12000
theorem psi_le {v k : Nat} {J : Nat → Nat → Int} : psi v J k ≤ 384000 := cM_le _ 12000
theorem psi_mono {v k k' : Nat} {J J' : Nat → Nat → Int} (hk : k ≤ k') (h : ∀ x, x < 150 * k → ∀ y, bt (J (v + 1) x) y = true → bt (J' (v + 1) x) y = true) : psi v J k ≤ psi v J' k' := by
  refine cB_mono _ (fun i _ hb => ?_)
  dsimp only at hb ⊢
  split at hb
  · next c => rw [if_pos (by omega)]; exact h _ c _ hb
  · rw [bt_zero] at hb; exact absurd hb (by decide)
theorem psi_lt {v k k' : Nat} {J J' : Nat → Nat → Int} (hk : k ≤ k') (hk80 : k' ≤ 80) (h : ∀ x, x < 150 * k → ∀ y, bt (J (v + 1) x) y = true → bt (J' (v + 1) x) y = true) (q : ∃ x, x < 150 * k' ∧ ∃ y, y < 32 ∧ bt (J' (v + 1) x) y = true ∧ (x < 150 * k → bt (J (v + 1) x) y = false)) : psi v J k < psi v J' k' := by
  obtain ⟨x, h1, y, h2, h3, h4⟩ := q
  refine cM_lt (fun i _ y' _ hb => ?_) ⟨x, by omega, y, h2, ?_, ?_⟩
  · split at hb
    · next c => rw [if_pos (by omega)]; exact h _ c _ hb
    · rw [bt_zero] at hb; exact absurd hb (by decide)
  · rw [if_pos h1]; exact h3
  · split
    · next c => exact h4 c
    · exact bt_zero y
section CF_
variable {u : Nat} {n : Nat} {L : Nat → Nat → Int} {g : GT} {N : Nat → Prop} {F : Nat → Nat → Prop} {b : Bool}
theorem CB.ok {v i : Nat} {J : Nat → Nat → Int} (h : CB u v g N F b i J) {t : Nat} (ht : t < Sn (bfi g N F b i)) : ∀ x, x < 150 → gi_ok (J (v + 1) (150 * t + x)) := fun x hx => by
  obtain ⟨h1, h2, -⟩ := h.2.2.2.2.2.1 t ht
  by_cases hv : vI g (x / 6) (x % 6)
  · have := (h1 _ _ hv).1; rwa [ac_x] at this
  · rw [h2 x hx hv]; decide
theorem BQ_iff {v t : Nat} {J : Nat → Nat → Int} (hm : J v 1 = (if b then 1 else 0)) (hg : GR g) (h1 : VR g (v + 1) (ac t) J) (z1 : RZ g (v + 1) (150 * t) J) (h2 : VR g (v + 5) af J) (z2 : RZ g (v + 5) 0 J) : BQ v J t ↔ ∀ p k y, 1 ≤ k → (b = true → y = 9) → (SR g (v + 1) (ac t) J p k y ↔ SR g (v + 5) af J p k y) := by
  have xk : ∀ {p k}, vI g p k → 6 * p + k < 150 ∧ (6 * p + k) / 6 = p ∧ (6 * p + k) % 6 = k := fun {p k} h => by have := vI_6 hg h; omega
  constructor
  · intro hb p k y hk hy
    unfold SR
    by_cases hv : vI g p k
    · obtain ⟨x1, x2, x3⟩ := xk hv
      have h3 := hb (6 * p + k) x1 (by omega)
      cases b with
      | false =>
        have h4 := h3.1 hm
        have h5 : J (v + 1) (ac t p k) = J (v + 5) (af p k) := h4
        rw [h5]
      | true =>
        have h4 := h3.2 (by rw [hm]; decide)
        rw [hy rfl]
        have q1 := VR_0 h1 hv
        have q2 := VR_0 h2 hv
        have h4' : J (v + 1) (ac t p k) = 0 ↔ J (v + 5) (af p k) = 0 := h4
        exact ⟨fun z => ⟨hv, q2.mp (fun w => q1.mpr z.2 (h4'.mpr w))⟩, fun z => ⟨hv, q1.mp (fun w => q2.mpr z.2 (h4'.mp w))⟩⟩
    · exact ⟨fun z => absurd z.1 hv, fun z => absurd z.1 hv⟩
  · intro h x hx h6
    have e2 : J (v + 5) (af (x / 6) (x % 6)) = J (v + 5) x := by rw [af_x]
    by_cases hv : vI g (x / 6) (x % 6)
    · have hk := h (x / 6) (x % 6)
      have g1 := h1 _ _ hv
      have g2 := h2 _ _ hv
      have q1 := VR_0 h1 hv
      have q2 := VR_0 h2 hv
      rw [ac_x] at g1 q1
      rw [e2] at g2 q2
      cases b with
      | false =>
        refine ⟨fun _ => bt_ext g1.1 g2.1 (fun y _ => ?_), fun z => absurd hm z⟩
        have h7 := hk y (by omega) (fun z => absurd z (by decide))
        unfold SR at h7
        rw [ac_x, e2] at h7
        cases c : bt (J (v + 1) (150 * t + x)) y with
        | true => exact (h7.mp ⟨hv, c⟩).2.symm
        | false =>
          cases c2 : bt (J (v + 5) x) y with
          | true => have := (h7.mpr ⟨hv, c2⟩).2; rw [c] at this; exact absurd this (by decide)
          | false => rfl
      | true =>
        refine ⟨fun z => absurd (z.symm.trans hm) (by decide), fun _ => ?_⟩
        have h7 := hk 9 (by omega) (fun _ => rfl)
        unfold SR at h7
        rw [ac_x, e2] at h7
        constructor
        · intro z
          apply Classical.byContradiction
          intro w
          exact q1.mpr (h7.mpr ⟨hv, q2.mp w⟩).2 z
        · intro z
          apply Classical.byContradiction
          intro w
          exact q2.mpr (h7.mp ⟨hv, q1.mp w⟩).2 z
    · have r1 := z1 x hx hv
      have r2 := z2 x hx hv
      rw [Nat.zero_add] at r2
      rw [r1, r2]
      exact ⟨fun _ => rfl, fun _ => Iff.rfl⟩
end CF_
