/-! ===== the reference: repair ===== -/
section RMD
variable {u : Nat} {n : Nat} {nw : Nat} {L : Nat → Nat → Int} {g : GT} {w : Nat → Nat}
theorem KQ.step (hg : GR g) {v : CV} (hv : ∀ a x y, v a x y ≤ 100) {x y : Nat} (hxy : x ≤ y) (hy : y ≤ 12) {z : Nat → Nat} (h : KQ g w v x y z) {p : Nat} (hp1 : p < Gn g) : KQ g w v x y (zu z (Go g p) (mn (z (Go g p)) (qE g w (vs v x y z) p x y))) := by
  have hvz : ∀ a x' y', vs v x y z a x' y' ≤ 100 := fun a x' y' => by
    unfold vs; split
    · exact h.1 a
    · exact hv a x' y'
  refine ⟨fun b => ?_, fun t ht hc a ha => ?_⟩
  · unfold zu; split
    · exact Nat.le_trans (mn_le _ _).1 (h.1 _)
    · exact h.1 b
  · have h1 := h.2 t ht hc
    by_cases e : a = Go g p
    · rw [e, zu_eq]
      have h2 := h1 (Go g p) (hg.2.2.1 p)
      have h3 := Nat.le_trans (hc p hp1) (qE_mono (w := w) (p := p) hg hvz hxy hy (vs_le h1))
      unfold mn; split <;> omega
    · rw [zu_ne e]; exact h1 a ha
theorem KQ.top {v : CV} {x y : Nat} : KQ g w v x y (fun _ => 100) := ⟨fun _ => Nat.le_refl _, fun _ ht _ a _ => ht a⟩
theorem qE_congr (hg : GR g) {v v' : CV} {p x y : Nat} (h : vEq v v' x y) : qE g w v p x y = qE g w v' p x y := by
  unfold qE
  split
  · rfl
  · exact gD_congr hg _ _ (Nat.le_refl _) h
theorem KQ_congr (hg : GR g) {v v' : CV} {x y : Nat} {z : Nat → Nat} (hv : ∀ a x' y', a < 16 → x ≤ x' → x' ≤ y' → y' ≤ y → ¬ (x' = x ∧ y' = y) → v a x' y' = v' a x' y') (h : KQ g w v x y z) : KQ g w v' x y z :=
  ⟨h.1, fun t ht hc a ha => h.2 t ht (fun p hp1 => by
    rw [qE_congr hg (v' := vs v' x y t) (fun b x' y' q1 q2 q3 q4 => by
      by_cases c : x' = x ∧ y' = y
      · rw [c.1, c.2, vs_eq, vs_eq]
      · rw [vs_ne c, vs_ne c]; exact hv b x' y' q1 q2 q3 q4 c)]
    exact hc p hp1) a ha⟩
end RMD
