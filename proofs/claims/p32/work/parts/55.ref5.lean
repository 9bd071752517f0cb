/-! ===== the reference: shortest sentences ===== -/
/-- sums of what is cut at 21 -/
theorem sm_c21 {g : GT} (hg : GR g) {c r : Nat → Nat} (hr : vald 100 r) (hc : ∀ a, a < 16 → c a = if r a = 1000 then 1000 else if r a ≤ 21 then r a else 21) {p : Nat} : ∀ (m k : Nat), k + m ≤ Gl g p → (sm g c p k m = sm g r p k m) ∨ (21 ≤ sm g c p k m ∧ 21 ≤ sm g r p k m ∧ (1000 ≤ sm g c p k m ↔ 1000 ≤ sm g r p k m))
  | 0, _, _ => Or.inl rfl
  | m + 1, k, hk => by
    have i1 := sm_c21 hg hr hc (p := p) m (k + 1) (by omega)
    have i2 := sm_di hg (by decide) hr (p := p) m (k + 1) (by omega)
    have i3 := hg.2.2.2.2.2 p k (by omega)
    have i5 := hg.2.2.2.1 p
    have i6 : sm g c p (k + 1) m ≤ sm g r p (k + 1) m := sm_mono hg (fun a ha => by
      rw [hc a ha]
      repeat' split
      all_goals omega) m (k + 1) (by omega)
    have i4 : dS c (Gs g p k) = dS r (Gs g p k) ∨ (dS c (Gs g p k) = 21 ∧ 21 ≤ dS r (Gs g p k) ∧ dS r (Gs g p k) ≤ 100) := by
      unfold dS
      split
      · exact Or.inl rfl
      · have h1 := hr (Gs g p k - 16) (by omega)
        have h2 := hc (Gs g p k - 16) (by omega)
        repeat' split at h2
        all_goals omega
    have i7 : dS r (Gs g p k) ≤ 100 ∨ dS r (Gs g p k) = 1000 := by
      unfold dS; split
      · omega
      · exact hr _ (by omega)
    show (dS c (Gs g p k) + sm g c p (k + 1) m = dS r (Gs g p k) + sm g r p (k + 1) m) ∨ (21 ≤ dS c (Gs g p k) + sm g c p (k + 1) m ∧ 21 ≤ dS r (Gs g p k) + sm g r p (k + 1) m ∧ (1000 ≤ dS c (Gs g p k) + sm g c p (k + 1) m ↔ 1000 ≤ dS r (Gs g p k) + sm g r p (k + 1) m))
    have i8 : 100 * m ≤ 400 := by omega
    omega
theorem sm_succ {g : GT} {d : Nat → Nat} {p k m : Nat} : sm g d p k (m + 1) = dS d (Gs g p k) + sm g d p (k + 1) m := rfl
theorem cf_succ {g : GT} {e : Nat → Nat} {p k m acc : Nat} : cf g e p acc k (m + 1) = cf g e p (acc * 8 ^ dS (ln e) (Gs g p k) + tS e (Gs g p k)) (k + 1) m := rfl
