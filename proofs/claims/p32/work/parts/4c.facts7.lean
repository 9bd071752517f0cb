/-! ===== Facts.findSpellings: the shortest sentences ===== -/
/-- what is cut at K is what is cut at K', cut at K -/
theorem grD_cutK {g : GT} (hg : GR g) {K K' : Nat} (hK0 : 1 ≤ K) (hK1 : K < K') (hK2 : K' ≤ 100) {c r : Nat → Nat} (hc : grD K g c) (hr : grD K' g r) (a : Nat) (ha : a < 16) : c a = if r a = 1000 then 1000 else if r a ≤ K then r a else K := by
  have h1 : c a ≤ r a := by
    refine hr.2.2 c (fun a ha => by have := hc.1 a ha; omega) (fun p hp => ?_) a ha
    refine Nat.le_trans (hc.2.1 p hp) ?_
    unfold tc; repeat' split
    all_goals omega
  have h2 : (if r a = 1000 then 1000 else if r a ≤ K then r a else K) ≤ c a := by
    refine hc.2.2 (fun a => if r a = 1000 then 1000 else if r a ≤ K then r a else K) (fun a ha => ?_) (fun p hp => ?_) a ha
    · show (if r a = 1000 then 1000 else if r a ≤ K then r a else K) ≤ K ∨ (if r a = 1000 then 1000 else if r a ≤ K then r a else K) = 1000
      repeat' split
      all_goals omega
    · have h3 := hr.2.1 p hp
      have key : ∀ (m k : Nat), k + m ≤ Gl g p → (sm g (fun a => if r a = 1000 then 1000 else if r a ≤ K then r a else K) p k m = sm g r p k m) ∨ (K ≤ sm g (fun a => if r a = 1000 then 1000 else if r a ≤ K then r a else K) p k m ∧ K ≤ sm g r p k m ∧ (1000 ≤ sm g (fun a => if r a = 1000 then 1000 else if r a ≤ K then r a else K) p k m ↔ 1000 ≤ sm g r p k m)) := by
        intro m
        induction m with
        | zero => intro k _; exact Or.inl rfl
        | succ m ih =>
          intro k hk
          have i1 := ih (k + 1) (by omega)
          have i2 := sm_di hg (by omega) hr.1 (p := p) m (k + 1) (by omega)
          have i3 := hg.2.2.2.2.2 p k (by omega)
          have i5 := hg.2.2.2.1 p
          have i6 : sm g (fun a => if r a = 1000 then 1000 else if r a ≤ K then r a else K) p (k + 1) m ≤ sm g r p (k + 1) m := sm_mono hg (fun a _ => by
            show (if r a = 1000 then 1000 else if r a ≤ K then r a else K) ≤ r a
            repeat' split
            all_goals omega) m (k + 1) (by omega)
          have i4 : dS (fun a => if r a = 1000 then 1000 else if r a ≤ K then r a else K) (Gs g p k) = dS r (Gs g p k) ∨ (dS (fun a => if r a = 1000 then 1000 else if r a ≤ K then r a else K) (Gs g p k) = K ∧ K ≤ dS r (Gs g p k) ∧ dS r (Gs g p k) ≤ K') := by
            unfold dS
            split
            · exact Or.inl rfl
            · have := hr.1 (Gs g p k - 16) (by omega)
              show (if r (Gs g p k - 16) = 1000 then 1000 else if r (Gs g p k - 16) ≤ K then r (Gs g p k - 16) else K) = r (Gs g p k - 16) ∨ ((if r (Gs g p k - 16) = 1000 then 1000 else if r (Gs g p k - 16) ≤ K then r (Gs g p k - 16) else K) = K ∧ K ≤ r (Gs g p k - 16) ∧ r (Gs g p k - 16) ≤ K')
              repeat' split
              all_goals omega
          have i7 : dS r (Gs g p k) ≤ K' ∨ dS r (Gs g p k) = 1000 := by
            unfold dS; split
            · omega
            · exact hr.1 _ (by omega)
          show (dS _ (Gs g p k) + sm g _ p (k + 1) m = dS r (Gs g p k) + sm g r p (k + 1) m) ∨ (K ≤ dS _ (Gs g p k) + sm g _ p (k + 1) m ∧ K ≤ dS r (Gs g p k) + sm g r p (k + 1) m ∧ (1000 ≤ dS _ (Gs g p k) + sm g _ p (k + 1) m ↔ 1000 ≤ dS r (Gs g p k) + sm g r p (k + 1) m))
          have i8 : K' * m ≤ 400 := Nat.le_trans (Nat.mul_le_mul hK2 (show m ≤ 4 by omega)) (by decide)
          omega
      have k0 := key (Gl g p) 0 (by omega)
      show (if r (Go g p) = 1000 then 1000 else if r (Go g p) ≤ K then r (Go g p) else K) ≤ _
      unfold tc at h3 ⊢
      rcases k0 with k0 | ⟨k1, k3, k2⟩
      · rw [k0]
        repeat' split at h3
        all_goals (repeat' split)
        all_goals omega
      · repeat' split at h3
        all_goals (repeat' split)
        all_goals omega
  have h3 := hr.1 a ha
  have h4 := hc.1 a ha
  by_cases e1 : r a = 1000
  · rw [if_pos e1] at h2 ⊢; omega
  · rw [if_neg e1] at h2 ⊢
    by_cases e2 : r a ≤ K
    · rw [if_pos e2] at h2 ⊢; omega
    · rw [if_neg e2] at h2 ⊢; omega
/-- the next larger one -/
def scc (x : Nat) : Nat := if x % 1152921504606846976 + 1 < 8 ^ (x / 1152921504606846976) then x + 1 else (x / 1152921504606846976 + 1) * 1152921504606846976
theorem scc_gt (x : Nat) : x < scc x := by
  unfold scc; split <;> omega
theorem scc_ok {x : Nat} (h : okc x) (h20 : x / 1152921504606846976 ≤ 20) : okc (scc x) := by
  unfold scc
  split
  · next q =>
    have h8 := p8_le h20
    have e1 : (x + 1) / 1152921504606846976 = x / 1152921504606846976 := by omega
    have e2 : (x + 1) % 1152921504606846976 = x % 1152921504606846976 + 1 := by omega
    exact Or.inl ⟨by rw [e1]; exact h20, by rw [e1, e2]; exact q⟩
  · by_cases q : x / 1152921504606846976 = 20
    · exact Or.inr (Or.inl (by rw [q]))
    · have e1 : (x / 1152921504606846976 + 1) * 1152921504606846976 / 1152921504606846976 = x / 1152921504606846976 + 1 := by omega
      have e2 : (x / 1152921504606846976 + 1) * 1152921504606846976 % 1152921504606846976 = 0 := by omega
      exact Or.inl ⟨by rw [e1]; omega, by rw [e1, e2]; exact Nat.pow_pos (by decide)⟩
theorem scc_le {x y : Nat} (hx : x / 1152921504606846976 ≤ 20) (hy : okc y) (h : x < y) : scc x ≤ y := by
  unfold scc
  split
  · omega
  · next q =>
    rcases hy with z | z | z
    · by_cases e : y / 1152921504606846976 = x / 1152921504606846976
      · rw [e] at z; omega
      · omega
    · omega
    · omega
/-- of what isn't the greatest solution yet something comes in one turn more -/
theorem turn {g : GT} (hg : GR g) {v e : Nat → Nat} (hv : grJ g v) (h20 : ∀ a, a < 16 → e a ≠ v a → ln v a ≤ 20) (hex : ∃ a, a < 16 ∧ e a ≠ v a) :
    ∃ p, p < Gn g ∧ e (Go g p) ≠ v (Go g p) ∧ cJ g v p = v (Go g p) ∧ sm g (ln v) p 0 (Gl g p) ≤ 20 ∧ ∀ k, k < Gl g p → 16 ≤ Gs g p k → e (Gs g p k - 16) = v (Gs g p k - 16) := by
  apply Classical.byContradiction
  intro hno
  have hv' : vJ (fun a => if e a = v a then v a else scc (v a)) := fun a ha => by
    show okc (if e a = v a then v a else scc (v a))
    split
    · exact hv.1 a ha
    · next q => exact scc_ok (hv.1 a ha) (h20 a ha q)
  have hle : ∀ a, a < 16 → v a ≤ (fun a => if e a = v a then v a else scc (v a)) a := fun a ha => by
    show v a ≤ (if e a = v a then v a else scc (v a))
    split
    · exact Nat.le_refl _
    · exact Nat.le_of_lt (scc_gt _)
  have hcl : clJ g (fun a => if e a = v a then v a else scc (v a)) := fun p hp => by
    have h1 := hv.2.1 p hp
    have h2 := cJ_mono hg hv.1 hv' hle p
    have ho := hg.2.2.1 p
    show (if e (Go g p) = v (Go g p) then v (Go g p) else scc (v (Go g p))) ≤ _
    split
    · exact Nat.le_trans h1 h2
    · next q =>
      have h3 := h20 _ ho q
      by_cases q2 : v (Go g p) < cJ g v p
      · exact Nat.le_trans (scc_le h3 (cJ_ok hg hv.1 p) q2) h2
      · have q3 : cJ g v p = v (Go g p) := Nat.le_antisymm (by omega) h1
        have q4 : sm g (ln v) p 0 (Gl g p) ≤ 20 := by
          have h4 := cJ_ln hg hv.1 p
          rw [q3] at h4
          unfold ln at h3
          rw [h4] at h3
          unfold tc at h3
          repeat' split at h3
          all_goals omega
        have q5 : ∃ k, k < Gl g p ∧ 16 ≤ Gs g p k ∧ e (Gs g p k - 16) ≠ v (Gs g p k - 16) := by
          apply Classical.byContradiction
          intro hn2
          refine hno ⟨p, hp, q, q3, q4, fun k hk hs => ?_⟩
          apply Classical.byContradiction
          intro hn3
          exact hn2 ⟨k, hk, hs, hn3⟩
        obtain ⟨k, k1, k2, k3⟩ := q5
        have h5 := cJ_strict hg hv.1 hv' hle k1 k2 (by
          show v (Gs g p k - 16) < (if e (Gs g p k - 16) = v (Gs g p k - 16) then _ else _)
          rw [if_neg k3]; exact scc_gt _) q4
        exact scc_le h3 (cJ_ok hg hv' p) (by omega)
  obtain ⟨a, ha, q⟩ := hex
  have h6 := hv.2.2 _ hv' hcl a ha
  have h6' : (if e a = v a then v a else scc (v a)) ≤ v a := h6
  rw [if_neg q] at h6'
  have := scc_gt (v a)
  omega
