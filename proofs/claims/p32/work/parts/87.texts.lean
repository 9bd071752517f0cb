/-! ===== faults of texts and of what is ahead of them; what a rule leaves ===== -/
theorem tf_ge {t : Nat → Int} {n : Nat} : ∀ (m k : Nat) (s d : Int), k + m ≤ n → 0 ≤ tf t n m k s d → (k : Int) ≤ tf t n m k s d
  | 0, k, s, d, h, h0 => by
    have e : tf t n 0 k s d = if d = 0 ∧ (s = 2 ∨ s = 3) then -1 else (n : Int) := rfl
    rw [e] at h0 ⊢
    split at h0
    · omega
    · next c => rw [if_neg c]; omega
  | m + 1, k, s, d, h, h0 => by
    have e : tf t n (m + 1) k s d = match ts s d (t k) with | none => (k : Int) | some q => tf t n m (k + 1) q.1 q.2 := rfl
    rw [e] at h0 ⊢
    cases c : ts s d (t k) with
    | none => exact Int.le_refl _
    | some q =>
      rw [c] at h0
      have := tf_ge m (k + 1) q.1 q.2 (by omega) h0
      show (k : Int) ≤ tf t n m (k + 1) q.1 q.2
      omega
/-- up to its fault a text has none but that it is too short; with one letter more it has that one -/
theorem tf_cut {t : Nat → Int} {n : Nat} : ∀ (m k : Nat) (s d : Int) (F : Nat), k + m = n → tf t n m k s d = (F : Int) → F < n → k ≤ F ∧ (tf t F (F - k) k s d = -1 ∨ tf t F (F - k) k s d = (F : Int)) ∧ ∀ n', tf t n' (F + 1 - k) k s d = (F : Int)
  | 0, k, s, d, F, h, e, hF => by
    have e1 : tf t n 0 k s d = if d = 0 ∧ (s = 2 ∨ s = 3) then -1 else (n : Int) := rfl
    rw [e1] at e
    split at e <;> omega
  | m + 1, k, s, d, F, h, e, hF => by
    have hstep : ∀ n' m', tf t n' (m' + 1) k s d = match ts s d (t k) with | none => (k : Int) | some q => tf t n' m' (k + 1) q.1 q.2 := fun _ _ => rfl
    rw [hstep] at e
    cases c : ts s d (t k) with
    | none =>
      rw [c] at e
      have e : (k : Int) = F := e
      have hk : F = k := by omega
      refine ⟨by omega, ?_, fun n' => ?_⟩
      · rw [hk, Nat.sub_self]
        have e1 : tf t k 0 k s d = if d = 0 ∧ (s = 2 ∨ s = 3) then -1 else (k : Int) := rfl
        rw [e1]
        split
        · exact Or.inl rfl
        · exact Or.inr rfl
      · rw [show F + 1 - k = 0 + 1 by omega, hstep, c]
        exact e
    | some q =>
      rw [c] at e
      have e : tf t n m (k + 1) q.1 q.2 = (F : Int) := e
      have h1 := tf_ge (t := t) (n := n) m (k + 1) q.1 q.2 (by omega) (by rw [e]; omega)
      obtain ⟨i1, i2, i3⟩ := tf_cut m (k + 1) q.1 q.2 F (by omega) e hF
      refine ⟨by omega, ?_, fun n' => ?_⟩
      · rw [show F - k = (F - (k + 1)) + 1 by omega, hstep, c]
        exact i2
      · rw [show F + 1 - k = (F + 1 - (k + 1)) + 1 by omega, hstep, c]
        exact i3 n'
theorem tf_fault {t : Nat → Int} {n F : Nat} (h : tf t n n 0 0 0 = (F : Int)) : F ≤ n ∧ (tf t F F 0 0 0 = -1 ∨ tf t F F 0 0 0 = (F : Int)) ∧ (F ≠ n → tf t (F + 1) (F + 1) 0 0 0 = (F : Int)) := by
  have hr := (tf_rg (t := t) (n := n) n 0 0 0 (by omega)).2
  have hle : F ≤ n := by omega
  by_cases c : F = n
  · exact ⟨hle, Or.inr (by rw [c] at h ⊢; exact h), fun z => absurd c z⟩
  · obtain ⟨-, h2, h3⟩ := tf_cut n 0 0 0 F (by omega) h (by omega)
    exact ⟨hle, h2, fun _ => h3 (F + 1)⟩
theorem aa_last {o : Nat} {r : Nat → Int} : ∀ (m : Nat) (ps : List (Nat × List Nat)) (a k : Nat) {q : List (Nat × List Nat)}, aa o r m ps a k = some q → ∃ q0 l, q = q0 ++ [(o, l)]
  | 0, ps, a, k, q, h => by
    have h : ad ps o r a k = some q := h
    unfold ad at h
    split at h
    · cases h; exact ⟨ps, ch r a k, rfl⟩
    · cases h
  | m + 1, ps, a, k, q, h => by
    have e : aa o r (m + 1) ps a k = if r k = -1 then (match ad ps o r a k with | none => none | some ps' => aa o r m ps' (k + 1) (k + 1)) else aa o r m ps a (k + 1) := rfl
    rw [e] at h
    split at h
    · cases c : ad ps o r a k with
      | none => rw [c] at h; cases h
      | some ps' => rw [c] at h; exact aa_last m _ _ _ h
    · exact aa_last m _ _ _ h
theorem rd0_last {t : List Int} {ps q : List (Nat × List Nat)} (h : rd0 t ps = some q) : (q.getD (q.length - 1) (0, [])).1 = (tl t 0 - 65).toNat := by
  unfold rd0 rdr at h
  cases c : rdm (tl t) (t.length - 2) 2 false ps (fun _ => 0) 0 with
  | none => rw [c] at h; cases h
  | some x =>
    rw [c] at h
    obtain ⟨q0, l, rfl⟩ := aa_last _ _ _ _ h
    rw [List.length_append, List.length_singleton, Nat.add_sub_cancel, gD_m]
/-- productions come with rules -/
def A0 (ps : List (Nat × List Nat)) (rs : List (Nat × List Int)) : Prop := (rs = [] → ps = []) ∧ (rs ≠ [] → (rs.getD 0 (0, [])).1 = 0)
theorem A0.add {ps ps' : List (Nat × List Nat)} {rs : List (Nat × List Int)} {t : List Int} (h : A0 ps rs) : A0 ps' (rs ++ [(ps.length, t)]) := by
  refine ⟨fun z => absurd z (by simp), fun _ => ?_⟩
  cases rs with
  | nil => rw [h.1 rfl]; rfl
  | cons x l => exact h.2 (by simp)
theorem A0.cut {ps : List (Nat × List Nat)} {rs : List (Nat × List Int)} (h : A0 ps rs) (hr : rs ≠ []) : A0 (ps.take (rs.getD (rs.length - 1) (0, [])).1) (rs.take (rs.length - 1)) := by
  have h0 := h.2 hr
  have hl : 0 < rs.length := List.length_pos_iff.mpr hr
  by_cases c : rs.length = 1
  · refine ⟨fun _ => ?_, fun z => ?_⟩
    · rw [c, Nat.sub_self, h0]; rfl
    · exact absurd (by rw [c, Nat.sub_self]; rfl) z
  · refine ⟨fun z => ?_, fun _ => ?_⟩
    · have : (rs.take (rs.length - 1)).length = 0 := by rw [z]; rfl
      rw [List.length_take] at this
      omega
    · rw [gD_t (by omega)]; exact h0
theorem brl_n {sh : Int} : ∀ (l : List (Nat × List Int)) (ps : List (Nat × List Nat)) (rs : List (Nat × List Int)) {q : List (Nat × List Nat) × List (Nat × List Int)}, brl sh l ps rs = some q → A0 ps rs → A0 q.1 q.2 ∧ ps.length + l.length ≤ q.1.length
  | [], ps, rs, q, h, h0 => by
    have h : some (ps, rs) = some q := h
    cases h
    exact ⟨h0, Nat.le_refl _⟩
  | x :: l, ps, rs, q, h, h0 => by
    have e : brl sh (x :: l) ps rs = match rd0 (x.2.map (rn sh)) ps with | none => none | some ps' => brl sh l ps' (rs ++ [(ps.length, x.2.map (rn sh))]) := rfl
    rw [e] at h
    cases c : rd0 (x.2.map (rn sh)) ps with
    | none => rw [c] at h; cases h
    | some ps' =>
      rw [c] at h
      have h : brl sh l ps' (rs ++ [(ps.length, x.2.map (rn sh))]) = some q := h
      have h1 := (rd0_px c).2
      obtain ⟨i1, i2⟩ := brl_n l ps' _ h h0.add
      refine ⟨i1, ?_⟩
      rw [List.length_cons]
      omega
