/-! ===== shortest sentences: a length and a text as one number; greatest solutions ===== -/
def gW : Nat := 1152921504606846976
def ln (e : Nat → Nat) (a : Nat) : Nat := e a / 1152921504606846976
def tx (e : Nat → Nat) (a : Nat) : Nat := e a % 1152921504606846976
def tS (e : Nat → Nat) (s : Nat) : Nat := if s < 16 then s else tx e (s - 16)
/-- the text of m symbols from a place on, behind acc -/
def cf (g : GT) (e : Nat → Nat) (p : Nat) : Nat → Nat → Nat → Nat
  | acc, _, 0 => acc
  | acc, k, m + 1 => cf g e p (acc * 8 ^ dS (ln e) (Gs g p k) + tS e (Gs g p k)) (k + 1) m
def cJ (g : GT) (e : Nat → Nat) (p : Nat) : Nat :=
  if 1000 ≤ sm g (ln e) p 0 (Gl g p) then 1000 * 1152921504606846976 else if 21 ≤ sm g (ln e) p 0 (Gl g p) then 21 * 1152921504606846976 else sm g (ln e) p 0 (Gl g p) * 1152921504606846976 + cf g e p 0 0 (Gl g p)
/-- a length up to 20 with a text of that length, or 21 and none, or none at all -/
def okc (x : Nat) : Prop := (x / 1152921504606846976 ≤ 20 ∧ x % 1152921504606846976 < 8 ^ (x / 1152921504606846976)) ∨ x = 21 * 1152921504606846976 ∨ x = 1000 * 1152921504606846976
def vJ (e : Nat → Nat) : Prop := ∀ a, a < 16 → okc (e a)
def clJ (g : GT) (e : Nat → Nat) : Prop := ∀ p, p < Gn g → e (Go g p) ≤ cJ g e p
def grJ (g : GT) (e : Nat → Nat) : Prop := vJ e ∧ clJ g e ∧ ∀ f, vJ f → clJ g f → ∀ a, a < 16 → f a ≤ e a
theorem grJ_uniq {g : GT} {d e : Nat → Nat} (h : grJ g d) (q : grJ g e) (a : Nat) (ha : a < 16) : d a = e a := Nat.le_antisymm (q.2.2 _ h.1 h.2.1 a ha) (h.2.2 _ q.1 q.2.1 a ha)
theorem p8_le {l : Nat} (h : l ≤ 20) : 8 ^ l ≤ 1152921504606846976 := by
  have h1 : 8 ^ l ≤ 8 ^ 20 := Nat.pow_le_pow_right (by decide) h
  exact Nat.le_trans h1 (by decide)
theorem okc_ln {e : Nat → Nat} (h : vJ e) : vald 21 (ln e) := fun a ha => by
  rcases h a ha with q | q | q
  · exact Or.inl (Nat.le_trans q.1 (by decide))
  · refine Or.inl ?_; unfold ln; rw [q]; decide
  · refine Or.inr ?_; unfold ln; rw [q]
theorem cf_mono {g : GT} {d e : Nat → Nat} {p : Nat} : ∀ (m k acc acc' : Nat), acc ≤ acc' → (∀ j, k ≤ j → j < k + m → dS (ln d) (Gs g p j) = dS (ln e) (Gs g p j) ∧ tS d (Gs g p j) ≤ tS e (Gs g p j)) → cf g d p acc k m ≤ cf g e p acc' k m
  | 0, _, _, _, h, _ => h
  | m + 1, k, acc, acc', h, q => by
    have h1 := q k (by omega) (by omega)
    show cf g d p (acc * 8 ^ dS (ln d) (Gs g p k) + tS d (Gs g p k)) (k + 1) m ≤ cf g e p (acc' * 8 ^ dS (ln e) (Gs g p k) + tS e (Gs g p k)) (k + 1) m
    rw [h1.1]
    exact cf_mono m (k + 1) _ _ (Nat.add_le_add (Nat.mul_le_mul_right _ h) h1.2) (fun j a b => q j (by omega) (by omega))
theorem cf_lt {g : GT} {d e : Nat → Nat} {p : Nat} : ∀ (m k acc acc' : Nat), acc ≤ acc' → (∀ j, k ≤ j → j < k + m → dS (ln d) (Gs g p j) = dS (ln e) (Gs g p j) ∧ tS d (Gs g p j) ≤ tS e (Gs g p j)) → (acc < acc' ∨ ∃ j, k ≤ j ∧ j < k + m ∧ tS d (Gs g p j) < tS e (Gs g p j)) → cf g d p acc k m < cf g e p acc' k m
  | 0, _, _, _, h, _, w => by
    rcases w with w | ⟨j, h1, h2, -⟩
    · exact w
    · omega
  | m + 1, k, acc, acc', h, q, w => by
    have h1 := q k (by omega) (by omega)
    show cf g d p (acc * 8 ^ dS (ln d) (Gs g p k) + tS d (Gs g p k)) (k + 1) m < cf g e p (acc' * 8 ^ dS (ln e) (Gs g p k) + tS e (Gs g p k)) (k + 1) m
    rw [h1.1]
    have hle : acc * 8 ^ dS (ln e) (Gs g p k) ≤ acc' * 8 ^ dS (ln e) (Gs g p k) := Nat.mul_le_mul_right _ h
    refine cf_lt m (k + 1) _ _ (Nat.add_le_add hle h1.2) (fun j a b => q j (by omega) (by omega)) ?_
    rcases w with w | ⟨j, h2, h3, h4⟩
    · have hlt : acc * 8 ^ dS (ln e) (Gs g p k) < acc' * 8 ^ dS (ln e) (Gs g p k) := Nat.mul_lt_mul_of_pos_right w (Nat.pow_pos (by decide))
      exact Or.inl (Nat.add_lt_add_of_lt_of_le hlt h1.2)
    · by_cases hj : j = k
      · subst hj; exact Or.inl (Nat.add_lt_add_of_le_of_lt hle h4)
      · exact Or.inr ⟨j, by omega, by omega, h4⟩
theorem tS_lt {g : GT} (hg : GR g) {e : Nat → Nat} (h : vJ e) {p k : Nat} (hk : k < Gl g p) (hl : dS (ln e) (Gs g p k) ≤ 20) : tS e (Gs g p k) < 8 ^ dS (ln e) (Gs g p k) := by
  have h1 := hg.2.2.2.2.2 p k hk
  unfold tS dS at *
  split
  · next q => omega
  · next q =>
    rcases h (Gs g p k - 16) (by omega) with z | z | z
    · exact z.2
    · unfold ln at hl; rw [if_neg q, z] at hl; exact absurd hl (by decide)
    · unfold ln at hl; rw [if_neg q, z] at hl; exact absurd hl (by decide)
theorem cf_bd {g : GT} (hg : GR g) {e : Nat → Nat} (h : vJ e) {p : Nat} : ∀ (m k acc l : Nat), k + m ≤ Gl g p → acc < 8 ^ l → sm g (ln e) p k m ≤ 20 → cf g e p acc k m < 8 ^ (l + sm g (ln e) p k m)
  | 0, _, _, _, _, h1, _ => h1
  | m + 1, k, acc, l, hk, h1, h2 => by
    have h2' : dS (ln e) (Gs g p k) + sm g (ln e) p (k + 1) m ≤ 20 := h2
    have h3 := tS_lt hg h (p := p) (k := k) (by omega) (by omega)
    show cf g e p (acc * 8 ^ dS (ln e) (Gs g p k) + tS e (Gs g p k)) (k + 1) m < 8 ^ (l + (dS (ln e) (Gs g p k) + sm g (ln e) p (k + 1) m))
    rw [← Nat.add_assoc]
    refine cf_bd hg h m (k + 1) _ _ (by omega) ?_ (by omega)
    rw [Nat.pow_add]
    calc acc * 8 ^ dS (ln e) (Gs g p k) + tS e (Gs g p k) < acc * 8 ^ dS (ln e) (Gs g p k) + 8 ^ dS (ln e) (Gs g p k) := Nat.add_lt_add_left h3 _
      _ = (acc + 1) * 8 ^ dS (ln e) (Gs g p k) := by rw [Nat.add_mul, Nat.one_mul]
      _ ≤ 8 ^ l * 8 ^ dS (ln e) (Gs g p k) := Nat.mul_le_mul_right _ h1
theorem cJ_ok {g : GT} (hg : GR g) {e : Nat → Nat} (h : vJ e) (p : Nat) : okc (cJ g e p) := by
  unfold cJ
  split
  · exact Or.inr (Or.inr rfl)
  · split
    · exact Or.inr (Or.inl rfl)
    · next h1 h2 =>
      have h3 := cf_bd hg h (p := p) (Gl g p) 0 0 0 (by omega) (by decide) (by omega)
      rw [Nat.zero_add] at h3
      have h4 := p8_le (l := sm g (ln e) p 0 (Gl g p)) (by omega)
      have h5 : (sm g (ln e) p 0 (Gl g p) * 1152921504606846976 + cf g e p 0 0 (Gl g p)) / 1152921504606846976 = sm g (ln e) p 0 (Gl g p) := by omega
      have h6 : (sm g (ln e) p 0 (Gl g p) * 1152921504606846976 + cf g e p 0 0 (Gl g p)) % 1152921504606846976 = cf g e p 0 0 (Gl g p) := by omega
      refine Or.inl ⟨by rw [h5]; omega, by rw [h5, h6]; exact h3⟩
theorem cJ_ln {g : GT} (hg : GR g) {e : Nat → Nat} (h : vJ e) (p : Nat) : cJ g e p / 1152921504606846976 = tc 21 (sm g (ln e) p 0 (Gl g p)) := by
  unfold cJ tc
  split
  · decide
  · split
    · next h1 h2 => split
                    · omega
                    · rfl
    · next h1 h2 =>
      have h3 := cf_bd hg h (p := p) (Gl g p) 0 0 0 (by omega) (by decide) (by omega)
      rw [Nat.zero_add] at h3
      have h4 := p8_le (l := sm g (ln e) p 0 (Gl g p)) (by omega)
      rw [if_pos (by omega)]; omega
theorem ln_mono {d e : Nat → Nat} {a : Nat} (h : d a ≤ e a) : ln d a ≤ ln e a := Nat.div_le_div_right h
theorem cJ_mono {g : GT} (hg : GR g) {d e : Nat → Nat} (hd : vJ d) (he : vJ e) (h : ∀ a, a < 16 → d a ≤ e a) (p : Nat) : cJ g d p ≤ cJ g e p := by
  have hs : sm g (ln d) p 0 (Gl g p) ≤ sm g (ln e) p 0 (Gl g p) := sm_mono hg (fun a ha => ln_mono (h a ha)) _ _ (by omega)
  have h1 := cJ_ln hg hd p
  have h2 := cJ_ln hg he p
  by_cases q : tc 21 (sm g (ln d) p 0 (Gl g p)) < tc 21 (sm g (ln e) p 0 (Gl g p))
  · omega
  · by_cases q2 : 21 ≤ sm g (ln d) p 0 (Gl g p)
    · unfold cJ; unfold tc at q
      repeat' split at q
      all_goals (repeat' split)
      all_goals omega
    · have h3 := tc_mono (K := 21) (by decide) hs
      have q3 : sm g (ln e) p 0 (Gl g p) = sm g (ln d) p 0 (Gl g p) := by
        unfold tc at q h3
        repeat' split at q
        all_goals omega
      -- equal sums: equal lengths
      have key : ∀ (m k : Nat), k + m ≤ Gl g p → sm g (ln e) p k m ≤ sm g (ln d) p k m → ∀ j, k ≤ j → j < k + m → dS (ln d) (Gs g p j) = dS (ln e) (Gs g p j) := by
        intro m
        induction m with
        | zero => intro k _ _ j h1 h2; omega
        | succ m ih =>
          intro k hk hle j h1 h2
          have i1 : sm g (ln d) p (k + 1) m ≤ sm g (ln e) p (k + 1) m := sm_mono hg (fun a ha => ln_mono (h a ha)) _ _ (by omega)
          have i2 : dS (ln d) (Gs g p k) ≤ dS (ln e) (Gs g p k) := dS_mono (fun a ha => ln_mono (h a ha)) (hg.2.2.2.2.2 p k (by omega))
          have hle' : dS (ln e) (Gs g p k) + sm g (ln e) p (k + 1) m ≤ dS (ln d) (Gs g p k) + sm g (ln d) p (k + 1) m := hle
          by_cases hj : j = k
          · subst hj; omega
          · exact ih (k + 1) (by omega) (by omega) j (by omega) (by omega)
      unfold cJ
      rw [if_neg (by omega), if_neg q2, if_neg (by omega), if_neg (by omega), q3]
      refine Nat.add_le_add_left (cf_mono _ _ _ _ (Nat.le_refl _) (fun j a b => ?_)) _
      have k1 := key (Gl g p) 0 (by omega) (by omega) j (by omega) b
      refine ⟨k1, ?_⟩
      have hsj := hg.2.2.2.2.2 p j (by omega)
      unfold tS
      split
      · exact Nat.le_refl _
      · next q4 =>
        have h5 := h (Gs g p j - 16) (by omega)
        unfold dS at k1
        rw [if_neg q4, if_neg q4] at k1
        unfold ln at k1; unfold tx
        omega
theorem cJ_strict {g : GT} (hg : GR g) {d e : Nat → Nat} (hd : vJ d) (he : vJ e) (h : ∀ a, a < 16 → d a ≤ e a) {p j : Nat} (hj : j < Gl g p) (hs : 16 ≤ Gs g p j) (hlt : d (Gs g p j - 16) < e (Gs g p j - 16)) (h20 : sm g (ln d) p 0 (Gl g p) ≤ 20) : cJ g d p < cJ g e p := by
  have hle := cJ_mono hg hd he h p
  have hsum : sm g (ln d) p 0 (Gl g p) ≤ sm g (ln e) p 0 (Gl g p) := sm_mono hg (fun a ha => ln_mono (h a ha)) _ _ (by omega)
  have h1 := cJ_ln hg hd p
  have h2 := cJ_ln hg he p
  by_cases q : sm g (ln e) p 0 (Gl g p) = sm g (ln d) p 0 (Gl g p)
  · have key : ∀ (m k : Nat), k + m ≤ Gl g p → sm g (ln e) p k m ≤ sm g (ln d) p k m → ∀ j, k ≤ j → j < k + m → dS (ln d) (Gs g p j) = dS (ln e) (Gs g p j) := by
      intro m
      induction m with
      | zero => intro k _ _ j h1 h2; omega
      | succ m ih =>
        intro k hk hle j h1 h2
        have i1 : sm g (ln d) p (k + 1) m ≤ sm g (ln e) p (k + 1) m := sm_mono hg (fun a ha => ln_mono (h a ha)) _ _ (by omega)
        have i2 : dS (ln d) (Gs g p k) ≤ dS (ln e) (Gs g p k) := dS_mono (fun a ha => ln_mono (h a ha)) (hg.2.2.2.2.2 p k (by omega))
        have hle' : dS (ln e) (Gs g p k) + sm g (ln e) p (k + 1) m ≤ dS (ln d) (Gs g p k) + sm g (ln d) p (k + 1) m := hle
        by_cases hj : j = k
        · subst hj; omega
        · exact ih (k + 1) (by omega) (by omega) j (by omega) (by omega)
    unfold cJ
    rw [if_neg (by omega), if_neg (by omega), if_neg (by omega), if_neg (by omega), q]
    have each : ∀ i, i < Gl g p → dS (ln d) (Gs g p i) = dS (ln e) (Gs g p i) ∧ tS d (Gs g p i) ≤ tS e (Gs g p i) := fun i hi => by
      have k1 := key (Gl g p) 0 (by omega) (by omega) i (by omega) (by omega)
      refine ⟨k1, ?_⟩
      have hsj := hg.2.2.2.2.2 p i hi
      unfold tS
      split
      · exact Nat.le_refl _
      · next q4 =>
        have h5 := h (Gs g p i - 16) (by omega)
        unfold dS at k1
        rw [if_neg q4, if_neg q4] at k1
        unfold ln at k1; unfold tx
        omega
    refine Nat.add_lt_add_left (cf_lt _ _ _ _ (Nat.le_refl _) (fun i a b => each i (by omega)) (Or.inr ⟨j, by omega, by omega, ?_⟩)) _
    have k1 := (each j hj).1
    unfold tS
    rw [if_neg (by omega), if_neg (by omega)]
    unfold dS at k1
    rw [if_neg (by omega), if_neg (by omega)] at k1
    unfold ln at k1; unfold tx
    omega
  · have h3 : tc 21 (sm g (ln d) p 0 (Gl g p)) < tc 21 (sm g (ln e) p 0 (Gl g p)) := by
      unfold tc; repeat' split
      all_goals omega
    omega
/-- a number's greatest value with a property -/
theorem gmax {P : Nat → Prop} : ∀ (B : Nat), (∃ x, P x) → (∀ x, P x → x ≤ B) → ∃ m, P m ∧ ∀ x, P x → x ≤ m
  | 0, ⟨x, hx⟩, h => ⟨x, hx, fun y hy => by have := h x hx; have := h y hy; omega⟩
  | B + 1, hex, h => by
    by_cases q : P (B + 1)
    · exact ⟨B + 1, q, h⟩
    · exact gmax B hex (fun x hx => by
        have := h x hx
        by_cases e : x = B + 1
        · subst e; exact absurd hx q
        · omega)
theorem okc_le {x : Nat} (h : okc x) : x ≤ 1000 * 1152921504606846976 := by
  rcases h with h | h | h <;> omega
theorem grJ_ex {g : GT} (hg : GR g) : ∃ v, grJ g v := by
  have h0 : vJ (fun _ => 0) := fun a _ => Or.inl ⟨(by decide : (0 : Nat) / 1152921504606846976 ≤ 20), (by decide : (0 : Nat) % 1152921504606846976 < 8 ^ ((0 : Nat) / 1152921504606846976))⟩
  have h1 : clJ g (fun _ => 0) := fun p _ => Nat.zero_le _
  have key : ∀ a, ∃ m, (a < 16 → (∃ e, vJ e ∧ clJ g e ∧ e a = m) ∧ ∀ e, vJ e → clJ g e → e a ≤ m) := by
    intro a
    by_cases ha : a < 16
    · obtain ⟨m, h2, h3⟩ := gmax (P := fun x => ∃ e, vJ e ∧ clJ g e ∧ e a = x) (1000 * 1152921504606846976) ⟨0, _, h0, h1, rfl⟩ (fun x hx => by
        obtain ⟨e, e1, e2, e3⟩ := hx
        rw [← e3]; exact okc_le (e1 a ha))
      exact ⟨m, fun _ => ⟨h2, fun e he hc => h3 _ ⟨e, he, hc, rfl⟩⟩⟩
    · exact ⟨0, fun h => absurd h ha⟩
  refine ⟨fun a => (key a).choose, fun a ha => ?_, fun p hp => ?_, fun f hf hc a ha => ?_⟩
  · obtain ⟨e, e1, e2, e3⟩ := ((key a).choose_spec ha).1
    show okc ((key a).choose)
    rw [← e3]; exact e1 a ha
  · have ho := hg.2.2.1 p
    obtain ⟨e, e1, e2, e3⟩ := ((key (Go g p)).choose_spec ho).1
    show (key (Go g p)).choose ≤ _
    rw [← e3]
    refine Nat.le_trans (e2 p hp) (cJ_mono hg e1 (fun a ha => ?_) (fun a ha => ((key a).choose_spec ha).2 e e1 e2) p)
    obtain ⟨e', e1', e2', e3'⟩ := ((key a).choose_spec ha).1
    show okc ((key a).choose)
    rw [← e3']; exact e1' a ha
  · exact ((key a).choose_spec ha).2 f hf hc
/-- lengths of the greatest solution are greatest lengths -/
theorem grJ_ln {g : GT} (hg : GR g) {v : Nat → Nat} (h : grJ g v) : grD 21 g (ln v) := by
  refine ⟨okc_ln h.1, fun p hp => ?_, fun d hd hc a ha => ?_⟩
  · have h1 := h.2.1 p hp
    rw [← cJ_ln hg h.1 p]
    exact Nat.div_le_div_right h1
  · have hv : vJ (fun a => d a * 1152921504606846976) := fun a ha => by
      have h1 := hd a ha
      have e1 : d a * 1152921504606846976 / 1152921504606846976 = d a := by omega
      have e2 : d a * 1152921504606846976 % 1152921504606846976 = 0 := by omega
      by_cases q : d a ≤ 20
      · exact Or.inl ⟨by show d a * 1152921504606846976 / 1152921504606846976 ≤ 20; omega, by
          show d a * 1152921504606846976 % 1152921504606846976 < 8 ^ (d a * 1152921504606846976 / 1152921504606846976)
          rw [e1, e2]; exact Nat.pow_pos (by decide)⟩
      · by_cases q2 : d a = 21
        · exact Or.inr (Or.inl (by show d a * _ = _; rw [q2]))
        · exact Or.inr (Or.inr (by show d a * _ = _; rw [show d a = 1000 by omega]))
    have hln : ln (fun a => d a * 1152921504606846976) = d := by
      funext a; unfold ln
      show d a * 1152921504606846976 / 1152921504606846976 = d a
      omega
    have hcl : clJ g (fun a => d a * 1152921504606846976) := fun p hp => by
      have h1 := hc p hp
      have h2 := cJ_ln hg hv p
      rw [hln] at h2
      show d (Go g p) * 1152921504606846976 ≤ _
      omega
    have h3 := h.2.2 _ hv hcl a ha
    unfold ln
    have h3' : d a * 1152921504606846976 ≤ v a := h3
    omega
