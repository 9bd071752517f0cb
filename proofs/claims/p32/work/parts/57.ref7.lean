/-! ===== loops; the reference: findsShort, the rounds ===== -/
/-- a counting loop -/
def zLP {σ β : Type} (N : Nat) (l : Nat → Nat → σ → β) (Inv : Nat → σ → Prop) (Q : β → Prop) : Prop := ∀ (m f k : Nat) (s : σ), N = k + m → m < f → Inv k s → Q (l f k s)
theorem zlp {σ β : Type} {N : Nat} {l : Nat → Nat → σ → β} {Inv : Nat → σ → Prop} {Q : β → Prop} (step : ∀ f k s, k < N → Inv k s → Q (l (f + 1) k s) ∨ ∃ s', l (f + 1) k s = l f (k + 1) s' ∧ Inv (k + 1) s') (stop : ∀ f s, Inv N s → Q (l (f + 1) N s)) : zLP N l Inv Q := by
  intro m
  induction m with
  | zero =>
    intro f k s hm hf hI
    obtain ⟨f', rfl⟩ : ∃ f', f = f' + 1 := ⟨f - 1, by omega⟩
    have e : k = N := by omega
    subst e
    exact stop f' s hI
  | succ m ih =>
    intro f k s hm hf hI
    obtain ⟨f', rfl⟩ : ∃ f', f = f' + 1 := ⟨f - 1, by omega⟩
    rcases step f' k s (by omega) hI with q | ⟨s', e, h⟩
    · exact q
    · rw [e]; exact ih f' (k + 1) s' (by omega) (by omega) h
/-- a loop with a measure -/
def zWL {σ β : Type} (l : Nat → σ → β) (mu : σ → Nat) (Inv : σ → Prop) (Q : β → Prop) : Prop := ∀ (m f : Nat) (s : σ), mu s ≤ m → m < f → Inv s → Q (l f s)
theorem zwl {σ β : Type} {l : Nat → σ → β} {mu : σ → Nat} {Inv : σ → Prop} {Q : β → Prop} (step : ∀ f s, Inv s → Q (l (f + 1) s) ∨ ∃ s', l (f + 1) s = l f s' ∧ Inv s' ∧ mu s' < mu s) : zWL l mu Inv Q := by
  intro m
  induction m with
  | zero =>
    intro f s hm hf hI
    obtain ⟨f', rfl⟩ : ∃ f', f = f' + 1 := ⟨f - 1, by omega⟩
    rcases step f' s hI with q | ⟨s', -, -, h⟩
    · exact q
    · omega
  | succ m ih =>
    intro f s hm hf hI
    obtain ⟨f', rfl⟩ : ∃ f', f = f' + 1 := ⟨f - 1, by omega⟩
    rcases step f' s hI with q | ⟨s', e, h, h2⟩
    · exact q
    · rw [e]; exact ih f' s' (by omega) (by omega) h
