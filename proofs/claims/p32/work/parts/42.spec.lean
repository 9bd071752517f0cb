/-! ===== grammars as values; what is found of them, as least closed sets ===== -/
/-- how many productions, their lefts, how long, their symbols (16 and a nonterminal), the start -/
abbrev GT : Type := Nat × (Nat → Nat) × (Nat → Nat) × (Nat → Nat → Nat) × Nat
def Gn (g : GT) : Nat := g.1
def Go (g : GT) : Nat → Nat := g.2.1
def Gl (g : GT) : Nat → Nat := g.2.2.1
def Gs (g : GT) : Nat → Nat → Nat := g.2.2.2.1
def Gt (g : GT) : Nat := g.2.2.2.2
def nls (N : Nat → Prop) (s : Nat) : Prop := 16 ≤ s ∧ N (s - 16)
def syf (F : Nat → Nat → Prop) (s t : Nat) : Prop := (s < 16 ∧ t = s) ∨ (16 ≤ s ∧ F (s - 16) t)
/-- all of a right from a place on is nullable -/
def emF (g : GT) (N : Nat → Prop) (p k : Nat) : Prop := ∀ j, k ≤ j → j < Gl g p → nls N (Gs g p j)
/-- the firsts of a right from a place on -/
def fsF (g : GT) (N : Nat → Prop) (F : Nat → Nat → Prop) (p k t : Nat) : Prop := ∃ j, k ≤ j ∧ j < Gl g p ∧ (∀ i, k ≤ i → i < j → nls N (Gs g p i)) ∧ syf F (Gs g p j) t
theorem emF_end {g : GT} {N : Nat → Prop} {p k : Nat} (h : Gl g p ≤ k) : emF g N p k := fun j h1 h2 => absurd h2 (by omega)
theorem emF_step {g : GT} {N : Nat → Prop} {p k : Nat} (h : k < Gl g p) : emF g N p k ↔ nls N (Gs g p k) ∧ emF g N p (k + 1) := by
  constructor
  · intro e; exact ⟨e k (Nat.le_refl k) h, fun j h1 h2 => e j (by omega) h2⟩
  · rintro ⟨e1, e2⟩ j h1 h2
    by_cases hj : j = k
    · subst hj; exact e1
    · exact e2 j (by omega) h2
theorem fsF_end {g : GT} {N : Nat → Prop} {F : Nat → Nat → Prop} {p k t : Nat} (h : Gl g p ≤ k) : ¬ fsF g N F p k t := by
  rintro ⟨j, h1, h2, -⟩; omega
theorem fsF_step {g : GT} {N : Nat → Prop} {F : Nat → Nat → Prop} {p k t : Nat} (h : k < Gl g p) : fsF g N F p k t ↔ syf F (Gs g p k) t ∨ (nls N (Gs g p k) ∧ fsF g N F p (k + 1) t) := by
  constructor
  · rintro ⟨j, h1, h2, h3, h4⟩
    by_cases hj : j = k
    · subst hj; exact Or.inl h4
    · exact Or.inr ⟨h3 k (Nat.le_refl k) (by omega), j, by omega, h2, fun i a b => h3 i (by omega) b, h4⟩
  · rintro (h4 | ⟨hn, j, h1, h2, h3, h4⟩)
    · exact ⟨k, Nat.le_refl k, h, fun i a b => absurd b (by omega), h4⟩
    · refine ⟨j, by omega, h2, fun i a b => ?_, h4⟩
      by_cases hi : i = k
      · subst hi; exact hn
      · exact h3 i (by omega) b
theorem nls_mono {N N' : Nat → Prop} (h : ∀ a, N a → N' a) {s : Nat} : nls N s → nls N' s := fun q => ⟨q.1, h _ q.2⟩
theorem syf_mono {F F' : Nat → Nat → Prop} (h : ∀ a t, F a t → F' a t) {s t : Nat} : syf F s t → syf F' s t := fun q => q.elim Or.inl (fun z => Or.inr ⟨z.1, h _ _ z.2⟩)
theorem emF_mono {g : GT} {N N' : Nat → Prop} (h : ∀ a, N a → N' a) {p k : Nat} : emF g N p k → emF g N' p k := fun e j h1 h2 => nls_mono h (e j h1 h2)
theorem fsF_mono {g : GT} {N N' : Nat → Prop} {F F' : Nat → Nat → Prop} (hN : ∀ a, N a → N' a) (hF : ∀ a t, F a t → F' a t) {p k t : Nat} : fsF g N F p k t → fsF g N' F' p k t := by
  rintro ⟨j, h1, h2, h3, h4⟩
  exact ⟨j, h1, h2, fun i a b => nls_mono hN (h3 i a b), syf_mono hF h4⟩
/-- nullable ones and firsts, closed under the productions -/
def cl1 (g : GT) (N : Nat → Prop) (F : Nat → Nat → Prop) : Prop := ∀ p, p < Gn g → (emF g N p 0 → N (Go g p)) ∧ ∀ t, fsF g N F p 0 t → F (Go g p) t
def ls1 (g : GT) (N : Nat → Prop) (F : Nat → Nat → Prop) : Prop := cl1 g N F ∧ ∀ N' F', cl1 g N' F' → (∀ a, N a → N' a) ∧ ∀ a t, F a t → F' a t
theorem ls1_uniq {g : GT} {N N' : Nat → Prop} {F F' : Nat → Nat → Prop} (h : ls1 g N F) (h' : ls1 g N' F') : (∀ a, N a ↔ N' a) ∧ ∀ a t, F a t ↔ F' a t :=
  ⟨fun a => ⟨(h.2 _ _ h'.1).1 a, (h'.2 _ _ h.1).1 a⟩, fun a t => ⟨(h.2 _ _ h'.1).2 a t, (h'.2 _ _ h.1).2 a t⟩⟩
/-- what is behind, closed -/
def cl2 (g : GT) (N : Nat → Prop) (F B : Nat → Nat → Prop) : Prop := B (Gt g) 8 ∧ ∀ p, p < Gn g → ∀ k, k < Gl g p → 16 ≤ Gs g p k → ∀ t, (fsF g N F p (k + 1) t ∨ (emF g N p (k + 1) ∧ B (Go g p) t)) → B (Gs g p k - 16) t
def ls2 (g : GT) (N : Nat → Prop) (F B : Nat → Nat → Prop) : Prop := cl2 g N F B ∧ ∀ B', cl2 g N F B' → ∀ a t, B a t → B' a t
theorem fsF_congr {g : GT} {N N' : Nat → Prop} {F F' : Nat → Nat → Prop} (hN : ∀ a, N a ↔ N' a) (hF : ∀ a t, F a t ↔ F' a t) {p k t : Nat} : fsF g N F p k t ↔ fsF g N' F' p k t := ⟨fsF_mono (fun a => (hN a).mp) (fun a t => (hF a t).mp), fsF_mono (fun a => (hN a).mpr) (fun a t => (hF a t).mpr)⟩
theorem emF_congr {g : GT} {N N' : Nat → Prop} (hN : ∀ a, N a ↔ N' a) {p k : Nat} : emF g N p k ↔ emF g N' p k := ⟨emF_mono (fun a => (hN a).mp), emF_mono (fun a => (hN a).mpr)⟩
theorem cl2_congr {g : GT} {N N' : Nat → Prop} {F F' B : Nat → Nat → Prop} (hN : ∀ a, N a ↔ N' a) (hF : ∀ a t, F a t ↔ F' a t) (h : cl2 g N F B) : cl2 g N' F' B :=
  ⟨h.1, fun p hp k hk hs t q => h.2 p hp k hk hs t (q.elim (fun z => Or.inl ((fsF_congr hN hF).mpr z)) (fun z => Or.inr ⟨(emF_congr hN).mpr z.1, z.2⟩))⟩
theorem ls2_uniq {g : GT} {N N' : Nat → Prop} {F F' B B' : Nat → Nat → Prop} (hN : ∀ a, N a ↔ N' a) (hF : ∀ a t, F a t ↔ F' a t) (h : ls2 g N F B) (h' : ls2 g N' F' B') (a t : Nat) : B a t ↔ B' a t :=
  ⟨h.2 _ (cl2_congr (fun a => (hN a).symm) (fun a t => (hF a t).symm) h'.1) a t, h'.2 _ (cl2_congr hN hF h.1) a t⟩
/-- what is reached -/
def cl3 (g : GT) (R : Nat → Prop) : Prop := R (Gt g) ∧ ∀ p, p < Gn g → R (Go g p) → ∀ k, k < Gl g p → 16 ≤ Gs g p k → R (Gs g p k - 16)
def ls3 (g : GT) (R : Nat → Prop) : Prop := cl3 g R ∧ ∀ R', cl3 g R' → ∀ a, R a → R' a
theorem ls3_uniq {g : GT} {R R' : Nat → Prop} (h : ls3 g R) (h' : ls3 g R') (a : Nat) : R a ↔ R' a := ⟨h.2 _ h'.1 a, h'.2 _ h.1 a⟩
/-- the least transitive relation above one -/
def isTC (R T : Nat → Nat → Prop) : Prop := (∀ a b, R a b → T a b) ∧ (∀ a b c, T a b → T b c → T a c) ∧ ∀ T' : Nat → Nat → Prop, (∀ a b, R a b → T' a b) → (∀ a b c, T' a b → T' b c → T' a c) → ∀ a b, T a b → T' a b
theorem isTC_uniq {R T T' : Nat → Nat → Prop} (h : isTC R T) (h' : isTC R T') (a b : Nat) : T a b ↔ T' a b := ⟨h.2.2 _ h'.1 h'.2.1 a b, h'.2.2 _ h.1 h.2.1 a b⟩
theorem isTC_first {R T : Nat → Nat → Prop} (h : isTC R T) {a b : Nat} (q : T a b) : ∃ c, R a c ∧ (c = b ∨ T c b) := by
  refine (h.2.2 (fun a b => T a b ∧ ∃ c, R a c ∧ (c = b ∨ T c b)) (fun a b r => ⟨h.1 _ _ r, b, r, Or.inl rfl⟩) ?_ a b q).2
  rintro a b c ⟨t1, d, r, hd⟩ ⟨t2, -⟩
  refine ⟨h.2.1 _ _ _ t1 t2, d, r, Or.inr ?_⟩
  rcases hd with rfl | hd
  · exact t2
  · exact h.2.1 _ _ _ hd t2
/-- relations of a grammar: on the right of, begins with, alone with nullable ones -/
def rlU (g : GT) (a b : Nat) : Prop := ∃ p, p < Gn g ∧ Go g p = a ∧ ∃ k, k < Gl g p ∧ Gs g p k = 16 + b
def rlL (g : GT) (N : Nat → Prop) (a b : Nat) : Prop := ∃ p, p < Gn g ∧ Go g p = a ∧ ∃ k, k < Gl g p ∧ (∀ i, i < k → nls N (Gs g p i)) ∧ Gs g p k = 16 + b
def rlC (g : GT) (N : Nat → Prop) (a b : Nat) : Prop := ∃ p, p < Gn g ∧ Go g p = a ∧ ∃ k, k < Gl g p ∧ (∀ i, i < k → nls N (Gs g p i)) ∧ emF g N p (k + 1) ∧ Gs g p k = 16 + b
theorem rlL_congr {g : GT} {N N' : Nat → Prop} (hN : ∀ a, N a ↔ N' a) (a b : Nat) : rlL g N a b ↔ rlL g N' a b := by
  constructor
  · rintro ⟨p, h1, h2, k, h3, h4, h5⟩; exact ⟨p, h1, h2, k, h3, fun i hi => nls_mono (fun a => (hN a).mp) (h4 i hi), h5⟩
  · rintro ⟨p, h1, h2, k, h3, h4, h5⟩; exact ⟨p, h1, h2, k, h3, fun i hi => nls_mono (fun a => (hN a).mpr) (h4 i hi), h5⟩
theorem isTC_congr {R R' T : Nat → Nat → Prop} (h : ∀ a b, R a b ↔ R' a b) (q : isTC R T) : isTC R' T := ⟨fun a b r => q.1 a b ((h a b).mpr r), q.2.1, fun T' h1 h2 => q.2.2 T' (fun a b r => h1 a b ((h a b).mp r)) h2⟩
/-- the start and what it leads to is what is reached -/
theorem ls3_of_TC {g : GT} {T : Nat → Nat → Prop} (h : isTC (rlU g) T) : ls3 g (fun a => a = Gt g ∨ T (Gt g) a) := by
  refine ⟨⟨Or.inl rfl, fun p hp hR k hk hs => ?_⟩, fun R' hR' a ha => ?_⟩
  · have r : T (Go g p) (Gs g p k - 16) := h.1 _ _ ⟨p, hp, rfl, k, hk, by omega⟩
    rcases hR with e | e
    · rw [e] at r; exact Or.inr r
    · exact Or.inr (h.2.1 _ _ _ e r)
  · have key : ∀ a b, T a b → (R' a → R' b) := h.2.2 (fun a b => R' a → R' b) (fun a b => by
      rintro ⟨p, hp, rfl, k, hk, hs⟩ q
      have := hR'.2 p hp q k hk (by omega)
      rwa [show Gs g p k - 16 = b by omega] at this) (fun a b c q1 q2 z => q2 (q1 z))
    rcases ha with rfl | ha
    · exact hR'.1
    · exact key _ _ ha hR'.1
