/-! ===== automata as values: closures of sets of items, the states in their order ===== -/
def gX (g : GT) : GT := (Gn g, Go g, fun p => if p = 24 then 1 else Gl g p, fun p k => if p = 24 then 16 + Gt g else Gs g p k, Gt g)
def pv (g : GT) (p : Nat) : Prop := p < Gn g ∨ p = 24
def zix (s : Nat) : Nat := if s < 16 then s else s - 8
theorem gX_l {g : GT} {p : Nat} (h : p ≠ 24) : Gl (gX g) p = Gl g p := if_neg h
theorem gX_s {g : GT} {p k : Nat} (h : p ≠ 24) : Gs (gX g) p k = Gs g p k := if_neg h
theorem gX_l24 {g : GT} : Gl (gX g) 24 = 1 := rfl
theorem gX_s24 {g : GT} {k : Nat} : Gs (gX g) 24 k = 16 + Gt g := rfl
theorem gX_l5 {g : GT} (hg : GR g) (p : Nat) : Gl (gX g) p ≤ 5 := by
  by_cases h : p = 24
  · rw [h, gX_l24]; omega
  · rw [gX_l h]; exact hg.2.2.2.1 p
theorem gX_pv {g : GT} (hg : GR g) {p k : Nat} (h : k < Gl (gX g) p) : pv g p := by
  by_cases e : p = 24
  · exact Or.inr e
  · rw [gX_l e] at h; exact Or.inl (hg.2.2.2.2.1 p k h)
theorem gX_sr {g : GT} (hg : GR g) {p k : Nat} (h : k < Gl (gX g) p) : Gs (gX g) p k < 8 ∨ (16 ≤ Gs (gX g) p k ∧ Gs (gX g) p k < 32) := by
  by_cases e : p = 24
  · rw [e, gX_s24]; have := hg.2.1; omega
  · rw [gX_s e]; rw [gX_l e] at h; exact hg.2.2.2.2.2 p k h
theorem gX_em {g : GT} {N : Nat → Prop} {p k : Nat} (h : p ≠ 24) : emF (gX g) N p k ↔ emF g N p k := by
  unfold emF; rw [gX_l h]
  exact ⟨fun q j a b => by have := q j a b; rwa [gX_s h] at this, fun q j a b => by rw [gX_s h]; exact q j a b⟩
theorem gX_fs {g : GT} {N : Nat → Prop} {F : Nat → Nat → Prop} {p k t : Nat} (h : p ≠ 24) : fsF (gX g) N F p k t ↔ fsF g N F p k t := by
  unfold fsF; rw [gX_l h]
  constructor
  · rintro ⟨j, a, b, c, d⟩
    rw [gX_s h] at d
    exact ⟨j, a, b, fun i x y => by have := c i x y; rwa [gX_s h] at this, d⟩
  · rintro ⟨j, a, b, c, d⟩
    exact ⟨j, a, b, fun i x y => by rw [gX_s h]; exact c i x y, by rw [gX_s h]; exact d⟩
abbrev AS : Type := Nat → Nat → Nat → Prop
def sAS (K R : AS) : Prop := ∀ p k t, K p k t → R p k t
def opA (g : GT) (N : Nat → Prop) (F : Nat → Nat → Prop) (R : AS) (q t : Nat) : Prop := q < Gn g ∧ ∃ p k, pv g p ∧ k < Gl (gX g) p ∧ Gs (gX g) p k = 16 + Go g q ∧ R p k 9 ∧ (t = 9 ∨ (t < 8 ∧ fsF (gX g) N F p (k + 1) t) ∨ (emF (gX g) N p (k + 1) ∧ t < 9 ∧ R p k t))
def cA (g : GT) (N : Nat → Prop) (F : Nat → Nat → Prop) (R : AS) : Prop := ∀ q t, opA g N F R q t → R q 0 t
def CL (g : GT) (N : Nat → Prop) (F : Nat → Nat → Prop) (K : AS) : AS := fun p k t => ∀ R, sAS K R → cA g N F R → R p k t
section AU
variable {g : GT} {N : Nat → Prop} {F : Nat → Nat → Prop}
theorem opA_mono {R R' : AS} (h : sAS R R') {q t : Nat} (o : opA g N F R q t) : opA g N F R' q t := by
  obtain ⟨a, p, k, b, c, d, e, f⟩ := o
  exact ⟨a, p, k, b, c, d, h _ _ _ e, f.elim Or.inl (fun z => Or.inr (z.elim Or.inl (fun y => Or.inr ⟨y.1, y.2.1, h _ _ _ y.2.2⟩)))⟩
theorem CL_sub {K : AS} : sAS K (CL g N F K) := fun p k t h R hR _ => hR p k t h
theorem CL_min {K R : AS} (h : sAS K R) (c : cA g N F R) : sAS (CL g N F K) R := fun _ _ _ q => q R h c
theorem CL_cl {K : AS} : cA g N F (CL g N F K) := fun q t o R hR hc => hc q t (opA_mono (CL_min hR hc) o)
theorem CL_eq {K R : AS} (h1 : sAS K R) (h2 : sAS R (CL g N F K)) (h3 : cA g N F R) : R = CL g N F K := by
  funext p k t; exact propext ⟨h2 p k t, CL_min h1 h3 p k t⟩
/-- what a closure has more -/
theorem CL_new {K : AS} {p k t : Nat} (h : CL g N F K p k t) : K p k t ∨ (k = 0 ∧ opA g N F (CL g N F K) p t) := by
  have := h (fun p k t => CL g N F K p k t ∧ (K p k t ∨ (k = 0 ∧ opA g N F (CL g N F K) p t))) (fun p k t q => ⟨CL_sub p k t q, Or.inl q⟩) (fun q t o => by
    have o' : opA g N F (CL g N F K) q t := opA_mono (fun p k t z => z.1) o
    exact ⟨CL_cl q t o', Or.inr ⟨rfl, o'⟩⟩)
  exact this.2
theorem CL_kern (hg : GR g) {K : AS} {p k t : Nat} (h : 1 ≤ k ∨ p = 24) : CL g N F K p k t ↔ K p k t := by
  refine ⟨fun q => ?_, CL_sub p k t⟩
  rcases CL_new q with z | ⟨z1, z2⟩
  · exact z
  · have := z2.1; have := hg.1; omega
/-- being there is closed by itself -/
theorem CL_9 {K K' : AS} (h : ∀ p k, K p k 9 → K' p k 9) {p k : Nat} (q : CL g N F K p k 9) : CL g N F K' p k 9 := by
  have := q (fun p k t => t ≠ 9 ∨ CL g N F K' p k 9) (fun p k t z => by
    by_cases e : t = 9
    · subst e; exact Or.inr (CL_sub _ _ _ (h p k z))
    · exact Or.inl e) (fun q t o => by
    by_cases e : t = 9
    · right
      obtain ⟨a, p, k, b, c, d, f, _⟩ := o
      exact CL_cl q 9 ⟨a, p, k, b, c, d, f.elim (fun z => absurd rfl z) id, Or.inl rfl⟩
    · exact Or.inl e)
  exact this.elim (fun z => absurd rfl z) id
theorem CL_t {K : AS} (h : ∀ p k t, K p k t → t ≤ 9 ∧ K p k 9) {p k t : Nat} (q : CL g N F K p k t) : t ≤ 9 ∧ CL g N F K p k 9 := by
  refine q (fun p k t => t ≤ 9 ∧ CL g N F K p k 9) (fun p k t z => ⟨(h p k t z).1, CL_sub _ _ _ (h p k t z).2⟩) (fun q t o => ?_)
  obtain ⟨a, p, k, b, c, d, f, e⟩ := o
  exact ⟨by omega, CL_cl q 9 ⟨a, p, k, b, c, d, f.2, Or.inl rfl⟩⟩
def vI (g : GT) (p k : Nat) : Prop := pv g p ∧ k ≤ Gl (gX g) p
theorem CL_v {K : AS} (h : ∀ p k t, K p k t → vI g p k) {p k t : Nat} (q : CL g N F K p k t) : vI g p k := by
  refine q (fun p k t => vI g p k) h (fun q t o => ⟨Or.inl o.1, Nat.zero_le _⟩)
def adv (b : Bool) (g : GT) (R : AS) (x : Nat) : AS := fun p k t => (b = true → t = 9) ∧ ∃ k', k = k' + 1 ∧ pv g p ∧ k' < Gl (gX g) p ∧ zix (Gs (gX g) p k') = x ∧ R p k' 9 ∧ R p k' t
def K0 (b : Bool) : AS := fun p k t => p = 24 ∧ k = 0 ∧ (t = 9 ∨ (t = 8 ∧ b = false))
end AU
noncomputable def zif {α : Type} (P : Prop) (a b : α) : α := @ite α P (Classical.propDecidable P) a b
theorem zif_p {α : Type} {P : Prop} {a b : α} (h : P) : zif P a b = a := if_pos h
theorem zif_n {α : Type} {P : Prop} {a b : α} (h : ¬ P) : zif P a b = b := if_neg h
noncomputable def zpk (P : Nat → Prop) : Nat := @dite Nat (∃ t, P t) (Classical.propDecidable _) (fun h => Classical.choose h) (fun _ => 0)
theorem zpk_s {P : Nat → Prop} (h : ∃ t, P t) : P (zpk P) := by
  unfold zpk; rw [dif_pos h]; exact Classical.choose_spec h
abbrev BS : Type := Nat × (Nat → AS) × (Nat → Nat → Int) × Bool
def Sn (S : BS) : Nat := S.1
def SK (S : BS) : Nat → AS := S.2.1
def Sm (S : BS) : Nat → Nat → Int := S.2.2.1
def Sb (S : BS) : Bool := S.2.2.2
def sK (K : Nat → AS) (n : Nat) (A : AS) : Nat → AS := fun t => if t = n then A else K t
def sM (m : Nat → Nat → Int) (s x : Nat) (y : Int) : Nat → Nat → Int := fun s' x' => if s' = s ∧ x' = x then y else m s' x'
section BF
variable {g : GT} {N : Nat → Prop} {F : Nat → Nat → Prop} {b : Bool}
noncomputable def bst (g : GT) (N : Nat → Prop) (F : Nat → Nat → Prop) (b : Bool) (S : BS) (s x : Nat) : BS :=
  zif (∃ p k, adv b g (CL g N F (SK S s)) x p k 9)
    (zif (∃ t, t < Sn S ∧ SK S t = adv b g (CL g N F (SK S s)) x)
      (Sn S, SK S, sM (Sm S) s x (zpk (fun t => t < Sn S ∧ SK S t = adv b g (CL g N F (SK S s)) x) : Int), Sb S)
      (zif (Sn S = 80) (Sn S, SK S, Sm S, true) (Sn S + 1, sK (SK S) (Sn S) (adv b g (CL g N F (SK S s)) x), sM (Sm S) s x (Sn S : Int), Sb S)))
    (Sn S, SK S, sM (Sm S) s x (-1), Sb S)
noncomputable def bfi (g : GT) (N : Nat → Prop) (F : Nat → Nat → Prop) (b : Bool) : Nat → BS
  | 0 => (1, fun _ => K0 b, fun _ _ => -1, false)
  | i + 1 => zif (Sb (bfi g N F b i) = true ∨ Sn (bfi g N F b i) ≤ i / 24) (bfi g N F b i) (bst g N F b (bfi g N F b i) (i / 24) (i % 24))
noncomputable def FIN (g : GT) (N : Nat → Prop) (F : Nat → Nat → Prop) (b : Bool) : BS := bfi g N F b 1920
/-- what holds of the states at every step -/
def PB (g : GT) (N : Nat → Prop) (F : Nat → Nat → Prop) (b : Bool) (i : Nat) (S : BS) : Prop :=
  1 ≤ Sn S ∧ Sn S ≤ 80 ∧ SK S 0 = K0 b ∧ (∀ t, t < Sn S → (∀ p k y, SK S t p k y → vI g p k ∧ y ≤ 9 ∧ SK S t p k 9 ∧ (b = true → y = 9)) ∧ ∃ p k, SK S t p k 9) ∧
  (∀ t, 0 < t → t < Sn S → ∃ s x, s < t ∧ x < 24 ∧ 24 * s + x < i ∧ SK S t = adv b g (CL g N F (SK S s)) x) ∧
  (∀ t t', t < Sn S → t' < Sn S → SK S t = SK S t' → t = t') ∧
  (Sb S = false → ∀ s x, s < Sn S → x < 24 → 24 * s + x < i → (Sm S s x = -1 ∧ ¬ ∃ p k, adv b g (CL g N F (SK S s)) x p k 9) ∨ ∃ t : Nat, Sm S s x = (t : Int) ∧ t < Sn S ∧ SK S t = adv b g (CL g N F (SK S s)) x ∧ ∃ p k, adv b g (CL g N F (SK S s)) x p k 9) ∧
  ∀ s x, i ≤ 24 * s + x → x < 24 → Sm S s x = -1
theorem adv_p {R : AS} (hR : ∀ p k t, R p k t → t ≤ 9) {x p k t : Nat} (h : adv b g R x p k t) : vI g p k ∧ t ≤ 9 ∧ adv b g R x p k 9 ∧ (b = true → t = 9) ∧ 1 ≤ k := by
  obtain ⟨h0, k', h1, h2, h3, h4, h5, h6⟩ := h
  exact ⟨⟨h2, by omega⟩, hR _ _ _ h6, ⟨fun _ => rfl, k', h1, h2, h3, h4, h5, h5⟩, h0, by omega⟩
theorem bst_c (S : BS) (s x : Nat) :
    ((¬ ∃ p k, adv b g (CL g N F (SK S s)) x p k 9) ∧ bst g N F b S s x = (Sn S, SK S, sM (Sm S) s x (-1), Sb S)) ∨
    ((∃ p k, adv b g (CL g N F (SK S s)) x p k 9) ∧ ((∃ t, (t < Sn S ∧ SK S t = adv b g (CL g N F (SK S s)) x) ∧ bst g N F b S s x = (Sn S, SK S, sM (Sm S) s x (t : Int), Sb S)) ∨
    ((∀ t, t < Sn S → SK S t ≠ adv b g (CL g N F (SK S s)) x) ∧ ((Sn S = 80 ∧ bst g N F b S s x = (Sn S, SK S, Sm S, true)) ∨ (Sn S ≠ 80 ∧ bst g N F b S s x = (Sn S + 1, sK (SK S) (Sn S) (adv b g (CL g N F (SK S s)) x), sM (Sm S) s x (Sn S : Int), Sb S)))))) := by
  unfold bst
  by_cases h1 : ∃ p k, adv b g (CL g N F (SK S s)) x p k 9
  · right
    refine ⟨h1, ?_⟩
    rw [zif_p h1]
    by_cases h2 : ∃ t, t < Sn S ∧ SK S t = adv b g (CL g N F (SK S s)) x
    · left
      rw [zif_p h2]
      exact ⟨_, zpk_s h2, rfl⟩
    · right
      refine ⟨fun t ht q => h2 ⟨t, ht, q⟩, ?_⟩
      rw [zif_n h2]
      by_cases h3 : Sn S = 80
      · rw [zif_p h3]; exact Or.inl ⟨h3, rfl⟩
      · rw [zif_n h3]; exact Or.inr ⟨h3, rfl⟩
  · left
    rw [zif_n h1]; exact ⟨h1, rfl⟩
theorem sK_lt {K : Nat → AS} {n t : Nat} {A : AS} (h : t < n) : sK K n A t = K t := if_neg (by omega)
theorem sK_eq {K : Nat → AS} {n : Nat} {A : AS} : sK K n A n = A := if_pos rfl
theorem sM_eq {m : Nat → Nat → Int} {s x : Nat} {y : Int} : sM m s x y s x = y := if_pos ⟨rfl, rfl⟩
theorem sM_ne {m : Nat → Nat → Int} {s x s' x' : Nat} {y : Int} (h : ¬ (s' = s ∧ x' = x)) : sM m s x y s' x' = m s' x' := if_neg h
theorem PB_bfi (hg : GR g) : ∀ i, PB g N F b i (bfi g N F b i)
  | 0 => by
    refine ⟨Nat.le_refl _, by show (1 : Nat) ≤ 80; decide, rfl, fun t ht => ⟨fun p k y h => ?_, 24, 0, rfl, rfl, Or.inl rfl⟩, fun t h1 h2 => ?_, fun t t' h1 h2 _ => ?_, fun _ s x h1 h2 h3 => ?_, fun _ _ _ _ => rfl⟩
    · obtain ⟨h1, h2, h3⟩ := h
      subst h1; subst h2
      refine ⟨⟨Or.inr rfl, Nat.zero_le _⟩, by omega, ⟨rfl, rfl, Or.inl rfl⟩, fun hb => ?_⟩
      rcases h3 with q | q
      · exact q
      · rw [hb] at q; exact absurd q.2 (by decide)
    · have : t < 1 := h2
      omega
    · have : t < 1 := h1
      have : t' < 1 := h2
      omega
    · omega
  | i + 1 => by
    have ih := PB_bfi hg i
    unfold bfi
    generalize bfi g N F b i = S at ih
    by_cases hc : Sb S = true ∨ Sn S ≤ i / 24
    · rw [zif_p hc]
      obtain ⟨a1, a2, a3, a4, a5, a6, a7, a8⟩ := ih
      refine ⟨a1, a2, a3, a4, fun t h1 h2 => ?_, a6, fun hb s x h1 h2 h3 => ?_, fun s x h1 h2 => a8 s x (by omega) h2⟩
      · obtain ⟨s, x, q1, q2, q3, q4⟩ := a5 t h1 h2
        exact ⟨s, x, q1, q2, by omega, q4⟩
      · refine a7 hb s x h1 h2 ?_
        rcases hc with z | z
        · rw [hb] at z; exact absurd z (by decide)
        · omega
    · rw [zif_n hc]
      have hb : Sb S = false := by
        cases h : Sb S with
        | false => rfl
        | true => exact absurd (Or.inl h) hc
      have hs : i / 24 < Sn S := by
        apply Classical.byContradiction; intro z
        exact hc (Or.inr (by omega))
      obtain ⟨a1, a2, a3, a4, a5, a6, a7, a8⟩ := ih
      have hx : i % 24 < 24 := Nat.mod_lt _ (by decide)
      have hi : 24 * (i / 24) + i % 24 = i := Nat.div_add_mod i 24
      generalize i / 24 = s at hs hi
      generalize i % 24 = x at hx hi
      have hCt : ∀ p k t, CL g N F (SK S s) p k t → t ≤ 9 := fun p k t q => (CL_t (fun p k t z => ⟨((a4 s hs).1 p k t z).2.1, ((a4 s hs).1 p k t z).2.2.1⟩) q).1
      have old : ∀ s' x', x' < 24 → 24 * s' + x' < i + 1 → (s' = s ∧ x' = x) ∨ (¬ (s' = s ∧ x' = x) ∧ 24 * s' + x' < i) := fun s' x' h1 h2 => by omega
      rcases bst_c (N := N) (F := F) (b := b) (g := g) S s x with ⟨c1, c2⟩ | ⟨c1, ⟨t, ⟨c2, c3⟩, c4⟩ | ⟨c2, ⟨c3, c4⟩ | ⟨c3, c4⟩⟩⟩
      · rw [c2]
        refine ⟨a1, a2, a3, a4, fun t h1 h2 => ?_, a6, fun _ s' x' h1 h2 h3 => ?_, fun s' x' h1 h2 => ?_⟩
        · obtain ⟨s', x', q1, q2, q3, q4⟩ := a5 t h1 h2
          exact ⟨s', x', q1, q2, by omega, q4⟩
        · show (sM (Sm S) s x (-1) s' x' = -1 ∧ _) ∨ ∃ t : Nat, sM (Sm S) s x (-1) s' x' = (t : Int) ∧ _
          rcases old s' x' h2 h3 with ⟨e1, e2⟩ | ⟨e1, e2⟩
          · rw [e1, e2, sM_eq]; exact Or.inl ⟨rfl, c1⟩
          · rw [sM_ne e1]; exact a7 hb s' x' h1 h2 e2
        · show sM (Sm S) s x (-1) s' x' = -1
          rw [sM_ne (by omega)]; exact a8 s' x' (by omega) h2
      · rw [c4]
        refine ⟨a1, a2, a3, a4, fun t h1 h2 => ?_, a6, fun _ s' x' h1 h2 h3 => ?_, fun s' x' h1 h2 => ?_⟩
        · obtain ⟨s', x', q1, q2, q3, q4⟩ := a5 t h1 h2
          exact ⟨s', x', q1, q2, by omega, q4⟩
        · show (sM (Sm S) s x (t : Int) s' x' = -1 ∧ _) ∨ ∃ t' : Nat, sM (Sm S) s x (t : Int) s' x' = (t' : Int) ∧ _
          rcases old s' x' h2 h3 with ⟨e1, e2⟩ | ⟨e1, e2⟩
          · rw [e1, e2, sM_eq]; exact Or.inr ⟨t, rfl, c2, c3, c1⟩
          · rw [sM_ne e1]; exact a7 hb s' x' h1 h2 e2
        · show sM (Sm S) s x (t : Int) s' x' = -1
          rw [sM_ne (by omega)]; exact a8 s' x' (by omega) h2
      · rw [c4]
        refine ⟨a1, a2, a3, a4, fun t h1 h2 => ?_, a6, fun q => absurd (show true = false from q) (by decide), fun s' x' h1 h2 => a8 s' x' (by omega) h2⟩
        obtain ⟨s', x', q1, q2, q3, q4⟩ := a5 t h1 h2
        exact ⟨s', x', q1, q2, by omega, q4⟩
      · rw [c4]
        have hK : ∀ t, t < Sn S → sK (SK S) (Sn S) (adv b g (CL g N F (SK S s)) x) t = SK S t := fun t ht => sK_lt ht
        refine ⟨?_, ?_, ?_, fun t ht => ?_, fun t h1 h2 => ?_, fun t t' h1 h2 h3 => ?_, fun _ s' x' h1 h2 h3 => ?_, fun s' x' h1 h2 => ?_⟩
        · show 1 ≤ Sn S + 1; omega
        · show Sn S + 1 ≤ 80; omega
        · show sK (SK S) (Sn S) (adv b g (CL g N F (SK S s)) x) 0 = K0 b
          rw [hK 0 (by omega)]; exact a3
        · have ht' : t < Sn S + 1 := ht
          show (∀ p k y, sK (SK S) (Sn S) (adv b g (CL g N F (SK S s)) x) t p k y → vI g p k ∧ y ≤ 9 ∧ sK (SK S) (Sn S) (adv b g (CL g N F (SK S s)) x) t p k 9 ∧ (b = true → y = 9)) ∧ ∃ p k, sK (SK S) (Sn S) (adv b g (CL g N F (SK S s)) x) t p k 9
          by_cases e : t = Sn S
          · rw [e, sK_eq]
            exact ⟨fun p k y h => by obtain ⟨z1, z2, z3, z4, z5⟩ := adv_p hCt h; exact ⟨z1, z2, z3, z4⟩, c1⟩
          · rw [hK t (by omega)]; exact a4 t (by omega)
        · have ht' : t < Sn S + 1 := h2
          by_cases e : t = Sn S
          · refine ⟨s, x, by omega, hx, by omega, ?_⟩
            show sK (SK S) (Sn S) (adv b g (CL g N F (SK S s)) x) t = adv b g (CL g N F (sK (SK S) (Sn S) (adv b g (CL g N F (SK S s)) x) s)) x
            rw [e, sK_eq, hK s hs]
          · obtain ⟨s', x', q1, q2, q3, q4⟩ := a5 t h1 (by omega)
            refine ⟨s', x', q1, q2, by omega, ?_⟩
            show sK (SK S) (Sn S) (adv b g (CL g N F (SK S s)) x) t = adv b g (CL g N F (sK (SK S) (Sn S) (adv b g (CL g N F (SK S s)) x) s')) x'
            rw [hK t (by omega), hK s' (by omega)]; exact q4
        · have h1' : t < Sn S + 1 := h1
          have h2' : t' < Sn S + 1 := h2
          have h3' : sK (SK S) (Sn S) (adv b g (CL g N F (SK S s)) x) t = sK (SK S) (Sn S) (adv b g (CL g N F (SK S s)) x) t' := h3
          by_cases e : t = Sn S
          · by_cases e' : t' = Sn S
            · omega
            · rw [e, sK_eq, hK t' (by omega)] at h3'
              exact absurd h3'.symm (c2 t' (by omega))
          · by_cases e' : t' = Sn S
            · rw [e', sK_eq, hK t (by omega)] at h3'
              exact absurd h3' (c2 t (by omega))
            · rw [hK t (by omega), hK t' (by omega)] at h3'
              exact a6 t t' (by omega) (by omega) h3'
        · have h1' : s' < Sn S + 1 := h1
          show (sM (Sm S) s x (Sn S : Int) s' x' = -1 ∧ ¬ ∃ p k, adv b g (CL g N F (sK (SK S) (Sn S) (adv b g (CL g N F (SK S s)) x) s')) x' p k 9) ∨ ∃ t' : Nat, sM (Sm S) s x (Sn S : Int) s' x' = (t' : Int) ∧ t' < Sn S + 1 ∧ sK (SK S) (Sn S) (adv b g (CL g N F (SK S s)) x) t' = adv b g (CL g N F (sK (SK S) (Sn S) (adv b g (CL g N F (SK S s)) x) s')) x' ∧ ∃ p k, adv b g (CL g N F (sK (SK S) (Sn S) (adv b g (CL g N F (SK S s)) x) s')) x' p k 9
          rcases old s' x' h2 h3 with ⟨e1, e2⟩ | ⟨e1, e2⟩
          · rw [e1, e2, sM_eq, hK s hs]
            exact Or.inr ⟨Sn S, rfl, by omega, sK_eq, c1⟩
          · have hs' : s' < Sn S := by omega
            rw [sM_ne e1, hK s' hs']
            rcases a7 hb s' x' hs' h2 e2 with z | ⟨t', z1, z2, z3, z4⟩
            · exact Or.inl z
            · exact Or.inr ⟨t', z1, by omega, by rw [hK t' z2]; exact z3, z4⟩
        · show sM (Sm S) s x (Sn S : Int) s' x' = -1
          rw [sM_ne (by omega)]; exact a8 s' x' (by omega) h2
/-- steps only add -/
theorem bfi_ext : ∀ i j, i ≤ j → Sn (bfi g N F b i) ≤ Sn (bfi g N F b j) ∧ (∀ t, t < Sn (bfi g N F b i) → SK (bfi g N F b j) t = SK (bfi g N F b i) t) ∧ (∀ s x, x < 24 → 24 * s + x < i → Sm (bfi g N F b j) s x = Sm (bfi g N F b i) s x) ∧ ((Sb (bfi g N F b i) = true ∨ Sn (bfi g N F b i) ≤ i / 24) → bfi g N F b j = bfi g N F b i)
  | i, 0, h => by
    have : i = 0 := by omega
    subst this
    exact ⟨Nat.le_refl _, fun _ _ => rfl, fun _ _ _ _ => rfl, fun _ => rfl⟩
  | i, j + 1, h => by
    by_cases e : i = j + 1
    · subst e; exact ⟨Nat.le_refl _, fun _ _ => rfl, fun _ _ _ _ => rfl, fun _ => rfl⟩
    · obtain ⟨h1, h2, h3, h4⟩ := bfi_ext i j (by omega)
      have key : Sn (bfi g N F b j) ≤ Sn (bfi g N F b (j + 1)) ∧ (∀ t, t < Sn (bfi g N F b j) → SK (bfi g N F b (j + 1)) t = SK (bfi g N F b j) t) ∧ (∀ s x, x < 24 → 24 * s + x < j → Sm (bfi g N F b (j + 1)) s x = Sm (bfi g N F b j) s x) ∧ ((Sb (bfi g N F b j) = true ∨ Sn (bfi g N F b j) ≤ j / 24) → bfi g N F b (j + 1) = bfi g N F b j) := by
        have e1 : bfi g N F b (j + 1) = zif (Sb (bfi g N F b j) = true ∨ Sn (bfi g N F b j) ≤ j / 24) (bfi g N F b j) (bst g N F b (bfi g N F b j) (j / 24) (j % 24)) := rfl
        by_cases hc : Sb (bfi g N F b j) = true ∨ Sn (bfi g N F b j) ≤ j / 24
        · rw [e1, zif_p hc]; exact ⟨Nat.le_refl _, fun _ _ => rfl, fun _ _ _ _ => rfl, fun _ => rfl⟩
        · rw [e1, zif_n hc]
          generalize bfi g N F b j = S at hc ⊢
          rcases bst_c (N := N) (F := F) (b := b) (g := g) S (j / 24) (j % 24) with ⟨c1, c2⟩ | ⟨c1, ⟨t, ⟨c2, c3⟩, c4⟩ | ⟨c2, ⟨c3, c4⟩ | ⟨c3, c4⟩⟩⟩
          · rw [c2]; exact ⟨Nat.le_refl _, fun _ _ => rfl, fun s x hx hl => sM_ne (by omega), fun q => absurd q hc⟩
          · rw [c4]; exact ⟨Nat.le_refl _, fun _ _ => rfl, fun s x hx hl => sM_ne (by omega), fun q => absurd q hc⟩
          · rw [c4]; exact ⟨Nat.le_refl _, fun _ _ => rfl, fun s x hx hl => rfl, fun q => absurd q hc⟩
          · rw [c4]; exact ⟨Nat.le_succ _, fun t ht => sK_lt ht, fun s x hx hl => sM_ne (by omega), fun q => absurd q hc⟩
      refine ⟨Nat.le_trans h1 key.1, fun t ht => (key.2.1 t (by omega)).trans (h2 t ht), fun s x hx hl => (key.2.2.1 s x hx (by omega)).trans (h3 s x hx hl), fun q => ?_⟩
      have e2 := h4 q
      rw [key.2.2.2 (by
        rw [e2]; rcases q with q | q
        · exact Or.inl q
        · exact Or.inr (Nat.le_trans q (Nat.div_le_div_right (by omega))))]
      exact e2
end BF
