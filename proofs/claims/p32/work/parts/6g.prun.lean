/-! ===== runs of the predictive table, as functions of lists ===== -/
/-- an array holds a list, its head last -/
def AX {α : Type} (c : α → Int) (J : Nat → Nat → Int) (A : Nat) : List α → Prop
  | [] => True
  | x :: l => J A l.length = c x ∧ AX c J A l
theorem AX_fr {α : Type} {c : α → Int} {J K : Nat → Nat → Int} {A : Nat} : ∀ {l : List α}, AX c J A l → (∀ i, i < l.length → K A i = J A i) → AX c K A l
  | [], _, _ => trivial
  | x :: l, h, q => ⟨(q l.length (Nat.lt_succ_self _)).trans h.1, AX_fr h.2 (fun i hi => q i (Nat.lt_succ_of_lt hi))⟩
theorem AX_push {α : Type} {c : α → Int} {J : Nat → Nat → Int} {A : Nat} {l : List α} {x : α} (h : AX c J A l) : AX c (gx_u J A l.length (c x)) A (x :: l) := ⟨gu_at_eq rfl, AX_fr h (fun i hi => gu_at_ne (by omega))⟩
def nJx (x : Nat) : Int := (x : Int)
def rh (g : GT) (q : Nat) : List Nat := (List.range (Gl g q)).map (Gs g q)
theorem rh_len {g : GT} {q : Nat} : (rh g q).length = Gl g q := by simp [rh]
theorem rh_mem {g : GT} (hg : GR g) {q s : Nat} (h : s ∈ rh g q) : s < 8 ∨ (16 ≤ s ∧ s < 32) := by
  unfold rh at h
  rw [List.mem_map] at h
  obtain ⟨k, hk, rfl⟩ := h
  rw [List.mem_range] at hk
  exact hg.2.2.2.2.2 q k hk
theorem rh_drop {g : GT} {q k : Nat} (h : k < Gl g q) : (rh g q).drop k = Gs g q k :: (rh g q).drop (k + 1) := by
  have hl : k < (rh g q).length := by rw [rh_len]; exact h
  rw [List.drop_eq_getElem_cons hl]
  congr 1
  simp [rh]
/-- where it stands: -1 accepted, -2 it goes on, else the place where it ends -/
noncomputable def pst (g : GT) (w : Nat → Nat) : List Nat → Nat → Int
  | [], pl => if w pl = 8 then -1 else (pl : Int)
  | s :: _, pl => if s < 16 then (if s = w pl then -2 else (pl : Int)) else if zpl g (s - 16) (w pl) = -1 then (pl : Int) else -2
noncomputable def pne (g : GT) (w : Nat → Nat) : List Nat → Nat → Bool × Nat
  | [], _ => (false, 0)
  | s :: _, pl => if s < 16 then (false, s) else (true, (zpl g (s - 16) (w pl)).toNat)
noncomputable def pnb (g : GT) (e : Bool × Nat) (β : List Nat) : List Nat := if e.1 = true then rh g e.2 ++ β.tail else β.tail
noncomputable def pq (g : GT) (w : Nat → Nat) : Nat → List Nat → List (Bool × Nat) → Nat → Int × List (Bool × Nat)
  | 0, β, es, pl => if pst g w β pl = -2 then (-3, es) else (pst g w β pl, es)
  | r + 1, β, es, pl => if pst g w β pl = -2 then pq g w r (pnb g (pne g w β pl) β) (pne g w β pl :: es) (if (pne g w β pl).1 = true then pl else pl + 1) else (pst g w β pl, es)
theorem pq_end {g : GT} {w : Nat → Nat} (r : Nat) {β : List Nat} {es : List (Bool × Nat)} {pl : Nat} (h : pst g w β pl ≠ -2) : pq g w r β es pl = (pst g w β pl, es) := by
  cases r <;> (unfold pq; rw [if_neg h])
theorem pq_0 {g : GT} {w : Nat → Nat} {β : List Nat} {es : List (Bool × Nat)} {pl : Nat} (h : pst g w β pl = -2) : pq g w 0 β es pl = (-3, es) := by
  unfold pq; rw [if_pos h]
theorem pq_s {g : GT} {w : Nat → Nat} (r : Nat) {β : List Nat} {es : List (Bool × Nat)} {pl : Nat} (h : pst g w β pl = -2) : pq g w (r + 1) β es pl = pq g w r (pnb g (pne g w β pl) β) (pne g w β pl :: es) (if (pne g w β pl).1 = true then pl else pl + 1) := by
  rw [pq, if_pos h]
/-- the events lead to what is to be derived -/
def pC (g : GT) : List (Bool × Nat) → List Nat → Prop
  | [], β => β = [16 + Gt g]
  | e :: es, β => (e.1 = false ∧ e.2 < 8 ∧ pC g es (e.2 :: β)) ∨ (e.1 = true ∧ e.2 < Gn g ∧ ∃ β', β = rh g e.2 ++ β' ∧ pC g es ((16 + Go g e.2) :: β'))
theorem pC_len {g : GT} (hg : GR g) : ∀ {es : List (Bool × Nat)} {β : List Nat}, pC g es β → β.length ≤ 1 + 5 * es.length
  | [], β, h => by
    have h' : β = [16 + Gt g] := h
    rw [h']; simp
  | e :: es, β, h => by
    rcases h with ⟨-, -, h⟩ | ⟨-, -, β', h1, h2⟩
    · have := pC_len hg h
      simp only [List.length_cons] at this ⊢; omega
    · have := pC_len hg h2
      have h5 := hg.2.2.2.1 e.2
      rw [h1, List.length_append, rh_len]
      simp only [List.length_cons] at this ⊢; omega
theorem pC_mem {g : GT} (hg : GR g) : ∀ {es : List (Bool × Nat)} {β : List Nat}, pC g es β → ∀ s, s ∈ β → s < 8 ∨ (16 ≤ s ∧ s < 32)
  | [], β, h, s, hs => by
    have h' : β = [16 + Gt g] := h
    rw [h', List.mem_singleton] at hs
    have := hg.2.1
    omega
  | e :: es, β, h, s, hs => by
    rcases h with ⟨-, -, h⟩ | ⟨-, -, β', h1, h2⟩
    · exact pC_mem hg h s (List.mem_cons_of_mem _ hs)
    · rw [h1, List.mem_append] at hs
      rcases hs with hs | hs
      · exact rh_mem hg hs
      · exact pC_mem hg h2 s (List.mem_cons_of_mem _ hs)
/-- one step more -/
theorem pC_step {g : GT} (hg : GR g) {w : Nat → Nat} {nw : Nat} (hw : SW w nw) {es : List (Bool × Nat)} {β : List Nat} {pl : Nat} (h : pC g es β) (hp : pl ≤ nw) (hs : pst g w β pl = -2) : pC g (pne g w β pl :: es) (pnb g (pne g w β pl) β) ∧ (if (pne g w β pl).1 = true then pl else pl + 1) ≤ nw := by
  cases β with
  | nil =>
    have hs' : (if w pl = 8 then (-1 : Int) else (pl : Int)) = -2 := hs
    split at hs' <;> omega
  | cons s β =>
    have hs' : (if s < 16 then (if s = w pl then (-2 : Int) else (pl : Int)) else if zpl g (s - 16) (w pl) = -1 then (pl : Int) else -2) = -2 := hs
    have hm := pC_mem hg h s (List.mem_cons_self ..)
    by_cases c : s < 16
    · have e : pne g w (s :: β) pl = (false, s) := if_pos c
      rw [if_pos c] at hs'
      have hsw : s = w pl := by
        apply Classical.byContradiction; intro z
        rw [if_neg z] at hs'; omega
      rw [e]
      refine ⟨Or.inl ⟨rfl, by dsimp only; omega, ?_⟩, ?_⟩
      · show pC g es (s :: (if false = true then _ else β)); rw [if_neg (by decide)]; exact h
      · rw [if_neg (by simp)]; have := hw.lt (i := pl) (by omega); omega
    · have e : pne g w (s :: β) pl = (true, (zpl g (s - 16) (w pl)).toNat) := if_neg c
      rw [if_neg c] at hs'
      have hne : zpl g (s - 16) (w pl) ≠ -1 := fun z => by rw [if_pos z] at hs'; omega
      rw [e]
      rcases zpl_rg g (s - 16) (w pl) with ⟨z, -⟩ | ⟨p, z, z2, z3⟩
      · exact absurd z hne
      · rw [z, Int.toNat_natCast]
        refine ⟨Or.inr ⟨rfl, z2, β, rfl, ?_⟩, ?_⟩
        · have e16 : 16 + Go g (true, p).2 = s := by show 16 + Go g p = s; omega
          rw [e16]; exact h
        · rw [if_pos rfl]; exact hp
/-! the values, gathered from the last event back -/
/-- the sum over the parts: all values on the stack -/
def vR : Nat → Nat → List Nat → Nat × List Nat
  | 0, _, V => (0, V)
  | _ + 1, _, [] => (0, [])
  | m + 1, i, v :: V => ((i + 1) * v + (vR m (i + 1) V).1, (vR m (i + 1) V).2)
/-- the same, the terminals' values not on the stack -/
def vC : List Nat → Nat → List Nat → Nat × List Nat
  | [], _, V => (0, V)
  | s :: l, i, V => if s < 8 then ((i + 1) * (s + 1) + (vC l (i + 1) V).1, (vC l (i + 1) V).2) else
    match V with
    | [] => (0, [])
    | v :: V' => ((i + 1) * v + (vC l (i + 1) V').1, (vC l (i + 1) V').2)
def gR (g : GT) : List (Bool × Nat) → List Nat → List Nat
  | [], V => V
  | e :: es, V => if e.1 = true then gR g es (((e.2 + 1 + (vR (Gl g e.2) 0 V).1) % 1009) :: (vR (Gl g e.2) 0 V).2) else gR g es ((e.2 + 1) :: V)
def gC (g : GT) : List Nat → List Nat → List Nat
  | [], V => V
  | q :: qs, V => gC g qs (((q + 1 + (vC (rh g q) 0 V).1) % 1009) :: (vC (rh g q) 0 V).2)
def prs : List (Bool × Nat) → List Nat
  | [] => []
  | e :: es => if e.1 = true then e.2 :: prs es else prs es
theorem prs_len : ∀ es : List (Bool × Nat), (prs es).length ≤ es.length
  | [] => Nat.le_refl _
  | e :: es => by
    have := prs_len es
    unfold prs
    split
    · simp only [List.length_cons]; omega
    · simp only [List.length_cons]; omega
/-- values of what is to be derived: all of them, and those of nonterminals -/
def con : List Nat → List Nat → List Nat → Prop
  | [], V, V' => V = [] ∧ V' = []
  | s :: β, V, V' => ∃ v V1, V = v :: V1 ∧ v < 1009 ∧ ((s < 8 ∧ v = s + 1 ∧ con β V1 V') ∨ (¬ s < 8 ∧ ∃ V2, V' = v :: V2 ∧ con β V1 V2))
theorem con_len : ∀ {β V V' : List Nat}, con β V V' → V.length = β.length ∧ V'.length ≤ β.length ∧ (∀ v, v ∈ V → v < 1009) ∧ ∀ v, v ∈ V' → v < 1009
  | [], V, V', h => by
    obtain ⟨h1, h2⟩ := h
    rw [h1, h2]; simp
  | s :: β, V, V', h => by
    obtain ⟨v, V1, h1, hv, h2⟩ := h
    rcases h2 with ⟨-, -, h3⟩ | ⟨-, V2, h3, h4⟩
    · obtain ⟨a, b, c, d⟩ := con_len h3
      rw [h1]
      refine ⟨by simp only [List.length_cons]; omega, by simp only [List.length_cons]; omega, fun x hx => ?_, d⟩
      rcases List.mem_cons.mp hx with z | z
      · rw [z]; exact hv
      · exact c x z
    · obtain ⟨a, b, c, d⟩ := con_len h4
      rw [h1, h3]
      refine ⟨by simp only [List.length_cons]; omega, by simp only [List.length_cons]; omega, fun x hx => ?_, fun x hx => ?_⟩
      · rcases List.mem_cons.mp hx with z | z
        · rw [z]; exact hv
        · exact c x z
      · rcases List.mem_cons.mp hx with z | z
        · rw [z]; exact hv
        · exact d x z
theorem con_sum : ∀ (l : List Nat) (i : Nat) {β V V' : List Nat}, con (l ++ β) V V' → (vR l.length i V).1 = (vC l i V').1 ∧ con β (vR l.length i V).2 (vC l i V').2
  | [], i, β, V, V', h => ⟨rfl, h⟩
  | s :: l, i, β, V, V', h => by
    obtain ⟨v, V1, h1, hv, h2⟩ := h
    rw [h1]
    have e1 : vR (s :: l).length i (v :: V1) = ((i + 1) * v + (vR l.length (i + 1) V1).1, (vR l.length (i + 1) V1).2) := rfl
    rw [e1]
    rcases h2 with ⟨hs, hv2, h3⟩ | ⟨hs, V2, h3, h4⟩
    · have ih := con_sum l (i + 1) h3
      have e2 : vC (s :: l) i V' = ((i + 1) * (s + 1) + (vC l (i + 1) V').1, (vC l (i + 1) V').2) := by rw [vC.eq_def]; dsimp only; rw [if_pos hs]
      rw [e2]
      refine ⟨?_, ih.2⟩
      dsimp only
      rw [ih.1, hv2]
    · have ih := con_sum l (i + 1) h4
      have e2 : vC (s :: l) i V' = ((i + 1) * v + (vC l (i + 1) V2).1, (vC l (i + 1) V2).2) := by rw [h3, vC.eq_def]; dsimp only; rw [if_neg hs]
      rw [e2]
      refine ⟨?_, ih.2⟩
      dsimp only
      rw [ih.1]
theorem con_g {g : GT} (hg : GR g) : ∀ {es : List (Bool × Nat)} {β V V' : List Nat}, pC g es β → con β V V' → ∃ v, gR g es V = [v] ∧ gC g (prs es) V' = [v]
  | [], β, V, V', h, hc => by
    have h' : β = [16 + Gt g] := h
    rw [h'] at hc
    obtain ⟨v, V1, h1, -, h2⟩ := hc
    rcases h2 with ⟨h3, -⟩ | ⟨-, V2, h3, h4, h5⟩
    · omega
    · exact ⟨v, by rw [h1, h4]; rfl, by rw [h3, h5]; rfl⟩
  | e :: es, β, V, V', h, hc => by
    rcases h with ⟨e1, e2, h⟩ | ⟨e1, e2, β', h1, h2⟩
    · have a1 : gR g (e :: es) V = gR g es ((e.2 + 1) :: V) := by rw [gR, if_neg (by rw [e1]; decide)]
      have a2 : prs (e :: es) = prs es := by rw [prs, if_neg (by rw [e1]; decide)]
      rw [a1, a2]
      exact con_g hg h ⟨e.2 + 1, V, rfl, by omega, Or.inl ⟨e2, rfl, hc⟩⟩
    · have a1 : gR g (e :: es) V = gR g es (((e.2 + 1 + (vR (Gl g e.2) 0 V).1) % 1009) :: (vR (Gl g e.2) 0 V).2) := by rw [gR, if_pos e1]
      have a2 : prs (e :: es) = e.2 :: prs es := by rw [prs, if_pos e1]
      rw [h1] at hc
      have hs := con_sum (rh g e.2) 0 hc
      rw [rh_len] at hs
      rw [a1, a2, gC, hs.1]
      exact con_g hg h2 ⟨_, _, rfl, Nat.mod_lt _ (by decide), Or.inr ⟨by omega, _, rfl, hs.2⟩⟩
theorem vR_le : ∀ (m i : Nat) (V : List Nat), (∀ v, v ∈ V → v < 1009) → i + m ≤ 5 → (vR m i V).1 ≤ 5045 * m ∧ (vR m i V).2.length ≤ V.length
  | 0, _, _, _, _ => ⟨Nat.le_refl _, Nat.le_refl _⟩
  | m + 1, i, [], _, _ => ⟨Nat.zero_le _, Nat.le_refl _⟩
  | m + 1, i, v :: V, h, hi => by
    have ih := vR_le m (i + 1) V (fun x hx => h x (List.mem_cons_of_mem _ hx)) (by omega)
    have hv := h v (List.mem_cons_self ..)
    have h3 : (i + 1) * v ≤ 5 * 1009 := Nat.mul_le_mul (by omega) (by omega)
    have e1 : vR (m + 1) i (v :: V) = ((i + 1) * v + (vR m (i + 1) V).1, (vR m (i + 1) V).2) := rfl
    rw [e1]
    dsimp only
    simp only [List.length_cons]
    omega
