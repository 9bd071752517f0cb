/-! ===== what the predictive table accepts is derived, with the value that it finds ===== -/
/-- the events lead to what is to be derived, with so many terminals taken -/
def pX (g : GT) (w : Nat → Nat) : List (Bool × Nat) → List Nat → Nat → Prop
  | [], β, pl => β = [16 + Gt g] ∧ pl = 0
  | e :: es, β, pl => (e.1 = false ∧ e.2 < 8 ∧ ∃ pl', pl = pl' + 1 ∧ w pl' = e.2 ∧ pX g w es (e.2 :: β) pl') ∨ (e.1 = true ∧ e.2 < Gn g ∧ ∃ β', β = rh g e.2 ++ β' ∧ pX g w es ((16 + Go g e.2) :: β') pl)
/-- symbols over what is left of the sentence, with values -/
def SV (g : GT) (w : Nat → Nat) (nw : Nat) : List Nat → Nat → List Nat → Prop
  | [], pl, V => pl = nw ∧ V = []
  | s :: β, pl, V => ∃ m v V', V = v :: V' ∧ pl ≤ m ∧ syD w (Dv g w) s pl m v ∧ SV g w nw β m V'
theorem pst_nil {g : GT} {w : Nat → Nat} {pl : Nat} : pst g w [] pl = if w pl = 8 then -1 else (pl : Int) := rfl
theorem pst_cons {g : GT} {w : Nat → Nat} {pl s : Nat} {β : List Nat} : pst g w (s :: β) pl = if s < 16 then (if s = w pl then -2 else (pl : Int)) else if zpl g (s - 16) (w pl) = -1 then (pl : Int) else -2 := rfl
section LP
variable {g : GT} {w : Nat → Nat} {nw : Nat}
theorem SV_rh {q : Nat} : ∀ (m k pl0 pl n0 : Nat) {β V : List Nat}, k + m = Gl g q → prD g w (Dv g w) q k pl0 pl n0 → SV g w nw ((rh g q).drop k ++ β) pl V → ∃ pl1, prD g w (Dv g w) q (Gl g q) pl0 pl1 (n0 + (vR m k V).1) ∧ SV g w nw β pl1 (vR m k V).2
  | 0, k, pl0, pl, n0, β, V, hk, hp, hV => by
    have e : k = Gl g q := by omega
    subst e
    have hd : (rh g q).drop (Gl g q) = [] := List.drop_eq_nil_of_le (by rw [rh_len]; omega)
    rw [hd, List.nil_append] at hV
    exact ⟨pl, hp, hV⟩
  | m + 1, k, pl0, pl, n0, β, V, hk, hp, hV => by
    rw [rh_drop (by omega), List.cons_append] at hV
    obtain ⟨m1, v, V', rfl, h1, h2, h3⟩ := hV
    have hp' : prD g w (Dv g w) q (k + 1) pl0 m1 (n0 + (k + 1) * v) := ⟨pl, n0, v, prD_le hp, h1, hp, h2, rfl⟩
    obtain ⟨pl1, a1, a2⟩ := SV_rh m (k + 1) pl0 m1 _ (by omega) hp' h3
    refine ⟨pl1, ?_, a2⟩
    rw [show n0 + (vR (m + 1) k (v :: V')).1 = n0 + (k + 1) * v + (vR m (k + 1) V').1 by show n0 + ((k + 1) * v + (vR m (k + 1) V').1) = _; omega]
    exact a1
theorem pX_val (hg : GR g) : ∀ {es : List (Bool × Nat)} {β V : List Nat} {pl : Nat}, pX g w es β pl → SV g w nw β pl V → ∃ v, gR g es V = [v] ∧ Dv g w (Gt g) 0 nw v
  | [], β, V, pl, h, hV => by
    obtain ⟨rfl, rfl⟩ := h
    obtain ⟨m, v, V', rfl, -, h2, rfl, rfl⟩ := hV
    refine ⟨v, rfl, ?_⟩
    rcases h2 with ⟨a1, -⟩ | ⟨-, a2⟩
    · omega
    · rw [show 16 + Gt g - 16 = Gt g by omega] at a2; exact a2
  | e :: es, β, V, pl, h, hV => by
    rcases h with ⟨h1, h2, pl', rfl, h3, h4⟩ | ⟨h1, h2, β', rfl, h4⟩
    · have := pX_val hg h4 (V := (e.2 + 1) :: V) ⟨pl' + 1, e.2 + 1, V, rfl, by omega, Or.inl ⟨by omega, rfl, h3, rfl⟩, hV⟩
      obtain ⟨v, e1, e2⟩ := this
      refine ⟨v, ?_, e2⟩
      show (if e.1 = true then _ else gR g es ((e.2 + 1) :: V)) = [v]
      rw [if_neg (by rw [h1]; decide)]
      exact e1
    · obtain ⟨pl1, a1, a2⟩ := SV_rh (Gl g e.2) 0 pl pl 0 (by omega) ⟨rfl, rfl⟩ (β := β') hV
      rw [Nat.zero_add] at a1
      have ho := hg.2.2.1 e.2
      have hd : Dv g w (Go g e.2) pl pl1 ((e.2 + 1 + (vR (Gl g e.2) 0 V).1) % 1009) := Dv_cl _ h2 _ _ _ a1
      have := pX_val hg h4 (V := ((e.2 + 1 + (vR (Gl g e.2) 0 V).1) % 1009) :: (vR (Gl g e.2) 0 V).2) ⟨pl1, _, _, rfl, prD_le a1, Or.inr ⟨by omega, by rw [show 16 + Go g e.2 - 16 = Go g e.2 by omega]; exact hd⟩, a2⟩
      obtain ⟨v, e1, e2⟩ := this
      refine ⟨v, ?_, e2⟩
      show (if e.1 = true then gR g es (((e.2 + 1 + (vR (Gl g e.2) 0 V).1) % 1009) :: (vR (Gl g e.2) 0 V).2) else _) = [v]
      rw [if_pos h1]
      exact e1
/-- one step more -/
theorem pX_step {es : List (Bool × Nat)} {β : List Nat} {pl : Nat} (h : pX g w es β pl) (hm : ∀ s, s ∈ β → s < 8 ∨ (16 ≤ s ∧ s < 32)) (hs : pst g w β pl = -2) : pX g w (pne g w β pl :: es) (pnb g (pne g w β pl) β) (if (pne g w β pl).1 = true then pl else pl + 1) := by
  cases β with
  | nil =>
    rw [pst_nil] at hs
    split at hs
    · exact absurd hs (by decide)
    · have hs : (pl : Int) = -2 := hs
      omega
  | cons s β =>
    rw [pst_cons] at hs
    by_cases c : s < 16
    · rw [if_pos c] at hs
      by_cases c2 : s = w pl
      · have e : pne g w (s :: β) pl = (false, s) := if_pos c
        rw [e]
        show pX g w ((false, s) :: es) β (pl + 1)
        refine Or.inl ⟨rfl, ?_, pl, rfl, c2.symm, h⟩
        rcases hm s List.mem_cons_self with q | q
        · exact q
        · omega
      · rw [if_neg c2] at hs
        have hs : (pl : Int) = -2 := hs
        omega
    · rw [if_neg c] at hs
      by_cases c2 : zpl g (s - 16) (w pl) = -1
      · rw [if_pos c2] at hs
        have hs : (pl : Int) = -2 := hs
        omega
      · have e : pne g w (s :: β) pl = (true, (zpl g (s - 16) (w pl)).toNat) := if_neg c
        rw [e]
        rcases zpl_rg g (s - 16) (w pl) with ⟨z, -⟩ | ⟨p, z, hp, ho⟩
        · exact absurd z c2
        · rw [z, Int.toNat_natCast]
          show pX g w ((true, p) :: es) (rh g p ++ β) pl
          refine Or.inr ⟨rfl, hp, β, rfl, ?_⟩
          show pX g w es ((16 + Go g p) :: β) pl
          rw [ho, show 16 + (s - 16) = s by omega]
          exact h
theorem pX_mem (hg : GR g) : ∀ {es : List (Bool × Nat)} {β : List Nat} {pl : Nat}, pX g w es β pl → ∀ s, s ∈ β → s < 8 ∨ (16 ≤ s ∧ s < 32)
  | [], β, pl, h, s, hs => by
    rw [h.1] at hs
    have := List.mem_singleton.mp hs
    have := hg.2.1
    omega
  | e :: es, β, pl, h, s, hs => by
    rcases h with ⟨h1, h2, pl', rfl, h3, h4⟩ | ⟨h1, h2, β', rfl, h4⟩
    · exact pX_mem hg h4 s (List.mem_cons_of_mem _ hs)
    · rcases List.mem_append.mp hs with z | z
      · exact rh_mem hg z
      · exact pX_mem hg h4 s (List.mem_cons_of_mem _ z)
theorem pq_sound (hg : GR g) (hw : SW w nw) : ∀ (r : Nat) {β : List Nat} {es : List (Bool × Nat)} {pl : Nat}, pX g w es β pl → pl ≤ nw → (pq g w r β es pl).1 = -1 → ∃ n : Nat, pval g (pq g w r β es pl).2 = (n : Int) ∧ Dv g w (Gt g) 0 nw n := by
  have fin : ∀ {β : List Nat} {es : List (Bool × Nat)} {pl : Nat}, pX g w es β pl → pl ≤ nw → pst g w β pl = -1 → ∃ n : Nat, pval g es = (n : Int) ∧ Dv g w (Gt g) 0 nw n := by
    intro β es pl h hp hs
    cases β with
    | nil =>
      rw [pst_nil] at hs
      have h8 : w pl = 8 := by
        refine Classical.byContradiction fun c => ?_
        rw [if_neg c] at hs
        have hs : (pl : Int) = -1 := hs
        omega
      have hn : pl = nw := by
        refine Classical.byContradiction fun c => ?_
        have := hw.2.1 pl (by omega)
        omega
      obtain ⟨v, e1, e2⟩ := pX_val (nw := nw) hg h (V := []) ⟨hn, rfl⟩
      refine ⟨v, ?_, e2⟩
      unfold pval
      rw [e1]
      rfl
    | cons s β =>
      exfalso
      rw [pst_cons] at hs
      repeat' split at hs
      all_goals first | exact absurd hs (by decide) | (have hs : (pl : Int) = -1 := hs; omega)
  intro r
  induction r with
  | zero =>
    intro β es pl h hp e
    by_cases c : pst g w β pl = -2
    · rw [pq_0 c] at e
      have e : (-3 : Int) = -1 := e
      exact absurd e (by decide)
    · rw [pq_end 0 c] at e ⊢
      exact fin h hp e
  | succ r ih =>
    intro β es pl h hp e
    by_cases c : pst g w β pl = -2
    · rw [pq_s r c] at e ⊢
      refine ih (pX_step h (pX_mem hg h) c) ?_ e
      have h1 := pX_step h (pX_mem hg h) c
      split
      · exact hp
      · next hne =>
        cases β with
        | nil =>
          rw [pst_nil] at c
          split at c
          · exact absurd c (by decide)
          · have c : (pl : Int) = -2 := c
            omega
        | cons s β =>
          by_cases c3 : s < 16
          · rw [pst_cons] at c
            rw [if_pos c3] at c
            by_cases c2 : s = w pl
            · have := hw.lt (i := pl) (by
                rcases pX_mem hg h s List.mem_cons_self with q | q
                · omega
                · omega)
              omega
            · rw [if_neg c2] at c
              have c : (pl : Int) = -2 := c
              omega
          · exact absurd (show (pne g w (s :: β) pl).1 = true by rw [show pne g w (s :: β) pl = (true, (zpl g (s - 16) (w pl)).toNat) from if_neg c3]) hne
    · rw [pq_end (r + 1) c] at e ⊢
      exact fin h hp e
theorem prun_sound (hg : GR g) (hw : SW w nw) (h : (prun g w).1 = -1) : ∃ n : Nat, pval g (prun g w).2 = (n : Int) ∧ Dv g w (Gt g) 0 nw n := pq_sound hg hw 300 (β := [16 + Gt g]) (es := []) (pl := 0) ⟨rfl, rfl⟩ (Nat.zero_le _) h
end LP
