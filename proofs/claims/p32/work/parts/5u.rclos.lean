/-! ===== the reference: numbers of items; closures ===== -/
def frm (g : GT) : Nat → Nat
  | 0 => 0
  | p + 1 => frm g p + (Gl g p + 1)
def fo (g : GT) (p : Nat) : Nat := if p = 24 then frm g (Gn g) else frm g p
def ar (g : GT) (o : Nat) (p k : Nat) : Nat := o + (fo g p + k)
theorem frm_le {g : GT} : ∀ {p q : Nat}, p < q → frm g p + (Gl g p + 1) ≤ frm g q
  | p, 0, h => absurd h (by omega)
  | p, q + 1, h => by
    by_cases e : p = q
    · subst e; exact Nat.le_refl _
    · have := frm_le (g := g) (show p < q by omega)
      show frm g p + (Gl g p + 1) ≤ frm g q + (Gl g q + 1); omega
theorem frm_6 {g : GT} (hg : GR g) : ∀ p, frm g p ≤ 6 * p
  | 0 => Nat.le_refl _
  | p + 1 => by have := frm_6 hg p; have := hg.2.2.2.1 p; show frm g p + (Gl g p + 1) ≤ 6 * (p + 1); omega
theorem fo_rg {g : GT} (hg : GR g) {p k : Nat} (h : vI g p k) : fo g p + k < frm g (Gn g) + 2 ∧ frm g (Gn g) ≤ 144 := by
  have h1 := frm_6 hg (Gn g)
  have h2 := hg.1
  have h3 := h.2
  unfold fo
  by_cases e : p = 24
  · rw [if_pos e]; rw [e, gX_l24] at h3; omega
  · rw [if_neg e]
    rw [gX_l e] at h3
    have hp : p < Gn g := h.1.elim id (fun z => absurd z e)
    have := frm_le (g := g) hp; omega
theorem ar_inj {g : GT} (o : Nat) : INJ g (ar g o) := fun p k p' k' h1 h2 e => by
  have a1 := h1.2; have a2 := h2.2
  unfold ar fo at e
  by_cases e1 : p = 24
  · rw [if_pos e1] at e
    by_cases e2 : p' = 24
    · rw [if_pos e2] at e; omega
    · rw [if_neg e2] at e
      rw [gX_l e2] at a2
      have hp : p' < Gn g := h2.1.elim id (fun z => absurd z e2)
      have := frm_le (g := g) hp; omega
  · rw [if_neg e1] at e
    rw [gX_l e1] at a1
    have hp : p < Gn g := h1.1.elim id (fun z => absurd z e1)
    by_cases e2 : p' = 24
    · rw [if_pos e2] at e
      have := frm_le (g := g) hp; omega
    · rw [if_neg e2] at e
      rw [gX_l e2] at a2
      have hp' : p' < Gn g := h2.1.elim id (fun z => absurd z e2)
      by_cases c : p < p'
      · have := frm_le (g := g) c; omega
      · by_cases c2 : p' < p
        · have := frm_le (g := g) c2; omega
        · have : p = p' := by omega
          subst this; omega
section RM
variable {u : Nat} {n : Nat} {L : Nat → Nat → Int} {g : GT} {N : Nat → Prop} {F : Nat → Nat → Prop}
theorem or_0 {x : Int} (h : gi_ok x) : gi_or x 0 = x := (bt_or_left h).mpr (fun i _ q => by rw [bt_zero] at q; exact absurd q (by decide))
theorem bt_511i {x : Int} {t : Nat} : bt (gi_and x 511) t = true ↔ bt x t = true ∧ t < 9 := by
  rw [bt_and, Bool.and_eq_true, bt_511, decide_eq_true_eq]
theorem and512_rg {x : Int} : gi_ok (gi_and x 512) := bt_ok_and _ _
end RM
