/-! ===== the reference: a cell ===== -/
/-- the last terminal of a right ahead of a place, or -1 -/
def zlt (g : GT) (q : Nat) : Nat → Int
  | 0 => -1
  | k + 1 => if Gs g q k < 16 then (Gs g q k : Int) else zlt g q k
theorem zlt_s {g : GT} {q k : Nat} : zlt g q (k + 1) = if Gs g q k < 16 then (Gs g q k : Int) else zlt g q k := rfl
theorem zlt_rg {g : GT} (hg : GR g) {q : Nat} : ∀ k, k ≤ Gl g q → -1 ≤ zlt g q k ∧ zlt g q k < 8
  | 0, _ => by show -1 ≤ (-1 : Int) ∧ (-1 : Int) < 8; omega
  | k + 1, h => by
    rw [zlt_s]
    split
    · have := hg.2.2.2.2.2 q k (by omega); omega
    · exact zlt_rg hg k (by omega)
def zlv (lv : Nat → Int) (x : Int) : Int := if x < 0 then 0 else lv x.toNat
def LVR (lv sd : Nat → Int) : Prop := ∀ y, y < 8 → (0 ≤ lv y ∧ lv y ≤ 5) ∧ 0 ≤ sd y ∧ sd y ≤ 2
/-- the level of a production -/
def zlp2 (g : GT) (lv : Nat → Int) (q : Int) : Int := zlv lv (zlt g q.toNat (Gl g q.toNat))
noncomputable def zst (g : GT) (kd : Nat) (lv : Nat → Int) (t y : Nat) : Bool := zsh g kd t y && !(zac g kd t y) && decide (zct g kd t y = 1) && decide (0 < lv y) && decide (0 < zlp2 g lv (zlo g kd t y))
/-- what is done in a cell: 25 is the end, 24 a step, -1 nothing -/
noncomputable def zat (g : GT) (kd : Nat) (lv sd : Nat → Int) (t y : Nat) : Int :=
  if zst g kd lv t y = true then (if zlp2 g lv (zlo g kd t y) = lv y then (if sd y = 2 then -1 else if sd y = 0 then zlo g kd t y else 24) else if zlp2 g lv (zlo g kd t y) < lv y then 24 else zlo g kd t y)
  else if zac g kd t y = true then 25 else if zsh g kd t y = true then 24 else zlo g kd t y
def zcd (x : Int) : Int := if x = 25 then 1000 else if x = 24 then 2000 else x
theorem zcd_25 : zcd 25 = 1000 := if_pos rfl
theorem zcd_24 : zcd 24 = 2000 := by unfold zcd; rw [if_neg (by decide), if_pos rfl]
theorem zcd_m : zcd (-1) = -1 := by unfold zcd; rw [if_neg (by decide), if_neg (by decide)]
theorem b01_t : b01 true = 1 := if_pos rfl
theorem b01_f : b01 false = 0 := if_neg (by decide)
noncomputable def ztt (g : GT) (kd t y : Nat) : Int := b01 (zsh g kd t y) + b01 (zac g kd t y) + (zct g kd t y : Int)
noncomputable def zce (g : GT) (kd : Nat) (lv sd : Nat → Int) (t y : Nat) : Int := (if zst g kd lv t y = true then 20000 else if ztt g kd t y ≤ 1 then 0 else 10000) + zcd (zat g kd lv sd t y) + 1
theorem zlo_rg {g : GT} {kd t y : Nat} : (zlo g kd t y = -1 ∧ zct g kd t y = 0) ∨ ∃ p : Nat, zlo g kd t y = (p : Int) ∧ p < Gn g ∧ zrd g kd t p y ∧ 1 ≤ zct g kd t y := by
  rcases zl_rg (f := zfr g kd t y) (N := Gn g) (Gn g) (Nat.le_refl _) with h | ⟨p, h1, h2, h3, h4⟩
  · exact Or.inl h
  · exact Or.inr ⟨p, h1, h2, zdb_t.mp h3, h4⟩
section RC_
variable {u : Nat} {n : Nat} {L : Nat → Nat → Int} {g : GT}
theorem zlp2_rg {lv sd : Nat → Int} (hg : GR g) (hl : LVR lv sd) (q : Nat) : 0 ≤ zlp2 g lv (q : Int) ∧ zlp2 g lv (q : Int) ≤ 5 := by
  unfold zlp2 zlv
  have := zlt_rg hg (q := ((q : Int)).toNat) (Gl g ((q : Int)).toNat) (Nat.le_refl _)
  split
  · omega
  · have := (hl (zlt g ((q : Int)).toNat (Gl g ((q : Int)).toNat)).toNat (by omega)).1; omega
end RC_
