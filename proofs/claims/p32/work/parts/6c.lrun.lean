/-! ===== runs of the tables of states, as functions ===== -/
def up (f : Nat → Nat) (k x : Nat) : Nat → Nat := fun j => if j = k then x else f j
theorem up_eq {f : Nat → Nat} {k x : Nat} : up f k x k = x := if_pos rfl
theorem up_ne {f : Nat → Nat} {k x j : Nat} (h : j ≠ k) : up f k x j = f j := if_neg h
/-- the values of the first m parts, the first one's at b -/
def ws (wo : Nat → Nat) (b : Nat) : Nat → Nat
  | 0 => 0
  | m + 1 => ws wo b m + (m + 1) * wo (b + m)
theorem ws_s {wo : Nat → Nat} {b m : Nat} : ws wo b (m + 1) = ws wo b m + (m + 1) * wo (b + m) := rfl
theorem ws_le {wo : Nat → Nat} {b : Nat} : ∀ m, m ≤ 5 → (∀ i, i < m → wo (b + i) < 1009) → ws wo b m ≤ 5045 * m
  | 0, _, _ => Nat.le_refl _
  | m + 1, h, q => by
    have h1 := ws_le m (by omega) (fun i hi => q i (by omega))
    have h2 := q m (by omega)
    have h3 : (m + 1) * wo (b + m) ≤ 5 * 1009 := Nat.mul_le_mul (by omega) (by omega)
    rw [ws_s]; omega
theorem ws_cast (m x : Nat) : ((m : Int) + 1) * (x : Int) = (((m + 1) * x : Nat) : Int) := by
  rw [Int.natCast_mul, Int.natCast_add]; rfl
/-- the sentence: its terminals, and the end behind them -/
def SW (w : Nat → Nat) (nw : Nat) : Prop := nw ≤ 12 ∧ (∀ i, i < nw → w i < 8) ∧ ∀ i, nw ≤ i → w i = 8
theorem SW.le {w : Nat → Nat} {nw : Nat} (h : SW w nw) (i : Nat) : w i < 9 := by
  by_cases c : i < nw
  · have := h.2.1 i c; omega
  · have := h.2.2 i (by omega); omega
theorem SW.lt {w : Nat → Nat} {nw i : Nat} (h : SW w nw) (q : w i < 8) : i < nw := by
  apply Classical.byContradiction; intro z
  have := h.2.2 i (by omega); omega
noncomputable def lrq (g : GT) (kd : Nat) (lv sd : Nat → Int) (w : Nat → Nat) : Nat → (Nat → Nat) → (Nat → Nat) → Nat → Nat → Int × Int
  | 0, st, wo, t, pl => if zat g kd lv sd (st t) (w pl) = 25 then (-1, (wo t : Int)) else if zat g kd lv sd (st t) (w pl) = -1 then ((pl : Int), 0) else (-3, 0)
  | r + 1, st, wo, t, pl => if zat g kd lv sd (st t) (w pl) = 25 then (-1, (wo t : Int)) else if zat g kd lv sd (st t) (w pl) = -1 then ((pl : Int), 0)
    else if zat g kd lv sd (st t) (w pl) = 24 then lrq g kd lv sd w r (up st (t + 1) (Sm (zS g (kb kd)) (st t) (w pl)).toNat) (up wo (t + 1) (w pl + 1)) (t + 1) (pl + 1)
    else lrq g kd lv sd w r (up st (t + 1 - Gl g (zat g kd lv sd (st t) (w pl)).toNat) (Sm (zS g (kb kd)) (st (t - Gl g (zat g kd lv sd (st t) (w pl)).toNat)) (8 + Go g (zat g kd lv sd (st t) (w pl)).toNat)).toNat) (up wo (t + 1 - Gl g (zat g kd lv sd (st t) (w pl)).toNat) (((zat g kd lv sd (st t) (w pl)).toNat + 1 + ws wo (t + 1 - Gl g (zat g kd lv sd (st t) (w pl)).toNat) (Gl g (zat g kd lv sd (st t) (w pl)).toNat)) % 1009)) (t + 1 - Gl g (zat g kd lv sd (st t) (w pl)).toNat) pl
section LQ
variable {g : GT} {kd : Nat} {lv sd : Nat → Int} {w st wo : Nat → Nat} {t pl : Nat}
theorem lrq_25 (r : Nat) (h : zat g kd lv sd (st t) (w pl) = 25) : lrq g kd lv sd w r st wo t pl = (-1, (wo t : Int)) := by
  cases r <;> (unfold lrq; rw [if_pos h])
theorem lrq_m (r : Nat) (h : zat g kd lv sd (st t) (w pl) = -1) : lrq g kd lv sd w r st wo t pl = ((pl : Int), 0) := by
  cases r <;> (unfold lrq; rw [if_neg (by rw [h]; decide), if_pos h])
theorem lrq_0 (h1 : zat g kd lv sd (st t) (w pl) ≠ 25) (h2 : zat g kd lv sd (st t) (w pl) ≠ -1) : lrq g kd lv sd w 0 st wo t pl = (-3, 0) := by
  unfold lrq; rw [if_neg h1, if_neg h2]
theorem lrq_24 (r : Nat) {t0 : Nat} (h : zat g kd lv sd (st t) (w pl) = 24) (hm : Sm (zS g (kb kd)) (st t) (w pl) = (t0 : Int)) : lrq g kd lv sd w (r + 1) st wo t pl = lrq g kd lv sd w r (up st (t + 1) t0) (up wo (t + 1) (w pl + 1)) (t + 1) (pl + 1) := by
  rw [lrq, if_neg (by rw [h]; decide), if_neg (by rw [h]; decide), if_pos h, hm, Int.toNat_natCast]
theorem lrq_q (r : Nat) {q t0 : Nat} (h : zat g kd lv sd (st t) (w pl) = (q : Int)) (hq : q < 24) (hm : Sm (zS g (kb kd)) (st (t - Gl g q)) (8 + Go g q) = (t0 : Int)) : lrq g kd lv sd w (r + 1) st wo t pl = lrq g kd lv sd w r (up st (t + 1 - Gl g q) t0) (up wo (t + 1 - Gl g q) ((q + 1 + ws wo (t + 1 - Gl g q) (Gl g q)) % 1009)) (t + 1 - Gl g q) pl := by
  have e : (zat g kd lv sd (st t) (w pl)).toNat = q := by rw [h, Int.toNat_natCast]
  rw [lrq, if_neg (by omega), if_neg (by omega), if_neg (by omega), e, hm, Int.toNat_natCast]
/-- what may be done in a cell -/
theorem zat_c {t y : Nat} (hg : GR g) : zat g kd lv sd t y = 25 ∨ zat g kd lv sd t y = -1 ∨ (zat g kd lv sd t y = 24 ∧ zsh g kd t y = true) ∨ ∃ q : Nat, zat g kd lv sd t y = (q : Int) ∧ q < Gn g ∧ zR g (kb kd) t q (Gl g q) 9 := by
  have h24 := hg.1
  have hlo : zlo g kd t y = -1 ∨ ∃ q : Nat, zlo g kd t y = (q : Int) ∧ q < Gn g ∧ zR g (kb kd) t q (Gl g q) 9 := by
    rcases zlo_rg (g := g) (kd := kd) (t := t) (y := y) with ⟨z, -⟩ | ⟨q, z1, z2, z3, -⟩
    · exact Or.inl z
    · have h1 := z3.1
      rw [gX_l (show q ≠ 24 by omega)] at h1
      exact Or.inr ⟨q, z1, z2, h1⟩
  unfold zat
  by_cases hz : zst g kd lv t y = true
  · have hs : zsh g kd t y = true := (zst_iff.mp hz).1
    rw [if_pos hz]
    split
    · split
      · exact Or.inr (Or.inl rfl)
      · split
        · exact Or.inr (hlo.elim Or.inl (fun z => Or.inr (Or.inr z)))
        · exact Or.inr (Or.inr (Or.inl ⟨rfl, hs⟩))
    · split
      · exact Or.inr (Or.inr (Or.inl ⟨rfl, hs⟩))
      · exact Or.inr (hlo.elim Or.inl (fun z => Or.inr (Or.inr z)))
  · rw [if_neg hz]
    split
    · exact Or.inl rfl
    · split
      · next hs => exact Or.inr (Or.inr (Or.inl ⟨rfl, hs⟩))
      · exact Or.inr (hlo.elim Or.inl (fun z => Or.inr (Or.inr z)))
/-- the stack is a way through the states -/
def LI (g : GT) (kd : Nat) (st wo : Nat → Nat) (t : Nat) : Prop := st 0 = 0 ∧ (∀ i, i ≤ t → st i < Sn (zS g (kb kd)) ∧ wo i < 1009) ∧ ∀ i, i < t → ∃ x, x < 24 ∧ Sm (zS g (kb kd)) (st i) x = (st (i + 1) : Int)
theorem LI.push (h : LI g kd st wo t) {s x t0 v : Nat} (hs : s ≤ t) (hx : x < 24) (hm : Sm (zS g (kb kd)) (st s) x = (t0 : Int)) (h0 : t0 < Sn (zS g (kb kd))) (hv : v < 1009) : LI g kd (up st (s + 1) t0) (up wo (s + 1) v) (s + 1) := by
  obtain ⟨h1, h2, h3⟩ := h
  refine ⟨by rw [up_ne (by omega)]; exact h1, fun i hi => ?_, fun i hi => ?_⟩
  · by_cases e : i = s + 1
    · rw [e, up_eq, up_eq]; exact ⟨h0, hv⟩
    · rw [up_ne e, up_ne e]; exact h2 i (by omega)
  · by_cases e : i = s
    · subst e
      rw [up_ne (by omega), up_eq]; exact ⟨x, hx, hm⟩
    · rw [up_ne (by omega), up_ne (by omega)]; exact h3 i (by omega)
theorem LI.item (hg : GR g) (hb : Sb (zS g (kb kd)) = false) : ∀ (k t p : Nat), LI g kd st wo t → zR g (kb kd) (st t) p k 9 → k ≤ t ∧ zR g (kb kd) (st (t - k)) p 0 9
  | 0, t, p, _, h => ⟨Nat.zero_le _, h⟩
  | k + 1, 0, p, hl, h => by
    rw [hl.1] at h
    exact (zR_0 hg hb h).elim
  | k + 1, t + 1, p, hl, h => by
    obtain ⟨x, hx, hm⟩ := hl.2.2 t (by omega)
    have h1 := zR_back hg hb (hl.2.1 t (by omega)).1 hx hm h
    have h2 := LI.item hg hb k t p ⟨hl.1, fun i hi => hl.2.1 i (by omega), fun i hi => hl.2.2 i (by omega)⟩ h1.2.1
    refine ⟨by omega, ?_⟩
    rw [show t + 1 - (k + 1) = t - k by omega]; exact h2.2
theorem LI.shift (hg : GR g) (hb : Sb (zS g (kb kd)) = false) (h : LI g kd st wo t) {y : Nat} (hs : zsh g kd (st t) y = true) : y < 8 ∧ ∃ t0 : Nat, Sm (zS g (kb kd)) (st t) y = (t0 : Int) ∧ t0 < Sn (zS g (kb kd)) ∧ LI g kd (up st (t + 1) t0) (up wo (t + 1) (y + 1)) (t + 1) := by
  obtain ⟨h8, hne⟩ := zdb_t.mp hs
  refine ⟨h8, ?_⟩
  rcases zS_go hg hb (h.2.1 t (Nat.le_refl _)).1 (x := y) (by omega) with ⟨z, -⟩ | ⟨t0, z1, z2, -⟩
  · exact absurd z hne
  · exact ⟨t0, z1, z2, h.push (Nat.le_refl _) (by omega) z1 z2 (by omega)⟩
theorem LI.reduce (hg : GR g) (hb : Sb (zS g (kb kd)) = false) (h : LI g kd st wo t) {q : Nat} (hq : q < Gn g) (hr : zR g (kb kd) (st t) q (Gl g q) 9) : Gl g q ≤ t ∧ ∃ t0 : Nat, Sm (zS g (kb kd)) (st (t - Gl g q)) (8 + Go g q) = (t0 : Int) ∧ t0 < Sn (zS g (kb kd)) ∧ ∀ v, v < 1009 → LI g kd (up st (t + 1 - Gl g q) t0) (up wo (t + 1 - Gl g q) v) (t + 1 - Gl g q) := by
  obtain ⟨h1, h2⟩ := LI.item hg hb (Gl g q) t q h hr
  have ho := hg.2.2.1 q
  obtain ⟨t0, z1, z2⟩ := zR_front hg hb (h.2.1 (t - Gl g q) (by omega)).1 hq h2
  refine ⟨h1, t0, z1, z2, fun v hv => ?_⟩
  rw [show t + 1 - Gl g q = t - Gl g q + 1 by omega]
  exact h.push (by omega) (by omega) z1 z2 hv
theorem LI.wsle (hg : GR g) (h : LI g kd st wo t) {q : Nat} (hl : Gl g q ≤ t) : ws wo (t + 1 - Gl g q) (Gl g q) ≤ 25225 := by
  have h5 := hg.2.2.2.1 q
  have h1 := ws_le (wo := wo) (b := t + 1 - Gl g q) (Gl g q) h5 (fun i hi => (h.2.1 (t + 1 - Gl g q + i) (by omega)).2)
  omega
end LQ
