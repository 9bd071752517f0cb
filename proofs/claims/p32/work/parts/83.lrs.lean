/-! ===== what the tables of states accept is derived, with the value that they find ===== -/
/-- the stack's way through the states, its symbols, the cuts of the sentence between them -/
def PT (g : GT) (kd : Nat) (w st wo : Nat → Nat) (t pl : Nat) (X b : Nat → Nat) : Prop := b 0 = 0 ∧ b t = pl ∧ ∀ i, i < t → (X i < 8 ∨ (16 ≤ X i ∧ X i < 32)) ∧ Sm (zS g (kb kd)) (st i) (zix (X i)) = (st (i + 1) : Int) ∧ b i ≤ b (i + 1) ∧ syD w (Dv g w) (X i) (b i) (b (i + 1)) (wo (i + 1))
section LS
variable {g : GT} {kd : Nat} {lv sd : Nat → Int} {w st wo : Nat → Nat} {t pl : Nat} {X b : Nat → Nat}
theorem LR_back (hg : GR g) (hb : Sb (zS g (kb kd)) = false) {q : Nat} : ∀ (k t : Nat), LI g kd st wo t → (∀ i, i < t → (X i < 8 ∨ (16 ≤ X i ∧ X i < 32)) ∧ Sm (zS g (kb kd)) (st i) (zix (X i)) = (st (i + 1) : Int)) → zR g (kb kd) (st t) q k 9 → k ≤ t ∧ zR g (kb kd) (st (t - k)) q 0 9 ∧ ∀ i, i < k → Gs (gX g) q i = X (t - k + i)
  | 0, t, _, _, h => ⟨Nat.zero_le _, h, fun i hi => absurd hi (by omega)⟩
  | k + 1, 0, hl, _, h => by
    rw [hl.1] at h
    exact (zR_0 hg hb h).elim
  | k + 1, t + 1, hl, hp, h => by
    obtain ⟨hX, hm⟩ := hp t (by omega)
    have h1 := zR_back hg hb (hl.2.1 t (by omega)).1 (zix_lt hX) hm h
    have e1 := zix_inj (gX_sr hg h1.2.2.1) hX h1.2.2.2
    obtain ⟨i1, i2, i3⟩ := LR_back hg hb k t ⟨hl.1, fun i hi => hl.2.1 i (by omega), fun i hi => hl.2.2 i (by omega)⟩ (fun i hi => hp i (by omega)) h1.2.1
    refine ⟨by omega, ?_, fun i hi => ?_⟩
    · rw [show t + 1 - (k + 1) = t - k by omega]; exact i2
    · rw [show t + 1 - (k + 1) + i = t - k + i by omega]
      by_cases c : i = k
      · rw [c, show t - k + k = t by omega]; exact e1
      · exact i3 i (by omega)
theorem PT.push (h : PT g kd w st wo t pl X b) {s x0 t0 v : Nat} (hs : s ≤ t) (hx : x0 < 8 ∨ (16 ≤ x0 ∧ x0 < 32)) (hm : Sm (zS g (kb kd)) (st s) (zix x0) = (t0 : Int)) {pl' : Nat} (hle : b s ≤ pl') (hd : syD w (Dv g w) x0 (b s) pl' v) : PT g kd w (up st (s + 1) t0) (up wo (s + 1) v) (s + 1) pl' (up X s x0) (up b (s + 1) pl') := by
  refine ⟨?_, up_eq, fun i hi => ?_⟩
  · rw [up_ne (by omega)]; exact h.1
  · by_cases c : i = s
    · subst c
      rw [up_eq, up_eq, up_eq, up_eq, up_ne (show i ≠ i + 1 by omega), up_ne (show i ≠ i + 1 by omega)]
      exact ⟨hx, hm, hle, hd⟩
    · rw [up_ne c, up_ne (show i ≠ s + 1 by omega), up_ne (show i + 1 ≠ s + 1 by omega), up_ne (show i ≠ s + 1 by omega), up_ne (show i + 1 ≠ s + 1 by omega), up_ne (show i + 1 ≠ s + 1 by omega)]
      exact h.2.2 i (by omega)
/-- the parts of a right, on the stack -/
theorem PT.parts (h : PT g kd w st wo t pl X b) {q s : Nat} : ∀ k, s + k ≤ t → (∀ i, i < k → Gs g q i = X (s + i)) → prD g w (Dv g w) q k (b s) (b (s + k)) (ws wo (s + 1) k)
  | 0, _, _ => ⟨rfl, rfl⟩
  | k + 1, hk, hX => by
    have ih := PT.parts h k (by omega) (fun i hi => hX i (by omega))
    have h1 := h.2.2 (s + k) (by omega)
    refine ⟨b (s + k), ws wo (s + 1) k, wo (s + 1 + k), prD_le ih, h1.2.2.1, ih, ?_, ws_s⟩
    rw [hX k (by omega)]
    have h2 : syD w (Dv g w) (X (s + k)) (b (s + k)) (b (s + (k + 1))) (wo (s + k + 1)) := h1.2.2.2
    rw [show s + k + 1 = s + 1 + k by omega] at h2
    exact h2
theorem zac_of (hg : GR g) {t y : Nat} (h : zat g kd lv sd t y = 25) : zR g (kb kd) t 24 1 9 ∧ y = 8 := by
  have hz : zac g kd t y = true := by
    refine Classical.byContradiction fun c => ?_
    have hlo : zlo g kd t y < 25 := by
      rcases zlo_rg (g := g) (kd := kd) (t := t) (y := y) with ⟨e, -⟩ | ⟨p, e, hp, -⟩
      · omega
      · have := hg.1; omega
    unfold zat at h
    rw [if_neg c] at h
    repeat' split at h
    all_goals omega
  exact zdb_t.mp hz
/-- the first state is never come to -/
theorem not_0 (hg : GR g) {bb : Bool} (hb : Sb (zS g bb) = false) {s x : Nat} (hs : s < Sn (zS g bb)) (hx : x < 24) : Sm (zS g bb) s x ≠ 0 := by
  intro h
  rcases zS_go hg hb hs hx with ⟨e, -⟩ | ⟨t, e, -, eK, p, k, ha⟩
  · omega
  · have h0 : t = 0 := by omega
    have ha0 := ha
    rw [← eK, h0, (zS_n hg).2.2] at ha
    obtain ⟨-, k', hk, -⟩ := ha0
    have := ha.2.1
    omega
/-- what is accepted is derived -/
theorem PT.acc (hg : GR g) (hb : Sb (zS g (kb kd)) = false) (hl : LI g kd st wo t) (h : PT g kd w st wo t pl X b) (hr : zR g (kb kd) (st t) 24 1 9) : Dv g w (Gt g) 0 pl (wo t) := by
  obtain ⟨h1, h2, h3⟩ := LR_back (X := X) hg hb 1 t hl (fun i hi => ⟨(h.2.2 i hi).1, (h.2.2 i hi).2.1⟩) hr
  have hst := (hl.2.1 (t - 1) (by omega)).1
  have e0 := (zS_k hg hst ((CL_kern hg (Or.inr rfl)).mp ((zR_9 hg hb hst 24 0).mp h2))).2.2.2
  have e1 : st (t - 1) = 0 := by omega
  have ht : t = 1 := by
    refine Classical.byContradiction fun c => ?_
    have h4 := h.2.2 (t - 2) (by omega)
    rw [show t - 2 + 1 = t - 1 by omega, e1] at h4
    exact not_0 hg hb (hl.2.1 (t - 2) (by omega)).1 (zix_lt h4.1) h4.2.1
  subst ht
  have h5 := (h.2.2 0 (by omega)).2.2.2
  have eX := h3 0 (by omega)
  rw [gX_s24] at eX
  rw [h.1, show 0 + 1 = 1 from rfl, h.2.1, ← eX] at h5
  rcases h5 with ⟨a1, -⟩ | ⟨-, a2⟩
  · omega
  · rw [show 16 + Gt g - 16 = Gt g by omega] at a2; exact a2
theorem lrq_sound (hg : GR g) (hb : Sb (zS g (kb kd)) = false) {nw : Nat} (hw : SW w nw) : ∀ (r : Nat) (st wo : Nat → Nat) (t pl : Nat) (X b : Nat → Nat), LI g kd st wo t → PT g kd w st wo t pl X b → pl ≤ nw → (lrq g kd lv sd w r st wo t pl).1 = -1 → ∃ n : Nat, (lrq g kd lv sd w r st wo t pl).2 = (n : Int) ∧ Dv g w (Gt g) 0 nw n := by
  intro r
  induction r with
  | zero =>
    intro st wo t pl X b hl h hp e
    by_cases c1 : zat g kd lv sd (st t) (w pl) = 25
    · obtain ⟨hr, h8⟩ := zac_of hg c1
      have hn : pl = nw := by
        refine Classical.byContradiction fun c => ?_
        have := hw.2.1 pl (by omega)
        omega
      rw [lrq_25 _ c1]
      exact ⟨wo t, rfl, hn ▸ PT.acc hg hb hl h hr⟩
    · by_cases c2 : zat g kd lv sd (st t) (w pl) = -1
      · rw [lrq_m _ c2] at e
        have e : (pl : Int) = -1 := e
        omega
      · rw [lrq_0 c1 c2] at e
        exact absurd e (by decide)
  | succ r ih =>
    intro st wo t pl X b hl h hp e
    rcases zat_c (g := g) (kd := kd) (lv := lv) (sd := sd) (t := st t) (y := w pl) hg with c | c | ⟨c, hs⟩ | ⟨q, c, hq, hr⟩
    · obtain ⟨hr, h8⟩ := zac_of hg c
      have hn : pl = nw := by
        refine Classical.byContradiction fun c => ?_
        have := hw.2.1 pl (by omega)
        omega
      rw [lrq_25 _ c]
      exact ⟨wo t, rfl, hn ▸ PT.acc hg hb hl h hr⟩
    · rw [lrq_m _ c] at e
      have e : (pl : Int) = -1 := e
      omega
    · obtain ⟨h8, t0, hm, ht0, hl'⟩ := hl.shift hg hb hs
      rw [lrq_24 r c hm] at e ⊢
      refine ih _ _ _ _ _ _ hl' (h.push (x0 := w pl) (Nat.le_refl _) (Or.inl h8) ?_ (by rw [h.2.1]; omega) (Or.inl ⟨by omega, by rw [h.2.1], by rw [h.2.1], rfl⟩)) ?_ e
      · rw [show zix (w pl) = w pl from if_pos (by omega)]; exact hm
      · have := hw.lt h8; omega
    · obtain ⟨hlt, t0, hm, ht0, hl'⟩ := hl.reduce hg hb hq hr
      have hq24 : q ≠ 24 := by have := hg.1; omega
      obtain ⟨-, -, hX⟩ := LR_back (X := X) hg hb (Gl g q) t hl (fun i hi => ⟨(h.2.2 i hi).1, (h.2.2 i hi).2.1⟩) hr
      have hX : ∀ i, i < Gl g q → Gs g q i = X (t - Gl g q + i) := fun i hi => by rw [← hX i hi, gX_s hq24]
      have hpr := h.parts (q := q) (s := t - Gl g q) (Gl g q) (by omega) hX
      rw [show t - Gl g q + Gl g q = t by omega, h.2.1, show t - Gl g q + 1 = t + 1 - Gl g q by omega] at hpr
      rw [lrq_q r c (by have := hg.1; omega) hm] at e ⊢
      have hv : (q + 1 + ws wo (t + 1 - Gl g q) (Gl g q)) % 1009 < 1009 := Nat.mod_lt _ (by omega)
      have ho := hg.2.2.1 q
      have hpu := h.push (x0 := 16 + Go g q) (s := t - Gl g q) (t0 := t0) (v := (q + 1 + ws wo (t + 1 - Gl g q) (Gl g q)) % 1009) (pl' := pl) (by omega) (Or.inr ⟨by omega, by omega⟩) (by rw [show zix (16 + Go g q) = 8 + Go g q from (if_neg (by omega)).trans (by omega)]; exact hm) (prD_le hpr) (Or.inr ⟨by omega, by rw [show 16 + Go g q - 16 = Go g q by omega]; exact Dv_cl q hq _ _ _ hpr⟩)
      rw [show t - Gl g q + 1 = t + 1 - Gl g q by omega] at hpu
      exact ih _ _ _ _ _ _ (hl' _ hv) hpu hp e
theorem zrun_sound (hg : GR g) {nw : Nat} (hw : SW w nw) (h : (zrun g kd lv sd w).1 = -1) : ∃ n : Nat, (zrun g kd lv sd w).2 = (n : Int) ∧ Dv g w (Gt g) 0 nw n := by
  unfold zrun at h ⊢
  by_cases hb : Sb (zS g (kb kd)) = true
  · rw [if_pos hb] at h
    exact absurd h (by decide)
  · rw [if_neg hb] at h ⊢
    exact lrq_sound hg (by simpa using hb) hw 300 _ _ 0 0 (fun _ => 0) (fun _ => 0) (LI_0 hg) ⟨rfl, rfl, fun i hi => absurd hi (by omega)⟩ (Nat.zero_le _) h
end LS
