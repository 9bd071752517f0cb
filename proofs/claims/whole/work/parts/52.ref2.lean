/-! ===== the reference: findsMore ===== -/
theorem gu_id (I : Nat → Nat → Int) (a k : Nat) : gx_u I a k (I a k) = I := by
  funext b j
  by_cases h : b = a
  · subst h
    rw [gu_at]
    split
    · next e => rw [e]
    · rfl
  · rw [gu_ne h]
theorem nR : 162 ∉ [176, 161] ∧ 163 ∉ [176, 161] ∧ 164 ∉ [176, 161] ∧ 165 ∉ [176, 161] ∧ 170 ∉ [176, 161] := by decide
/-- the reference's sets by now: below every closed pair -/
def rBI (g : GT) (J : Nat → Nat → Int) : Prop := rTb J ∧ ∀ N' F', cl1 g N' F' → (∀ a, rNi J a → N' a) ∧ ∀ a t, rFi J a t → F' a t
def rlp (g : GT) (J : Nat → Nat → Int) (p : Nat) : Prop := (emF g (rNi J) p 0 → rNi J (Go g p)) ∧ ∀ t, fsF g (rNi J) (rFi J) p 0 t → rFi J (Go g p) t
/-- how many bits both have -/
def rM (J : Nat → Nat → Int) : Nat := cM (fun k => if k < 16 then J 176 k else J 161 18) 17
theorem rM_le (J : Nat → Nat → Int) : rM J ≤ 544 := cM_le _ 17
theorem fsF_lt8r {g : GT} (hg : GR g) {J : Nat → Nat → Int} {N : Nat → Prop} {p k t : Nat} (h : fsF g N (rFi J) p k t) : t < 8 := by
  obtain ⟨j, -, h2, -, h4⟩ := h
  rcases h4 with ⟨h5, rfl⟩ | ⟨-, h5⟩
  · have := hg.2.2.2.2.2 p j h2; omega
  · exact h5.2.1
/-- one production: what is written, and what it does -/
def rW (J : Nat → Nat → Int) (o : Nat) (x m : Int) : Nat → Nat → Int := gx_u (gx_u J 176 o x) 161 18 m
theorem rW_bt {J : Nat → Nat → Int} {o : Nat} {x m : Int} : (∀ k, rW J o x m 176 k = if k = o then x else J 176 k) ∧ rW J o x m 161 18 = m := by
  unfold rW
  exact ⟨fun k => by rw [gu_ne (by decide), gu_at], gu_at_eq rfl⟩
section RC
variable {u : Nat} {L : Nat → Nat → Int} {n : Nat}
theorem rBI_wr {g : GT} (hg : GR g) {J : Nat → Nat → Int} (h : rBI g J) {p : Nat} (hq : p < Gn g) {x m : Int} (hx : gi_ok x ∧ ∀ i, bt x i = true ↔ bt (J 176 (Go g p)) i = true ∨ (i < 8 ∧ fsF g (rNi J) (rFi J) p 0 i)) (hm : gi_ok m ∧ ∀ i, bt m i = true ↔ bt (J 161 18) i = true ∨ (i = Go g p ∧ emF g (rNi J) p 0)) :
    rBI g (rW J (Go g p) x m) ∧ ((x = J 176 (Go g p) ∧ m = J 161 18 ∧ rlp g J p ∧ rW J (Go g p) x m = J) ∨ (¬ (x = J 176 (Go g p) ∧ m = J 161 18) ∧ rM J < rM (rW J (Go g p) x m))) := by
  have ho := hg.2.2.1 p
  obtain ⟨w1, w2⟩ := rW_bt (J := J) (o := Go g p) (x := x) (m := m)
  refine ⟨⟨⟨fun a ha => ?_, ?_, ?_⟩, fun N' F' hc => ?_⟩, ?_⟩
  · rw [w1]
    split
    · next e =>
      refine ⟨hx.1, fun i hi => ?_⟩
      rcases (hx.2 i).mp hi with q | q
      · exact (h.1.1 _ ho).2 i q
      · exact q.1
    · exact h.1.1 a ha
  · rw [w2]; exact hm.1
  · rw [w2]; intro i hi
    rcases (hm.2 i).mp hi with q | q
    · exact h.1.2.2 i q
    · omega
  · obtain ⟨m1, m2⟩ := h.2 N' F' hc
    have hcp := hc p hq
    refine ⟨fun a q => ?_, fun a t q => ?_⟩
    · obtain ⟨ha, q⟩ := q
      rw [w2] at q
      rcases (hm.2 a).mp q with q | ⟨q1, q2⟩
      · exact m1 a ⟨ha, q⟩
      · rw [q1]; exact hcp.1 (emF_mono m1 q2)
    · obtain ⟨ha, ht, q⟩ := q
      rw [w1] at q
      by_cases e : a = Go g p
      · rw [if_pos e] at q
        rcases (hx.2 t).mp q with q | ⟨-, q⟩
        · exact m2 a t ⟨ha, ht, by rw [e]; exact q⟩
        · rw [e]; exact hcp.2 t (fsF_mono m1 m2 q)
      · rw [if_neg e] at q; exact m2 a t ⟨ha, ht, q⟩
  · by_cases e : x = J 176 (Go g p) ∧ m = J 161 18
    · refine Or.inl ⟨e.1, e.2, ⟨fun q => ⟨ho, ?_⟩, fun t q => ?_⟩, ?_⟩
      · have := (hm.2 (Go g p)).mpr (Or.inr ⟨rfl, q⟩)
        rw [e.2] at this; exact this
      · have h8 := fsF_lt8r hg q
        have := (hx.2 t).mpr (Or.inr ⟨h8, q⟩)
        rw [e.1] at this
        exact ⟨ho, h8, this⟩
      · unfold rW
        rw [e.1, e.2, gu_id]
        exact gu_id J 161 18
    · refine Or.inr ⟨e, cM_lt (fun i hi b hb q => ?_) ?_⟩
      · have q' : bt (if i < 16 then J 176 i else J 161 18) b = true := q
        show bt (if i < 16 then rW J (Go g p) x m 176 i else rW J (Go g p) x m 161 18) b = true
        rw [w1, w2]
        by_cases h16 : i < 16
        · rw [if_pos h16] at q' ⊢
          split
          · next z => rw [hx.2, ← z]; exact Or.inl q'
          · exact q'
        · rw [if_neg h16] at q' ⊢
          rw [hm.2]; exact Or.inl q'
      · by_cases e1 : x = J 176 (Go g p)
        · have e2 : ¬ m = J 161 18 := fun q => e ⟨e1, q⟩
          have e3 : ¬ ∀ b, b < 32 → bt m b = bt (J 161 18) b := fun q => e2 (bt_ext hm.1 h.1.2.1 q)
          have e4 : ∃ b, b < 32 ∧ bt m b = true ∧ bt (J 161 18) b = false := by
            apply Classical.byContradiction
            intro q
            refine e3 (fun b hb => ?_)
            cases z : bt (J 161 18) b
            · cases y : bt m b
              · rfl
              · exact absurd ⟨b, hb, y, z⟩ q
            · exact (hm.2 b).mpr (Or.inl z)
          obtain ⟨b, hb, y, z⟩ := e4
          refine ⟨16, by decide, b, hb, ?_, ?_⟩
          · show bt (if 16 < 16 then _ else rW J (Go g p) x m 161 18) b = true
            rw [if_neg (by decide), w2]; exact y
          · show bt (if 16 < 16 then _ else J 161 18) b = false
            rw [if_neg (by decide)]; exact z
        · have e3 : ¬ ∀ b, b < 32 → bt x b = bt (J 176 (Go g p)) b := fun q => e1 (bt_ext hx.1 (h.1.1 _ ho).1 q)
          have e4 : ∃ b, b < 32 ∧ bt x b = true ∧ bt (J 176 (Go g p)) b = false := by
            apply Classical.byContradiction
            intro q
            refine e3 (fun b hb => ?_)
            cases z : bt (J 176 (Go g p)) b
            · cases y : bt x b
              · rfl
              · exact absurd ⟨b, hb, y, z⟩ q
            · exact (hx.2 b).mpr (Or.inl z)
          obtain ⟨b, hb, y, z⟩ := e4
          refine ⟨Go g p, by omega, b, hb, ?_, ?_⟩
          · show bt (if Go g p < 16 then rW J (Go g p) x m 176 (Go g p) else _) b = true
            rw [if_pos ho, w1, if_pos rfl]; exact y
          · show bt (if Go g p < 16 then J 176 (Go g p) else _) b = false
            rw [if_pos ho]; exact z
end RC
