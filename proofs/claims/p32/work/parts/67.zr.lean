/-! ===== what the rows of the automata hold ===== -/
section ZR_
variable {g : GT} {b : Bool}
theorem zS_go (hg : GR g) (hb : Sb (zS g b) = false) {s x : Nat} (hs : s < Sn (zS g b)) (hx : x < 24) : (Sm (zS g b) s x = -1 ∧ ¬ ∃ p k, adv b g (CL g (zN g) (zF g) (SK (zS g b) s)) x p k 9) ∨ ∃ t : Nat, Sm (zS g b) s x = (t : Int) ∧ t < Sn (zS g b) ∧ SK (zS g b) t = adv b g (CL g (zN g) (zF g) (SK (zS g b) s)) x ∧ ∃ p k, adv b g (CL g (zN g) (zF g) (SK (zS g b) s)) x p k 9 := by
  have hP := PB_bfi (N := zN g) (F := zF g) (b := b) hg 1920
  have hs80 : s < 80 := Nat.lt_of_lt_of_le hs hP.2.1
  exact hP.2.2.2.2.2.2.1 hb s x hs hx (by omega)
theorem zS_from (hg : GR g) (hb : Sb (zS g b) = false) {t : Nat} (h0 : 0 < t) (ht : t < Sn (zS g b)) : ∃ s x, s < t ∧ x < 24 ∧ Sm (zS g b) s x = (t : Int) ∧ SK (zS g b) t = adv b g (CL g (zN g) (zF g) (SK (zS g b) s)) x := by
  have hP := PB_bfi (N := zN g) (F := zF g) (b := b) hg 1920
  obtain ⟨s, x, h1, h2, -, h3⟩ := hP.2.2.2.2.1 t h0 ht
  have h3' : SK (zS g b) t = adv b g (CL g (zN g) (zF g) (SK (zS g b) s)) x := h3
  obtain ⟨p, k, h4⟩ := (hP.2.2.2.1 t ht).2
  have h4' : SK (zS g b) t p k 9 := h4
  rw [h3'] at h4'
  refine ⟨s, x, h1, h2, ?_, h3⟩
  rcases zS_go hg hb (s := s) (x := x) (by omega) h2 with ⟨-, w⟩ | ⟨t0, w1, w2, w3, -⟩
  · exact absurd ⟨p, k, h4'⟩ w
  · have : t0 = t := hP.2.2.2.2.2.1 t0 t w2 ht (w3.trans h3'.symm)
    rw [← this]; exact w1
theorem zS_n (hg : GR g) : 1 ≤ Sn (zS g b) ∧ Sn (zS g b) ≤ 80 ∧ SK (zS g b) 0 = K0 b := by
  have hP := PB_bfi (N := zN g) (F := zF g) (b := b) hg 1920
  exact ⟨hP.1, hP.2.1, hP.2.2.1⟩
theorem zS_k (hg : GR g) {t : Nat} (ht : t < Sn (zS g b)) {p k y : Nat} (h : SK (zS g b) t p k y) : vI g p k ∧ y ≤ 9 ∧ SK (zS g b) t p k 9 ∧ (1 ≤ k ∨ (p = 24 ∧ k = 0 ∧ t = 0)) := by
  have hP := PB_bfi (N := zN g) (F := zF g) (b := b) hg 1920
  obtain ⟨a, c, d, -⟩ := (hP.2.2.2.1 t ht).1 p k y h
  refine ⟨a, c, d, ?_⟩
  by_cases e : t = 0
  · subst e
    have h' : K0 b p k y := by rw [← (zS_n (b := b) hg).2.2]; exact h
    exact Or.inr ⟨h'.1, h'.2.1, rfl⟩
  · obtain ⟨s, x, -, -, -, q⟩ := hP.2.2.2.2.1 t (by omega) ht
    have h' : adv b g (CL g (zN g) (zF g) (SK (bfi g (zN g) (zF g) b 1920) s)) x p k y := by rw [← q]; exact h
    obtain ⟨-, k', e1, -⟩ := h'
    exact Or.inl (by omega)
/-- being there -/
theorem zR_9 (hg : GR g) (hb : Sb (zS g b) = false) {t : Nat} (ht : t < Sn (zS g b)) (p k : Nat) : zR g b t p k 9 ↔ CL g (zN g) (zF g) (SK (zS g b) t) p k 9 := by
  cases b with
  | false => exact Iff.rfl
  | true =>
    have hz : ∀ t, zR g true t = LBm g (zN g) (zF g) (zS g true) t := fun _ => rfl
    have fwd : cLB g (zN g) (zF g) (zS g true) (fun t p k y => CL g (zN g) (zF g) (SK (zS g true) t) p k 9) := by
      have h0 := (zS_n (b := true) hg).2.2
      refine ⟨⟨CL_sub _ _ _ (by rw [h0]; exact ⟨rfl, rfl, Or.inl rfl⟩), CL_sub _ _ _ (by rw [h0]; exact ⟨rfl, rfl, Or.inl rfl⟩)⟩, fun s hs q y o => ?_, fun s x t hs hx hm p k y a => ?_⟩
      · obtain ⟨a, p, k, b1, b2, b3, b4, -⟩ := o
        exact CL_cl q 9 ⟨a, p, k, b1, b2, b3, b4, Or.inl rfl⟩
      · obtain ⟨-, k', e1, e2, e3, e4, e5, -⟩ := a
        rcases zS_go hg hb hs hx with ⟨w, -⟩ | ⟨t0, w1, -, w3, -⟩
        · omega
        · have : t0 = t := by omega
          subst this
          exact CL_sub _ _ _ (by rw [w3]; exact ⟨fun _ => rfl, k', e1, e2, e3, e4, e5, e5⟩)
    have bwd : ∀ t, t < Sn (zS g true) → ∀ p k, SK (zS g true) t p k 9 → LBm g (zN g) (zF g) (zS g true) t p k 9 := by
      intro t
      induction t using Nat.strongRecOn with
      | _ t ih =>
        intro ht p k h
        by_cases e : t = 0
        · subst e
          rw [(zS_n (b := true) hg).2.2] at h
          rw [h.1, h.2.1]; exact LBm_cl.1.2
        · obtain ⟨s, x, q1, q2, q3, q4⟩ := zS_from hg hb (by omega) ht
          rw [q4] at h
          obtain ⟨-, k', e1, e2, e3, e4, e5, -⟩ := h
          have hs : s < Sn (zS g true) := by omega
          have z : LBm g (zN g) (zF g) (zS g true) s p k' 9 := by
            have := CL_9 (K' := LBm g (zN g) (zF g) (zS g true) s) (fun p k w => ih s q1 hs p k w) e5
            exact CL_min (fun _ _ _ w => w) (LBm_cl.2.1 s hs) _ _ _ this
          exact LBm_cl.2.2 s x t hs q2 q3 p k 9 ⟨fun w => absurd w (by decide), k', e1, e2, e3, e4, z, z⟩
    rw [hz]
    refine ⟨fun z => z _ fwd, fun z => ?_⟩
    have := CL_9 (K' := LBm g (zN g) (zF g) (zS g true) t) (fun p k w => bwd t ht p k w) z
    exact CL_min (fun _ _ _ w => w) (LBm_cl.2.1 t ht) _ _ _ this
theorem zR_v (hg : GR g) (hb : Sb (zS g b) = false) {t : Nat} (ht : t < Sn (zS g b)) {p k y : Nat} (h : zR g b t p k y) : vI g p k ∧ y ≤ 9 ∧ zR g b t p k 9 := by
  cases b with
  | false =>
    have hk : ∀ p k y, SK (zS g false) t p k y → vI g p k := fun p k y z => (zS_k hg ht z).1
    have hk2 : ∀ p k y, SK (zS g false) t p k y → y ≤ 9 ∧ SK (zS g false) t p k 9 := fun p k y z => ⟨(zS_k hg ht z).2.1, (zS_k hg ht z).2.2.1⟩
    exact ⟨CL_v hk h, CL_t hk2 h⟩
  | true =>
    have hz : ∀ t, zR g true t = LBm g (zN g) (zF g) (zS g true) t := fun _ => rfl
    have c : cLB g (zN g) (zF g) (zS g true) (fun t p k y => vI g p k ∧ y ≤ 9 ∧ LBm g (zN g) (zF g) (zS g true) t p k 9) := by
      have h24 : vI g 24 0 := ⟨Or.inr rfl, Nat.zero_le _⟩
      refine ⟨⟨⟨h24, by omega, LBm_cl.1.2⟩, ⟨h24, by omega, LBm_cl.1.2⟩⟩, fun s hs q y o => ?_, fun s x t hs hx hm p k y a => ?_⟩
      · obtain ⟨a, p, k, b1, b2, b3, b4, b5⟩ := o
        exact ⟨⟨Or.inl a, Nat.zero_le _⟩, by omega, LBm_cl.2.1 s hs q 9 ⟨a, p, k, b1, b2, b3, b4.2.2, Or.inl rfl⟩⟩
      · obtain ⟨-, k', e1, e2, e3, e4, e5, e6⟩ := a
        exact ⟨⟨e2, by omega⟩, e6.2.1, LBm_cl.2.2 s x t hs hx hm p k 9 ⟨fun w => absurd w (by decide), k', e1, e2, e3, e4, e5.2.2, e5.2.2⟩⟩
    exact h _ c
/-- an item beyond its place comes from the state before -/
theorem zR_back (hg : GR g) (hb : Sb (zS g b) = false) {s t x p k : Nat} (hs : s < Sn (zS g b)) (hx : x < 24) (hm : Sm (zS g b) s x = (t : Int)) (h : zR g b t p (k + 1) 9) : t < Sn (zS g b) ∧ zR g b s p k 9 ∧ k < Gl (gX g) p ∧ zix (Gs (gX g) p k) = x := by
  rcases zS_go hg hb hs hx with ⟨w, -⟩ | ⟨t0, w1, w2, w3, -⟩
  · omega
  · have : t0 = t := by omega
    subst this
    refine ⟨w2, ?_⟩
    have h1 := (zR_9 hg hb w2 p (k + 1)).mp h
    have h2 : SK (zS g b) t0 p (k + 1) 9 := (CL_kern hg (Or.inl (by omega))).mp h1
    rw [w3] at h2
    obtain ⟨-, k', e1, e2, e3, e4, e5, -⟩ := h2
    have : k' = k := by omega
    subst this
    exact ⟨(zR_9 hg hb hs p k').mpr e5, e3, e4⟩
/-- no item of the first state is beyond its place -/
theorem zR_0 (hg : GR g) (hb : Sb (zS g b) = false) {p k : Nat} (h : zR g b 0 p (k + 1) 9) : False := by
  have hn := zS_n (b := b) hg
  have h1 := (zR_9 hg hb (show 0 < Sn (zS g b) by omega) p (k + 1)).mp h
  have h2 : SK (zS g b) 0 p (k + 1) 9 := (CL_kern hg (Or.inl (by omega))).mp h1
  rw [hn.2.2] at h2
  exact absurd h2.2.1 (by omega)
/-- an item at its front has its owner ahead somewhere, so there is a way over that one -/
theorem zR_front (hg : GR g) (hb : Sb (zS g b) = false) {s q : Nat} (hs : s < Sn (zS g b)) (hq : q < Gn g) (h : zR g b s q 0 9) : ∃ t : Nat, Sm (zS g b) s (8 + Go g q) = (t : Int) ∧ t < Sn (zS g b) := by
  have h24 := hg.1
  have ho := hg.2.2.1 q
  rcases CL_new ((zR_9 hg hb hs q 0).mp h) with z | ⟨-, -, p, k, b1, b2, b3, b4, -⟩
  · have := (zS_k hg hs z).2.2.2
    omega
  · rcases zS_go hg hb hs (x := 8 + Go g q) (by omega) with ⟨-, w⟩ | ⟨t, w1, w2, -⟩
    · refine absurd ⟨p, k + 1, fun _ => rfl, k, rfl, b1, b2, ?_, b4, b4⟩ w
      rw [b3]; unfold zix; rw [if_neg (by omega)]; omega
    · exact ⟨t, w1, w2⟩
/-- the last item of all has only the end behind it -/
theorem zR_24 (hg : GR g) (hb : Sb (zS g b) = false) {t : Nat} (ht : t < Sn (zS g b)) {y : Nat} : zR g b t 24 1 y ↔ zR g b t 24 1 9 ∧ (y = 8 ∨ y = 9) := by
  have h24 := hg.1
  -- only these
  have only : ∀ t, t < Sn (zS g b) → ∀ k y, zR g b t 24 k y → y = 8 ∨ y = 9 := by
    cases b with
    | false =>
      have hK : ∀ t, t < Sn (zS g false) → ∀ k y, SK (zS g false) t 24 k y → y = 8 ∨ y = 9 := by
        intro t
        induction t using Nat.strongRecOn with
        | _ t ih =>
          intro ht k y h
          by_cases e : t = 0
          · subst e
            rw [(zS_n (b := false) hg).2.2] at h
            rcases h.2.2 with z | z <;> omega
          · obtain ⟨s, x, q1, q2, q3, q4⟩ := zS_from hg hb (by omega) ht
            rw [q4] at h
            obtain ⟨-, k', e1, e2, e3, e4, e5, e6⟩ := h
            exact ih s q1 (by omega) k' y ((CL_kern hg (Or.inr rfl)).mp e6)
      exact fun t ht k y z => hK t ht k y ((CL_kern hg (Or.inr rfl)).mp z)
    | true =>
      intro t ht k y h
      have c : cLB g (zN g) (zF g) (zS g true) (fun t p k y => p = 24 → y = 8 ∨ y = 9) := by
        refine ⟨⟨fun _ => Or.inl rfl, fun _ => Or.inr rfl⟩, fun s hs q y o e => ?_, fun s x t hs hx hm p k y a e => ?_⟩
        · have := o.1; omega
        · obtain ⟨-, k', e1, e2, e3, e4, e5, e6⟩ := a
          exact e6 e
      exact h _ c rfl
  -- both
  have both : zR g b t 24 1 9 → zR g b t 24 1 8 := by
    intro h
    have h1 : SK (zS g b) t 24 1 9 := (CL_kern hg (Or.inl (by omega))).mp ((zR_9 hg hb ht 24 1).mp h)
    by_cases e : t = 0
    · subst e
      rw [(zS_n (b := b) hg).2.2] at h1
      exact absurd h1.2.1 (by omega)
    · obtain ⟨s, x, q1, q2, q3, q4⟩ := zS_from hg hb (by omega) ht
      have h2 := h1
      rw [q4] at h2
      obtain ⟨-, k', e1, e2, e3, e4, e5, -⟩ := h2
      have : k' = 0 := by omega
      subst this
      have hs : s < Sn (zS g b) := by omega
      have h3 : SK (zS g b) s 24 0 9 := (CL_kern hg (Or.inr rfl)).mp e5
      have hs0 : s = 0 := by
        rcases (zS_k hg hs h3).2.2.2 with z | z
        · omega
        · exact z.2.2
      subst hs0
      cases b with
      | false =>
        have h8 : SK (zS g false) 0 24 0 8 := by rw [(zS_n (b := false) hg).2.2]; exact ⟨rfl, rfl, Or.inr ⟨rfl, rfl⟩⟩
        exact CL_sub _ _ _ (by rw [q4]; exact ⟨fun w => absurd w (by decide), 0, rfl, e2, e3, e4, e5, CL_sub _ _ _ h8⟩)
      | true =>
        exact LBm_cl.2.2 0 x t hs q2 q3 24 1 8 ⟨fun w => absurd w (by decide), 0, rfl, e2, e3, e4, LBm_cl.1.2, LBm_cl.1.1⟩
  constructor
  · intro h; exact ⟨(zR_v hg hb ht h).2.2, only t ht 1 y h⟩
  · rintro ⟨h1, h2⟩
    rcases h2 with rfl | rfl
    · exact both h1
    · exact h1
end ZR_
