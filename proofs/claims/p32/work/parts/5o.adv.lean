/-! ===== the class's automaton: what is in front, fresh rows, states found and added ===== -/
def af (p k : Nat) : Nat := 6 * p + k
theorem af_inj {g : GT} (hg : GR g) : INJ g af := fun p k p' k' h1 h2 e => by
  have := vI_6 hg h1; have := vI_6 hg h2
  unfold af at e; omega
theorem zix_inj {s t : Nat} (hs : s < 8 ∨ (16 ≤ s ∧ s < 32)) (ht : t < 8 ∨ (16 ≤ t ∧ t < 32)) (h : zix s = zix t) : s = t := by
  unfold zix at h
  split at h <;> split at h <;> omega
theorem zix_lt {s : Nat} (hs : s < 8 ∨ (16 ≤ s ∧ s < 32)) : zix s < 24 := by unfold zix; split <;> omega
/-- rows that are not of items are empty -/
def RZ (g : GT) (A : Nat) (o : Nat) (J : Nat → Nat → Int) : Prop := ∀ x, x < 150 → ¬ vI g (x / 6) (x % 6) → J A (o + x) = 0
theorem ac_x {s x : Nat} : ac s (x / 6) (x % 6) = 150 * s + x := by unfold ac; omega
theorem af_x {x : Nat} : af (x / 6) (x % 6) = x := by unfold af; omega
section CD
variable {u : Nat} {n : Nat} {L : Nat → Nat → Int} {g : GT} {N : Nat → Prop} {F : Nat → Nat → Prop}
theorem VR_0 {A : Nat} {ad : Nat → Nat → Nat} {J : Nat → Nat → Int} (h : VR g A ad J) {p k : Nat} (hv : vI g p k) : J A (ad p k) ≠ 0 ↔ bt (J A (ad p k)) 9 = true :=
  ⟨fun z => (h p k hv).2.2.elim (fun y => absurd y z) id, bt9_0⟩
theorem X0_symbolsInFront (hn : 1000000000000000000000000000000 ≤ n) {v : Nat} (hv : v ∈ [73, 79]) {J : Nat → Nat → Int} (hE : CE u g N F J) {s : Nat} (hs : s < 80) (hV : VR g (v + 1) (ac s) J) (hZ : RZ g (v + 1) (150 * s) J) :
    ∃ r, f_X0_symbolsInFront n v (s : Int) (hp u J L) = some r ∧ ∀ i, i < 32 → (bt r i = true ↔ ∃ p k, k < Gl (gX g) p ∧ SR g (v + 1) (ac s) J p k 9 ∧ Gs (gX g) p k = i) := by
  have hg := hE.gr
  suffices key : zLP 150 (fun f x (y : Int) => l_X0_symbolsInFront_4 n f v (s : Int) y (x : Int) (hp u J L)) (fun x y => ∀ i, i < 32 → (bt y i = true ↔ ∃ p k, 6 * p + k < x ∧ k < Gl (gX g) p ∧ SR g (v + 1) (ac s) J p k 9 ∧ Gs (gX g) p k = i))
      (fun res => ∃ r, res = some r ∧ ∀ i, i < 32 → (bt r i = true ↔ ∃ p k, k < Gl (gX g) p ∧ SR g (v + 1) (ac s) J p k 9 ∧ Gs (gX g) p k = i)) by
    exact key 150 n 0 0 (by omega) (by omega) (fun i _ => by rw [bt_zero]; exact ⟨fun z => absurd z (by decide), fun ⟨p, k, z, _⟩ => absurd z (by omega)⟩)
  refine zlp ?_ ?_
  · rintro f x y hx hy
    right
    have ex : x = 6 * (x / 6) + x % 6 := by omega
    have er := X0_row (u := u) (L := L) hv (J := J) hs hx
    have ef := X3_front (u := u) (J := J) (L := L) hx
    have hit := (hE.it (show x / 6 ≤ 24 by omega) (show x % 6 ≤ 5 by omega)).1
    rw [← ex] at hit
    have ek : (x : Int) + 1 = ((x + 1 : Nat) : Int) := by omega
    have uniq : ∀ p k, k < Gl (gX g) p → SR g (v + 1) (ac s) J p k 9 → 6 * p + k < x + 1 → 6 * p + k < x ∨ (p = x / 6 ∧ k = x % 6) := fun p k h1 h2 h3 => by have := vI_6 hg h2.1; have := gX_l5 hg p; omega
    by_cases c : (x % 6 < Gl (gX g) (x / 6)) ∧ J (v + 1) (150 * s + x) ≠ 0
    · have hsr := gX_sr hg c.1
      have hvi : vI g (x / 6) (x % 6) := ⟨gX_pv hg c.1, by omega⟩
      have h9 : SR g (v + 1) (ac s) J (x / 6) (x % 6) 9 := ⟨hvi, (VR_0 hV hvi).mp (by rw [ac_x]; exact c.2)⟩
      have hrg : gi_ok (J (v + 1) (150 * s + x)) := by have := (hV _ _ hvi).1; rwa [ac_x] at this
      have hrg' : -2147483648 ≤ J (v + 1) (150 * s + x) ∧ J (v + 1) (150 * s + x) ≤ 2147483647 := hrg
      rw [if_pos c.1] at hit
      rw [hit] at ef
      have c2 := c.2
      refine ⟨gi_or y (gi_shl 1 ((Gs (gX g) (x / 6) (x % 6) : Nat) : Int)), ?_, fun i hi => ?_⟩
      · simp (disch := omega) only [l_X0_symbolsInFront_4, b_X0_symbolsInFront_4, b_X0_symbolsInFront_43, ↓dhi_A hv, ↓dhG_A_0 hv, ↓dhg_A_1 hv, ↓dhq_A_1 hv, ↓dhg_A_2 hv, ↓dhq_A_2 hv, ↓dhg_A_3 hv, ↓dhq_A_3 hv, ↓dhg_A_4 hv, ↓dhq_A_4 hv, ↓dhG_A_5 hv, ↓dhG_A_6 hv, ↓dhG_A_7 hv, ↓dhG_A_8 hv, ↓dhG_A_9 hv, ↓dha_A_1 hv, ↓dhs_A_1 hv, ↓dhl_A_1 hv, ↓dha_A_2 hv, ↓dhs_A_2 hv, ↓dhl_A_2 hv, ↓dha_A_3 hv, ↓dhs_A_3 hv, ↓dhl_A_3 hv, ↓dha_A_4 hv, ↓dhs_A_4 hv, ↓dhl_A_4 hv, ↓dha_A_5 hv, ↓dhs_A_5 hv, ↓dhl_A_5 hv, Option.bind_some, ↓nm_eq, ↓sm_inl, ↓sm_inr, ↓dzo_0, ↓dzo_1, ↓drg_ok, ↓if_pos, ↓if_neg, if_pos, if_neg, if_true, if_false, Int.toNat_natCast, rg_ok, ↓bnd er, ↓bnd ef, ↓dhi_F, ek]
      · rw [bt_or, Bool.or_eq_true, hy i hi, bt_shl1 (by omega), decide_eq_true_eq]
        constructor
        · rintro (⟨p, k, z1, z2⟩ | z)
          · exact ⟨p, k, by omega, z2⟩
          · exact ⟨x / 6, x % 6, by omega, c.1, h9, z.symm⟩
        · rintro ⟨p, k, z1, z2, z3, z4⟩
          rcases uniq p k z2 z3 z1 with z | ⟨y1, y2⟩
          · exact Or.inl ⟨p, k, z, z2, z3, z4⟩
          · right; rw [← z4, y1, y2]
    · refine ⟨y, ?_, fun i hi => (hy i hi).trans ⟨fun ⟨p, k, z1, z2⟩ => ⟨p, k, by omega, z2⟩, fun ⟨p, k, z1, z2, z3, z4⟩ => ?_⟩⟩
      · by_cases c0 : J (v + 1) (150 * s + x) = 0
        · rw [c0] at er
          simp (disch := omega) only [l_X0_symbolsInFront_4, b_X0_symbolsInFront_4, b_X0_symbolsInFront_43, ↓dhi_A hv, ↓dhG_A_0 hv, ↓dhg_A_1 hv, ↓dhq_A_1 hv, ↓dhg_A_2 hv, ↓dhq_A_2 hv, ↓dhg_A_3 hv, ↓dhq_A_3 hv, ↓dhg_A_4 hv, ↓dhq_A_4 hv, ↓dhG_A_5 hv, ↓dhG_A_6 hv, ↓dhG_A_7 hv, ↓dhG_A_8 hv, ↓dhG_A_9 hv, ↓dha_A_1 hv, ↓dhs_A_1 hv, ↓dhl_A_1 hv, ↓dha_A_2 hv, ↓dhs_A_2 hv, ↓dhl_A_2 hv, ↓dha_A_3 hv, ↓dhs_A_3 hv, ↓dhl_A_3 hv, ↓dha_A_4 hv, ↓dhs_A_4 hv, ↓dhl_A_4 hv, ↓dha_A_5 hv, ↓dhs_A_5 hv, ↓dhl_A_5 hv, Option.bind_some, ↓nm_eq, ↓sm_inl, ↓sm_inr, ↓dzo_0, ↓dzo_1, ↓drg_ok, ↓if_pos, ↓if_neg, if_pos, if_neg, if_true, if_false, Int.toNat_natCast, rg_ok, ↓bnd er, ↓bnd ef, ↓dhi_F, ek]
        · rw [if_neg (fun z => c ⟨z, c0⟩)] at hit
          rw [hit] at ef
          by_cases hvi : vI g (x / 6) (x % 6)
          · have hrg : gi_ok (J (v + 1) (150 * s + x)) := by have := (hV _ _ hvi).1; rwa [ac_x] at this
            have hrg' : -2147483648 ≤ J (v + 1) (150 * s + x) ∧ J (v + 1) (150 * s + x) ≤ 2147483647 := hrg
            simp (disch := omega) only [l_X0_symbolsInFront_4, b_X0_symbolsInFront_4, b_X0_symbolsInFront_43, ↓dhi_A hv, ↓dhG_A_0 hv, ↓dhg_A_1 hv, ↓dhq_A_1 hv, ↓dhg_A_2 hv, ↓dhq_A_2 hv, ↓dhg_A_3 hv, ↓dhq_A_3 hv, ↓dhg_A_4 hv, ↓dhq_A_4 hv, ↓dhG_A_5 hv, ↓dhG_A_6 hv, ↓dhG_A_7 hv, ↓dhG_A_8 hv, ↓dhG_A_9 hv, ↓dha_A_1 hv, ↓dhs_A_1 hv, ↓dhl_A_1 hv, ↓dha_A_2 hv, ↓dhs_A_2 hv, ↓dhl_A_2 hv, ↓dha_A_3 hv, ↓dhs_A_3 hv, ↓dhl_A_3 hv, ↓dha_A_4 hv, ↓dhs_A_4 hv, ↓dhl_A_4 hv, ↓dha_A_5 hv, ↓dhs_A_5 hv, ↓dhl_A_5 hv, Option.bind_some, ↓nm_eq, ↓sm_inl, ↓sm_inr, ↓dzo_0, ↓dzo_1, ↓drg_ok, ↓if_pos, ↓if_neg, if_pos, if_neg, if_true, if_false, Int.toNat_natCast, rg_ok, ↓bnd er, ↓bnd ef, ↓dhi_F, ek]
          · exact absurd (hZ x hx hvi) c0
      · rcases uniq p k z2 z3 z1 with z | ⟨y1, y2⟩
        · exact ⟨p, k, z, z2, z3, z4⟩
        · exfalso
          apply c
          rw [y1, y2] at z2 z3
          refine ⟨z2, ?_⟩
          have := (VR_0 hV z3.1).mpr z3.2
          rwa [ac_x] at this
  · rintro f y hy
    refine ⟨y, ?_, fun i hi => (hy i hi).trans ⟨fun ⟨p, k, z1, z2⟩ => ⟨p, k, z2⟩, fun ⟨p, k, z1, z2⟩ => ⟨p, k, by have := vI_6 hg z2.1.1; have := gX_l5 hg p; omega, z1, z2⟩⟩⟩
    simp (disch := omega) only [l_X0_symbolsInFront_4, b_X0_symbolsInFront_4, Option.bind_some, ↓nm_eq, ↓sm_inl, ↓sm_inr, ↓dzo_0, ↓dzo_1, ↓drg_ok, ↓if_pos, ↓if_neg, if_pos, if_neg, if_true, if_false, Int.toNat_natCast, rg_ok]
/-- the fresh row -/
theorem X0_fresh (hn : 1000000000000000000000000000000 ≤ n) {v : Nat} (hv : v ∈ [73, 79]) {J0 : Nat → Nat → Int} (hE : CE u g N F J0) {s : Nat} (hs : s < 80) (hV : VR g (v + 1) (ac s) J0) {X : Nat} (hX : X < 8 ∨ (16 ≤ X ∧ X < 32)) :
    ∃ J', f_X0_advance n v (s : Int) (X : Int) (hp u J0 L) = b_X0_advance_51 n v (s : Int) (X : Int) (hp u J' L) ∧ Fr [v + 5] J0 J' ∧ VR g (v + 5) af J' ∧ RZ g (v + 5) 0 J' ∧ SR g (v + 5) af J' = adv false g (SR g (v + 1) (ac s) J0) (zix X) := by
  have hg := hE.gr
  have hCE : ∀ J, Fr [v + 5] J0 J → CE u g N F J := fun J f => hE.fr f (by simp at hv ⊢; omega)
  have h5 : h0S.getD (v + 5) (0, 0) = (1, 150) ∧ v + 5 < 162 := by
    have key : ∀ v ∈ [73, 79], h0S.getD (v + 5) (0, 0) = (1, 150) ∧ v + 5 < 162 := by decide
    exact key v hv
  obtain ⟨J1, e1, f1, v1⟩ := J7_fill (u := u) (L := L) (I := J0) (x := 0) (a := v + 5) (N := 150) hn h5.1 h5.2 (by decide)
  suffices key : zLP 149 (fun f x (J : Nat → Nat → Int) => l_X0_advance_10 n f v (s : Int) (X : Int) (x : Int) (hp u J L))
      (fun x J => Fr [v + 5] J0 J ∧ J (v + 5) 0 = 0 ∧ ∀ y, y < 149 → J (v + 5) (y + 1) = if y < x ∧ J0 71 y = (X : Int) then J0 (v + 1) (150 * s + y) else 0)
      (fun res => ∃ J', res = b_X0_advance_51 n v (s : Int) (X : Int) (hp u J' L) ∧ Fr [v + 5] J0 J' ∧ J' (v + 5) 0 = 0 ∧ ∀ y, y < 149 → J' (v + 5) (y + 1) = if J0 71 y = (X : Int) then J0 (v + 1) (150 * s + y) else 0) by
    obtain ⟨J', e, a1, a2, a3⟩ := key 149 n 0 J1 (by omega) (by omega) ⟨f1, by rw [v1]; rfl, fun y hy => by rw [v1, if_pos (by omega), if_neg (by omega)]⟩
    have hit : ∀ p k, vI g p k → J0 71 (6 * p + k) = (if k < Gl (gX g) p then (Gs (gX g) p k : Int) else -1) := fun p k h => (hE.it (vI_6 hg h).1 (vI_6 hg h).2).1
    -- what is at an item of the fresh row
    have val : ∀ p k, vI g p k → (k = 0 ∧ J' (v + 5) (af p k) = 0) ∨ ∃ k', k = k' + 1 ∧ k' < Gl (gX g) p ∧ vI g p k' ∧ J' (v + 5) (af p k) = if Gs (gX g) p k' = X then J0 (v + 1) (ac s p k') else 0 := by
      intro p k h
      have h6 := vI_6 hg h
      by_cases e0 : k = 0
      · left
        refine ⟨e0, ?_⟩
        by_cases ep : p = 0
        · rw [e0, ep]; exact a2
        · have h3 := a3 (6 * p - 1) (by omega)
          rw [show 6 * p - 1 + 1 = af p k by unfold af; omega] at h3
          rw [h3, if_neg]
          have hi := (hE.it (show p - 1 ≤ 24 by omega) (show 5 ≤ 5 by omega)).1
          rw [show 6 * (p - 1) + 5 = 6 * p - 1 by omega] at hi
          have := gX_l5 hg (p - 1)
          rw [hi, if_neg (by omega)]; omega
      · right
        obtain ⟨k', rfl⟩ : ∃ k', k = k' + 1 := ⟨k - 1, by omega⟩
        have hk' : k' < Gl (gX g) p := by have := h.2; omega
        have hv' : vI g p k' := ⟨h.1, by omega⟩
        refine ⟨k', rfl, hk', hv', ?_⟩
        have h3 := a3 (6 * p + k') (by have := gX_l5 hg p; omega)
        rw [show 6 * p + k' + 1 = af p (k' + 1) from rfl] at h3
        rw [h3, hit p k' hv', if_pos hk']
        by_cases e : Gs (gX g) p k' = X
        · rw [if_pos e, if_pos (by omega)]; rfl
        · rw [if_neg e, if_neg (by omega)]
    have eAd : f_X0_advance n v (s : Int) (X : Int) (hp u J0 L) = l_X0_advance_10 n n v (s : Int) (X : Int) 0 (hp u J1 L) := by
      simp (disch := omega) only [f_X0_advance, ↓dhi_A hv, ↓dhG_A_0 hv, ↓dhg_A_1 hv, ↓dhq_A_1 hv, ↓dhg_A_2 hv, ↓dhq_A_2 hv, ↓dhg_A_3 hv, ↓dhq_A_3 hv, ↓dhg_A_4 hv, ↓dhq_A_4 hv, ↓dhG_A_5 hv, ↓dhG_A_6 hv, ↓dhG_A_7 hv, ↓dhG_A_8 hv, ↓dhG_A_9 hv, ↓dha_A_1 hv, ↓dhs_A_1 hv, ↓dhl_A_1 hv, ↓dha_A_2 hv, ↓dhs_A_2 hv, ↓dhl_A_2 hv, ↓dha_A_3 hv, ↓dhs_A_3 hv, ↓dhl_A_3 hv, ↓dha_A_4 hv, ↓dhs_A_4 hv, ↓dhl_A_4 hv, ↓dha_A_5 hv, ↓dhs_A_5 hv, ↓dhl_A_5 hv, Option.bind_some, ↓nm_eq, ↓sm_inl, ↓sm_inr, ↓dzo_0, ↓dzo_1, ↓drg_ok, ↓if_pos, ↓if_neg, if_pos, if_neg, if_true, if_false, Int.toNat_natCast, rg_ok, ↓bnd e1]
    refine ⟨J', eAd.trans e, a1, fun p k h => ?_, fun x hx h => ?_, ?_⟩
    · rcases val p k h with ⟨-, z⟩ | ⟨k', -, -, hv', z⟩
      · rw [z]; exact ⟨by decide, fun t ht => by rw [bt_zero] at ht; exact absurd ht (by decide), Or.inl rfl⟩
      · rw [z]
        split
        · exact hV p k' hv'
        · exact ⟨by decide, fun t ht => by rw [bt_zero] at ht; exact absurd ht (by decide), Or.inl rfl⟩
    · rw [Nat.zero_add]
      by_cases e0 : x = 0
      · rw [e0]; exact a2
      · have h3 := a3 (x - 1) (by omega)
        rw [show x - 1 + 1 = x by omega] at h3
        rw [h3, if_neg]
        intro z
        apply h
        have hi := (hE.it (show (x - 1) / 6 ≤ 24 by omega) (show (x - 1) % 6 ≤ 5 by omega)).1
        rw [show 6 * ((x - 1) / 6) + (x - 1) % 6 = x - 1 by omega, z] at hi
        split at hi
        · next c =>
          have h5 := gX_l5 hg ((x - 1) / 6)
          have hpv := gX_pv hg c
          have e1 : x / 6 = (x - 1) / 6 := by omega
          have e2 : x % 6 = (x - 1) % 6 + 1 := by omega
          exact ⟨by rw [e1]; exact hpv, by rw [e1, e2]; omega⟩
        · omega
    · funext p k t
      apply propext
      constructor
      · rintro ⟨h, hb⟩
        rcases val p k h with ⟨-, z⟩ | ⟨k', e1, e2, hv', z⟩
        · rw [z, bt_zero] at hb; exact absurd hb (by decide)
        · rw [z] at hb
          split at hb
          · next c =>
            have h0 := (VR_0 hV hv').mp (fun y => by rw [y, bt_zero] at hb; exact absurd hb (by decide))
            exact ⟨fun q => absurd q (by decide), k', e1, h.1, e2, by rw [c], ⟨hv', h0⟩, ⟨hv', hb⟩⟩
          · rw [bt_zero] at hb; exact absurd hb (by decide)
      · rintro ⟨-, k', e1, h1, e2, e3, h9, ht⟩
        have hvI : vI g p k := ⟨h1, by omega⟩
        refine ⟨hvI, ?_⟩
        have hc := zix_inj (gX_sr hg e2) hX e3
        rcases val p k hvI with ⟨z, -⟩ | ⟨k'', y1, y2, hv', z⟩
        · omega
        · have : k'' = k' := by omega
          subst this
          rw [z, if_pos hc]; exact ht.2
  refine zlp ?_ ?_
  · rintro f x J hx ⟨f2, z0, hz⟩
    right
    have hEJ := hCE J f2
    have ef := X3_front (u := u) (J := J) (L := L) (show x < 150 by omega)
    have e71 : J 71 x = J0 71 x := by rw [f2 71 (by simp at hv ⊢; omega)]
    rw [e71] at ef
    have er := X0_row (u := u) (L := L) hv (J := J) hs (show x < 150 by omega)
    have er1 : J (v + 1) (150 * s + x) = J0 (v + 1) (150 * s + x) := by rw [f2 (v + 1) (by simp)]
    rw [er1] at er
    have ek : (x : Int) + 1 = ((x + 1 : Nat) : Int) := by omega
    have hrg : -2147483648 ≤ J0 71 x ∧ J0 71 x ≤ 2147483647 := by
      have hi := (hE.it (show x / 6 ≤ 24 by omega) (show x % 6 ≤ 5 by omega)).1
      rw [show 6 * (x / 6) + x % 6 = x by omega] at hi
      split at hi
      · next c => have := gX_sr hg c; omega
      · omega
    by_cases c : J0 71 x = (X : Int)
    · refine ⟨gx_u J (v + 5) (x + 1) (J0 (v + 1) (150 * s + x)), ?_, f2.wr (by simp), by rw [gu_at_ne (by omega)]; exact z0, fun y hy => ?_⟩
      · rw [c] at ef
        simp (disch := omega) only [l_X0_advance_10, b_X0_advance_10, b_X0_advance_45, ↓dhi_A hv, ↓dhG_A_0 hv, ↓dhg_A_1 hv, ↓dhq_A_1 hv, ↓dhg_A_2 hv, ↓dhq_A_2 hv, ↓dhg_A_3 hv, ↓dhq_A_3 hv, ↓dhg_A_4 hv, ↓dhq_A_4 hv, ↓dhG_A_5 hv, ↓dhG_A_6 hv, ↓dhG_A_7 hv, ↓dhG_A_8 hv, ↓dhG_A_9 hv, ↓dha_A_1 hv, ↓dhs_A_1 hv, ↓dhl_A_1 hv, ↓dha_A_2 hv, ↓dhs_A_2 hv, ↓dhl_A_2 hv, ↓dha_A_3 hv, ↓dhs_A_3 hv, ↓dhl_A_3 hv, ↓dha_A_4 hv, ↓dhs_A_4 hv, ↓dhl_A_4 hv, ↓dha_A_5 hv, ↓dhs_A_5 hv, ↓dhl_A_5 hv, Option.bind_some, ↓nm_eq, ↓sm_inl, ↓sm_inr, ↓dzo_0, ↓dzo_1, ↓drg_ok, ↓if_pos, ↓if_neg, if_pos, if_neg, if_true, if_false, Int.toNat_natCast, rg_ok, ↓bnd er, ↓bnd ef, ↓dhi_F, ek]
      · by_cases e : y = x
        · rw [e, gu_at_eq rfl, if_pos ⟨by omega, c⟩]
        · rw [gu_at_ne (by omega), hz y hy]
          by_cases e2 : y < x ∧ J0 71 y = (X : Int)
          · rw [if_pos e2, if_pos ⟨by omega, e2.2⟩]
          · rw [if_neg e2, if_neg (fun z => e2 ⟨by omega, z.2⟩)]
    · refine ⟨J, ?_, f2, z0, fun y hy => ?_⟩
      · simp (disch := omega) only [l_X0_advance_10, b_X0_advance_10, b_X0_advance_45, ↓dhi_A hv, ↓dhG_A_0 hv, ↓dhg_A_1 hv, ↓dhq_A_1 hv, ↓dhg_A_2 hv, ↓dhq_A_2 hv, ↓dhg_A_3 hv, ↓dhq_A_3 hv, ↓dhg_A_4 hv, ↓dhq_A_4 hv, ↓dhG_A_5 hv, ↓dhG_A_6 hv, ↓dhG_A_7 hv, ↓dhG_A_8 hv, ↓dhG_A_9 hv, ↓dha_A_1 hv, ↓dhs_A_1 hv, ↓dhl_A_1 hv, ↓dha_A_2 hv, ↓dhs_A_2 hv, ↓dhl_A_2 hv, ↓dha_A_3 hv, ↓dhs_A_3 hv, ↓dhl_A_3 hv, ↓dha_A_4 hv, ↓dhs_A_4 hv, ↓dhl_A_4 hv, ↓dha_A_5 hv, ↓dhs_A_5 hv, ↓dhl_A_5 hv, Option.bind_some, ↓nm_eq, ↓sm_inl, ↓sm_inr, ↓dzo_0, ↓dzo_1, ↓drg_ok, ↓if_pos, ↓if_neg, if_pos, if_neg, if_true, if_false, Int.toNat_natCast, rg_ok, ↓bnd er, ↓bnd ef, ↓dhi_F, ek]
      · rw [hz y hy]
        by_cases e2 : y < x ∧ J0 71 y = (X : Int)
        · rw [if_pos e2, if_pos ⟨by omega, e2.2⟩]
        · rw [if_neg e2, if_neg]
          rintro ⟨y1, y2⟩
          by_cases e : y = x
          · rw [e] at y2; exact c y2
          · exact e2 ⟨by omega, y2⟩
  · rintro f J ⟨f2, z0, hz⟩
    refine ⟨J, ?_, f2, z0, fun y hy => ?_⟩
    · simp (disch := omega) only [l_X0_advance_10, b_X0_advance_10, Option.bind_some, ↓nm_eq, ↓sm_inl, ↓sm_inr, ↓dzo_0, ↓dzo_1, ↓drg_ok, ↓if_pos, ↓if_neg, if_pos, if_neg, if_true, if_false, Int.toNat_natCast, rg_ok]
    · rw [hz y hy]
      by_cases e : J0 71 y = (X : Int)
      · rw [if_pos e, if_pos ⟨hy, e⟩]
      · rw [if_neg e, if_neg (fun z => e z.2)]
/-- whether a state begins with the fresh row -/
def BQ (v : Nat) (J : Nat → Nat → Int) (t : Nat) : Prop := ∀ x, x < 150 → x % 6 ≠ 0 → (J v 1 = 0 → J (v + 1) (150 * t + x) = J (v + 5) x) ∧ (J v 1 ≠ 0 → (J (v + 1) (150 * t + x) = 0 ↔ J (v + 5) x = 0))
theorem X0_beginsFresh (hn : 1000000000000000000000000000000 ≤ n) {v : Nat} (hv : v ∈ [73, 79]) {J : Nat → Nat → Int} {t : Nat} (ht : t < 80) (hm : J v 1 = 0 ∨ J v 1 = 1) (h1 : ∀ x, x < 150 → gi_ok (J (v + 1) (150 * t + x))) (h2 : ∀ x, x < 150 → gi_ok (J (v + 5) x)) :
    (f_X0_beginsFresh n v (t : Int) (hp u J L) = some 1 ∧ BQ v J t) ∨ (f_X0_beginsFresh n v (t : Int) (hp u J L) = some 0 ∧ ¬ BQ v J t) := by
  suffices key : zLP 150 (fun f x (_ : Unit) => l_X0_beginsFresh_14 n f v (t : Int) (x : Int) (hp u J L)) (fun x _ => ∀ y, y < x → y % 6 ≠ 0 → (J v 1 = 0 → J (v + 1) (150 * t + y) = J (v + 5) y) ∧ (J v 1 ≠ 0 → (J (v + 1) (150 * t + y) = 0 ↔ J (v + 5) y = 0)))
      (fun res => (res = some 1 ∧ BQ v J t) ∨ (res = some 0 ∧ ¬ BQ v J t)) by
    have e := key 150 n 0 () (by omega) (by omega) (fun y hy => absurd hy (by omega))
    have e2 : f_X0_beginsFresh n v (t : Int) (hp u J L) = l_X0_beginsFresh_14 n n v (t : Int) 0 (hp u J L) := by
      simp (disch := omega) only [f_X0_beginsFresh, Option.bind_some, ↓nm_eq, ↓sm_inl, ↓sm_inr, ↓dzo_0, ↓dzo_1, ↓drg_ok, ↓if_pos, ↓if_neg, if_pos, if_neg, if_true, if_false, Int.toNat_natCast, rg_ok]
    rw [e2]; exact e
  refine zlp ?_ ?_
  · rintro f x ⟨⟩ hx hy
    have ek : (x : Int) + 1 = ((x + 1 : Nat) : Int) := by omega
    have q1 : -2147483648 ≤ J (v + 1) (150 * t + x) ∧ J (v + 1) (150 * t + x) ≤ 2147483647 := h1 x hx
    have q2 : -2147483648 ≤ J (v + 5) x ∧ J (v + 5) x ≤ 2147483647 := h2 x hx
    have ei : ((t : Int) * 150 + (x : Int)).toNat = 150 * t + x := by omega
    by_cases c6 : x % 6 = 0
    · right
      refine ⟨(), ?_, fun y hy' h6 => hy y (by
        by_cases e : y = x
        · rw [e] at h6; exact absurd c6 h6
        · omega) h6⟩
      simp (disch := omega) only [l_X0_beginsFresh_14, b_X0_beginsFresh_14, b_X0_beginsFresh_106, ↓ddg_ok, ↓dhi_A hv, ↓dhG_A_0 hv, ↓dhg_A_1 hv, ↓dhq_A_1 hv, ↓dhg_A_2 hv, ↓dhq_A_2 hv, ↓dhg_A_3 hv, ↓dhq_A_3 hv, ↓dhg_A_4 hv, ↓dhq_A_4 hv, ↓dhG_A_5 hv, ↓dhG_A_6 hv, ↓dhG_A_7 hv, ↓dhG_A_8 hv, ↓dhG_A_9 hv, ↓dha_A_1 hv, ↓dhs_A_1 hv, ↓dhl_A_1 hv, ↓dha_A_2 hv, ↓dhs_A_2 hv, ↓dhl_A_2 hv, ↓dha_A_3 hv, ↓dhs_A_3 hv, ↓dhl_A_3 hv, ↓dha_A_4 hv, ↓dhs_A_4 hv, ↓dhl_A_4 hv, ↓dha_A_5 hv, ↓dhs_A_5 hv, ↓dhl_A_5 hv, Option.bind_some, ↓nm_eq, ↓sm_inl, ↓sm_inr, ↓dzo_0, ↓dzo_1, ↓drg_ok, ↓if_pos, ↓if_neg, if_pos, if_neg, if_true, if_false, Int.toNat_natCast, rg_ok, ek]
    · have go : ∀ b : Bool, (b = true ↔ ((J v 1 = 0 → J (v + 1) (150 * t + x) = J (v + 5) x) ∧ (J v 1 ≠ 0 → (J (v + 1) (150 * t + x) = 0 ↔ J (v + 5) x = 0)))) → l_X0_beginsFresh_14 n (f + 1) v (t : Int) (x : Int) (hp u J L) = (if b then l_X0_beginsFresh_14 n f v (t : Int) ((x + 1 : Nat) : Int) (hp u J L) else some 0) → (((l_X0_beginsFresh_14 n (f + 1) v (t : Int) (x : Int) (hp u J L) = some 1 ∧ BQ v J t) ∨ (l_X0_beginsFresh_14 n (f + 1) v (t : Int) (x : Int) (hp u J L) = some 0 ∧ ¬ BQ v J t)) ∨ ∃ s' : Unit, l_X0_beginsFresh_14 n (f + 1) v (t : Int) (x : Int) (hp u J L) = l_X0_beginsFresh_14 n f v (t : Int) ((x + 1 : Nat) : Int) (hp u J L) ∧ ∀ y, y < x + 1 → y % 6 ≠ 0 → (J v 1 = 0 → J (v + 1) (150 * t + y) = J (v + 5) y) ∧ (J v 1 ≠ 0 → (J (v + 1) (150 * t + y) = 0 ↔ J (v + 5) y = 0))) := by
        intro b hb he
        cases b with
        | true =>
          right
          refine ⟨(), by rw [he]; rfl, fun y hy' h6 => ?_⟩
          by_cases e : y = x
          · rw [e]; exact hb.mp rfl
          · exact hy y (by omega) h6
        | false =>
          left; right
          refine ⟨by rw [he]; rfl, fun z => ?_⟩
          have := hb.mpr (z x hx c6)
          exact absurd this (by decide)
      rcases hm with m0 | m1
      · by_cases c : J (v + 1) (150 * t + x) = J (v + 5) x
        · refine go true ⟨fun _ => ⟨fun _ => c, fun z => absurd m0 z⟩, fun _ => rfl⟩ ?_
          simp (disch := omega) only [l_X0_beginsFresh_14, b_X0_beginsFresh_14, b_X0_beginsFresh_97, b_X0_beginsFresh_106, ↓ddg_ok, ↓dhi_A hv, ↓dhG_A_0 hv, ↓dhg_A_1 hv, ↓dhq_A_1 hv, ↓dhg_A_2 hv, ↓dhq_A_2 hv, ↓dhg_A_3 hv, ↓dhq_A_3 hv, ↓dhg_A_4 hv, ↓dhq_A_4 hv, ↓dhG_A_5 hv, ↓dhG_A_6 hv, ↓dhG_A_7 hv, ↓dhG_A_8 hv, ↓dhG_A_9 hv, ↓dha_A_1 hv, ↓dhs_A_1 hv, ↓dhl_A_1 hv, ↓dha_A_2 hv, ↓dhs_A_2 hv, ↓dhl_A_2 hv, ↓dha_A_3 hv, ↓dhs_A_3 hv, ↓dhl_A_3 hv, ↓dha_A_4 hv, ↓dhs_A_4 hv, ↓dhl_A_4 hv, ↓dha_A_5 hv, ↓dhs_A_5 hv, ↓dhl_A_5 hv, Option.bind_some, ↓nm_eq, ↓sm_inl, ↓sm_inr, ↓dzo_0, ↓dzo_1, ↓drg_ok, ↓if_pos, ↓if_neg, if_pos, if_neg, if_true, if_false, Int.toNat_natCast, rg_ok, ek, ei, m0, c]
        · refine go false ⟨fun z => absurd z (by decide), fun z => absurd (z.1 m0) c⟩ ?_
          simp (disch := omega) only [l_X0_beginsFresh_14, b_X0_beginsFresh_14, b_X0_beginsFresh_97, b_X0_beginsFresh_106, ↓ddg_ok, ↓dhi_A hv, ↓dhG_A_0 hv, ↓dhg_A_1 hv, ↓dhq_A_1 hv, ↓dhg_A_2 hv, ↓dhq_A_2 hv, ↓dhg_A_3 hv, ↓dhq_A_3 hv, ↓dhg_A_4 hv, ↓dhq_A_4 hv, ↓dhG_A_5 hv, ↓dhG_A_6 hv, ↓dhG_A_7 hv, ↓dhG_A_8 hv, ↓dhG_A_9 hv, ↓dha_A_1 hv, ↓dhs_A_1 hv, ↓dhl_A_1 hv, ↓dha_A_2 hv, ↓dhs_A_2 hv, ↓dhl_A_2 hv, ↓dha_A_3 hv, ↓dhs_A_3 hv, ↓dhl_A_3 hv, ↓dha_A_4 hv, ↓dhs_A_4 hv, ↓dhl_A_4 hv, ↓dha_A_5 hv, ↓dhs_A_5 hv, ↓dhl_A_5 hv, Option.bind_some, ↓nm_eq, ↓sm_inl, ↓sm_inr, ↓dzo_0, ↓dzo_1, ↓drg_ok, ↓if_pos, ↓if_neg, if_pos, if_neg, if_true, if_false, Int.toNat_natCast, rg_ok, ek, ei, m0, c]
          rfl
      · by_cases c1 : J (v + 1) (150 * t + x) = 0
        · by_cases c2 : J (v + 5) x = 0
          · refine go true ⟨fun _ => ⟨fun z => absurd (z.symm.trans m1) (by decide), fun _ => ⟨fun _ => c2, fun _ => c1⟩⟩, fun _ => rfl⟩ ?_
            simp (disch := omega) only [l_X0_beginsFresh_14, b_X0_beginsFresh_14, b_X0_beginsFresh_57, b_X0_beginsFresh_71, b_X0_beginsFresh_97, b_X0_beginsFresh_106, ↓ddg_ok, ↓dhi_A hv, ↓dhG_A_0 hv, ↓dhg_A_1 hv, ↓dhq_A_1 hv, ↓dhg_A_2 hv, ↓dhq_A_2 hv, ↓dhg_A_3 hv, ↓dhq_A_3 hv, ↓dhg_A_4 hv, ↓dhq_A_4 hv, ↓dhG_A_5 hv, ↓dhG_A_6 hv, ↓dhG_A_7 hv, ↓dhG_A_8 hv, ↓dhG_A_9 hv, ↓dha_A_1 hv, ↓dhs_A_1 hv, ↓dhl_A_1 hv, ↓dha_A_2 hv, ↓dhs_A_2 hv, ↓dhl_A_2 hv, ↓dha_A_3 hv, ↓dhs_A_3 hv, ↓dhl_A_3 hv, ↓dha_A_4 hv, ↓dhs_A_4 hv, ↓dhl_A_4 hv, ↓dha_A_5 hv, ↓dhs_A_5 hv, ↓dhl_A_5 hv, Option.bind_some, ↓nm_eq, ↓sm_inl, ↓sm_inr, ↓dzo_0, ↓dzo_1, ↓drg_ok, ↓if_pos, ↓if_neg, if_pos, if_neg, if_true, if_false, Int.toNat_natCast, rg_ok, ek, ei, m1, c1, c2]
          · refine go false ⟨fun z => absurd z (by decide), fun z => absurd ((z.2 (by omega)).mp c1) c2⟩ ?_
            simp (disch := omega) only [l_X0_beginsFresh_14, b_X0_beginsFresh_14, b_X0_beginsFresh_57, b_X0_beginsFresh_71, b_X0_beginsFresh_97, b_X0_beginsFresh_106, ↓ddg_ok, ↓dhi_A hv, ↓dhG_A_0 hv, ↓dhg_A_1 hv, ↓dhq_A_1 hv, ↓dhg_A_2 hv, ↓dhq_A_2 hv, ↓dhg_A_3 hv, ↓dhq_A_3 hv, ↓dhg_A_4 hv, ↓dhq_A_4 hv, ↓dhG_A_5 hv, ↓dhG_A_6 hv, ↓dhG_A_7 hv, ↓dhG_A_8 hv, ↓dhG_A_9 hv, ↓dha_A_1 hv, ↓dhs_A_1 hv, ↓dhl_A_1 hv, ↓dha_A_2 hv, ↓dhs_A_2 hv, ↓dhl_A_2 hv, ↓dha_A_3 hv, ↓dhs_A_3 hv, ↓dhl_A_3 hv, ↓dha_A_4 hv, ↓dhs_A_4 hv, ↓dhl_A_4 hv, ↓dha_A_5 hv, ↓dhs_A_5 hv, ↓dhl_A_5 hv, Option.bind_some, ↓nm_eq, ↓sm_inl, ↓sm_inr, ↓dzo_0, ↓dzo_1, ↓drg_ok, ↓if_pos, ↓if_neg, if_pos, if_neg, if_true, if_false, Int.toNat_natCast, rg_ok, ek, ei, m1, c1, c2]
            rfl
        · by_cases c2 : J (v + 5) x = 0
          · refine go false ⟨fun z => absurd z (by decide), fun z => absurd ((z.2 (by omega)).mpr c2) c1⟩ ?_
            simp (disch := omega) only [l_X0_beginsFresh_14, b_X0_beginsFresh_14, b_X0_beginsFresh_57, b_X0_beginsFresh_71, b_X0_beginsFresh_97, b_X0_beginsFresh_106, ↓ddg_ok, ↓dhi_A hv, ↓dhG_A_0 hv, ↓dhg_A_1 hv, ↓dhq_A_1 hv, ↓dhg_A_2 hv, ↓dhq_A_2 hv, ↓dhg_A_3 hv, ↓dhq_A_3 hv, ↓dhg_A_4 hv, ↓dhq_A_4 hv, ↓dhG_A_5 hv, ↓dhG_A_6 hv, ↓dhG_A_7 hv, ↓dhG_A_8 hv, ↓dhG_A_9 hv, ↓dha_A_1 hv, ↓dhs_A_1 hv, ↓dhl_A_1 hv, ↓dha_A_2 hv, ↓dhs_A_2 hv, ↓dhl_A_2 hv, ↓dha_A_3 hv, ↓dhs_A_3 hv, ↓dhl_A_3 hv, ↓dha_A_4 hv, ↓dhs_A_4 hv, ↓dhl_A_4 hv, ↓dha_A_5 hv, ↓dhs_A_5 hv, ↓dhl_A_5 hv, Option.bind_some, ↓nm_eq, ↓sm_inl, ↓sm_inr, ↓dzo_0, ↓dzo_1, ↓drg_ok, ↓if_pos, ↓if_neg, if_pos, if_neg, if_true, if_false, Int.toNat_natCast, rg_ok, ek, ei, m1, c2]
            rfl
          · refine go true ⟨fun _ => ⟨fun z => absurd (z.symm.trans m1) (by decide), fun _ => ⟨fun z => absurd z c1, fun z => absurd z c2⟩⟩, fun _ => rfl⟩ ?_
            simp (disch := omega) only [l_X0_beginsFresh_14, b_X0_beginsFresh_14, b_X0_beginsFresh_57, b_X0_beginsFresh_71, b_X0_beginsFresh_97, b_X0_beginsFresh_106, ↓ddg_ok, ↓dhi_A hv, ↓dhG_A_0 hv, ↓dhg_A_1 hv, ↓dhq_A_1 hv, ↓dhg_A_2 hv, ↓dhq_A_2 hv, ↓dhg_A_3 hv, ↓dhq_A_3 hv, ↓dhg_A_4 hv, ↓dhq_A_4 hv, ↓dhG_A_5 hv, ↓dhG_A_6 hv, ↓dhG_A_7 hv, ↓dhG_A_8 hv, ↓dhG_A_9 hv, ↓dha_A_1 hv, ↓dhs_A_1 hv, ↓dhl_A_1 hv, ↓dha_A_2 hv, ↓dhs_A_2 hv, ↓dhl_A_2 hv, ↓dha_A_3 hv, ↓dhs_A_3 hv, ↓dhl_A_3 hv, ↓dha_A_4 hv, ↓dhs_A_4 hv, ↓dhl_A_4 hv, ↓dha_A_5 hv, ↓dhs_A_5 hv, ↓dhl_A_5 hv, Option.bind_some, ↓nm_eq, ↓sm_inl, ↓sm_inr, ↓dzo_0, ↓dzo_1, ↓drg_ok, ↓if_pos, ↓if_neg, if_pos, if_neg, if_true, if_false, Int.toNat_natCast, rg_ok, ek, ei, m1]
  · rintro f ⟨⟩ hy
    left
    refine ⟨?_, hy⟩
    simp (disch := omega) only [l_X0_beginsFresh_14, b_X0_beginsFresh_14, Option.bind_some, ↓nm_eq, ↓sm_inl, ↓sm_inr, ↓dzo_0, ↓dzo_1, ↓drg_ok, ↓if_pos, ↓if_neg, if_pos, if_neg, if_true, if_false, Int.toNat_natCast, rg_ok]
end CD
