/-! ===== the class's automaton: advance ===== -/
section CG_
variable {u : Nat} {n : Nat} {L : Nat → Nat → Int} {g : GT} {N : Nat → Prop} {F : Nat → Nat → Prop} {b : Bool}
theorem bfi_step {i s x : Nat} (hb : Sb (bfi g N F b i) = false) (hs : s < Sn (bfi g N F b i)) (hx : x < 24) (hi : 24 * s + x = i) : bfi g N F b (i + 1) = bst g N F b (bfi g N F b i) s x := by
  have e1 : bfi g N F b (i + 1) = zif (Sb (bfi g N F b i) = true ∨ Sn (bfi g N F b i) ≤ i / 24) (bfi g N F b i) (bst g N F b (bfi g N F b i) (i / 24) (i % 24)) := rfl
  rw [e1, zif_n (by rw [hb]; rintro (z | z)
                    · exact absurd z (by decide)
                    · omega), show i / 24 = s by omega, show i % 24 = x by omega]
theorem bit_row {v t : Nat} {J : Nat → Nat → Int} (hV : VR g (v + 1) (ac t) J) (hZ : RZ g (v + 1) (150 * t) J) {x y : Nat} (hx : x < 150) (hb : bt (J (v + 1) (150 * t + x)) y = true) : vI g (x / 6) (x % 6) ∧ SR g (v + 1) (ac t) J (x / 6) (x % 6) y := by
  have hv : vI g (x / 6) (x % 6) := by
    apply Classical.byContradiction; intro q
    rw [hZ x hx q, bt_zero] at hb; exact absurd hb (by decide)
  exact ⟨hv, hv, by rw [ac_x]; exact hb⟩
theorem X0_advance (hn : 1000000000000000000000000000000 ≤ n) {v : Nat} (hv : v ∈ [73, 79]) {J0 : Nat → Nat → Int} {i i' s X : Nat} (h : CB u v g N F b i J0) (hs : s < Sn (bfi g N F b i)) (hX : X < 8 ∨ (16 ≤ X ∧ X < 32)) (hR : ROK b (SR g (v + 1) (ac s) J0) (CL g N F (SK (bfi g N F b i) s))) (hne : ∃ p k, k < Gl (gX g) p ∧ SR g (v + 1) (ac s) J0 p k 9 ∧ Gs (gX g) p k = X) (hi : (24 * s + zix X = i ∧ i' = i + 1) ∨ (24 * s + zix X < i ∧ i' = i)) :
    ∃ J', f_X0_advance n v (s : Int) (X : Int) (hp u J0 L) = some (hp u J' L) ∧ Fr [v, v + 1, v + 2, v + 3, v + 4, v + 5] J0 J' ∧ (∀ j, j ≠ 3 → j ≠ 4 → J' v j = J0 v j) ∧
      ((i' = i + 1 ∧ Sb (bfi g N F b i') = true ∧ J' v 3 = 1 ∧ J' v 4 = 80) ∨
       (CB u v g N F b i' J' ∧ psi v J0 (Sn (bfi g N F b i)) ≤ psi v J' (Sn (bfi g N F b i')) ∧ ∃ t : Nat, Sm (bfi g N F b i') s (zix X) = (t : Int) ∧ t < Sn (bfi g N F b i') ∧ Sn (bfi g N F b i) ≤ Sn (bfi g N F b i') ∧ (∀ t', t' < Sn (bfi g N F b i') → t' < Sn (bfi g N F b i) ∨ t' = t) ∧
        (∀ t', t' < Sn (bfi g N F b i) → ((∀ x, x < 150 → J' (v + 1) (150 * t' + x) = J0 (v + 1) (150 * t' + x)) ∧ J' (v + 4) t' = J0 (v + 4) t') ∨ (t' = t ∧ b = true ∧ (∀ p k y, SR g (v + 1) (ac t) J' p k y ↔ SR g (v + 1) (ac t) J0 p k y ∨ adv false g (SR g (v + 1) (ac s) J0) (zix X) p k y) ∧ J' (v + 4) t = 1 ∧ psi v J0 (Sn (bfi g N F b i)) < psi v J' (Sn (bfi g N F b i')))) ∧
        (b = true → sAS (adv false g (SR g (v + 1) (ac s) J0) (zix X)) (SR g (v + 1) (ac t) J')) ∧
        (Sn (bfi g N F b i) ≤ t → SR g (v + 1) (ac t) J' = adv false g (SR g (v + 1) (ac s) J0) (zix X) ∧ J' (v + 4) t = 1 ∧ psi v J0 (Sn (bfi g N F b i)) < psi v J' (Sn (bfi g N F b i'))))) := by
  have hE := h.1
  have hg := hE.gr
  have hPB := PB_bfi (N := N) (F := F) (b := b) hg i
  obtain ⟨p1, p2, p3, p4, p5, p6, p7, p8⟩ := hPB
  obtain ⟨-, hm, h3, h4, hSb, hrow, ⟨he0, hent⟩, hwt, hmv⟩ := h
  have hx24 := zix_lt hX
  have hs80 : s < 80 := by omega
  obtain ⟨J1, e1, f1, fV, fZ, fS⟩ := X0_fresh (u := u) (L := L) hn hv hE hs80 (hrow s hs).1 hX
  have f1' : ∀ a, a ≠ v + 5 → J1 a = J0 a := fun a ha => f1 a (by simpa using ha)
  have hm1 : J1 v 1 = (if b then 1 else 0) := by rw [f1' v (by omega)]; exact hm
  have h41 : J1 v 4 = (Sn (bfi g N F b i) : Int) := by rw [f1' v (by omega)]; exact h4
  have hm01 : J1 v 1 = 0 ∨ J1 v 1 = 1 := by rw [hm1]; cases b <;> simp
  have hr1 : ∀ t, t < Sn (bfi g N F b i) → VR g (v + 1) (ac t) J1 ∧ RZ g (v + 1) (150 * t) J1 := fun t ht => by
    have q := hrow t ht
    refine ⟨VR_fr (fun p k _ => by rw [f1' (v + 1) (by omega)]) q.1, fun x hx hvi => ?_⟩
    rw [f1' (v + 1) (by omega)]; exact q.2.1 x hx hvi
  have hSR1 : ∀ t, SR g (v + 1) (ac t) J1 = SR g (v + 1) (ac t) J0 := fun t => SR_fr (fun p k _ => by rw [f1' (v + 1) (by omega)])
  have hok1 : ∀ t, t < Sn (bfi g N F b i) → ∀ x, x < 150 → gi_ok (J1 (v + 1) (150 * t + x)) := fun t ht x hx => by
    by_cases hvi : vI g (x / 6) (x % 6)
    · have := ((hr1 t ht).1 _ _ hvi).1; rwa [ac_x] at this
    · rw [(hr1 t ht).2 x hx hvi]; decide
  have hokf : ∀ x, x < 150 → gi_ok (J1 (v + 5) x) := fun x hx => by
    by_cases hvi : vI g (x / 6) (x % 6)
    · have := (fV _ _ hvi).1; rwa [af_x] at this
    · have := fZ x hx hvi; rw [Nat.zero_add] at this; rw [this]; decide
  have he1 : ∀ t, t < Sn (bfi g N F b i) → -1 ≤ J1 (v + 3) t ∧ J1 (v + 3) t < 32 := fun t ht => by
    rw [f1' (v + 3) (by omega)]
    by_cases e : t = 0
    · rw [e, he0]; decide
    · have := (hent t (by omega) ht).1; omega
  -- the next kernel
  have hA9 : ∃ p k, adv b g (CL g N F (SK (bfi g N F b i) s)) (zix X) p k 9 := by
    obtain ⟨p, k, q1, q2, q3⟩ := hne
    exact ⟨p, k + 1, advR hR |>.mpr ⟨fun _ => rfl, fun z => absurd z (by decide), k, rfl, q2.1.1, q1, by rw [q3], q2, q2⟩⟩
  have hcond : ∀ t, t < Sn (bfi g N F b i) → 1 ≤ t → ∀ p k y, SK (bfi g N F b i) t p k y → 1 ≤ k ∧ (b = true → y = 9) := fun t ht h1 p k y q => by
    obtain ⟨s', x', -, -, -, q4⟩ := p5 t (by omega) ht
    rw [q4] at q
    obtain ⟨q0, k', q1, -⟩ := q
    exact ⟨by omega, q0⟩
  have hAc : ∀ p k y, adv b g (CL g N F (SK (bfi g N F b i) s)) (zix X) p k y → 1 ≤ k ∧ (b = true → y = 9) := fun p k y q => by
    obtain ⟨q0, k', q1, -⟩ := q
    exact ⟨by omega, q0⟩
  have hBQ : ∀ t, t < Sn (bfi g N F b i) → 1 ≤ t → (BQ v J1 t ↔ SK (bfi g N F b i) t = adv b g (CL g N F (SK (bfi g N F b i) s)) (zix X)) := fun t ht h1 => by
    rw [BQ_iff hm1 hg (hr1 t ht).1 (hr1 t ht).2 fV fZ, fS, hSR1]
    have hk := (hrow t ht).2.2
    constructor
    · intro q
      funext p k y
      apply propext
      constructor
      · intro z
        obtain ⟨c1, c2⟩ := hcond t ht h1 p k y z
        exact (advR hR).mpr ⟨c2, (q p k y c1 c2).mp ((hk p k y (Or.inl c1) c2).mpr z)⟩
      · intro z
        obtain ⟨c1, c2⟩ := hAc p k y z
        exact (hk p k y (Or.inl c1) c2).mp ((q p k y c1 c2).mpr ((advR hR).mp z).2)
    · intro q p k y c1 c2
      rw [hk p k y (Or.inl c1) c2, q, advR hR]
      exact ⟨fun z => z.2, fun z => ⟨c2, z⟩⟩
  have hent2 : ∀ t, t < Sn (bfi g N F b i) → SK (bfi g N F b i) t = adv b g (CL g N F (SK (bfi g N F b i) s)) (zix X) → 1 ≤ t ∧ J1 (v + 3) t = (X : Int) := fun t ht q => by
    obtain ⟨p, k, z⟩ := hA9
    have hk1 := (hAc p k 9 z).1
    have ht1 : 1 ≤ t := by
      apply Classical.byContradiction; intro w
      have : t = 0 := by omega
      subst this
      rw [p3] at q
      rw [← q] at z
      have := z.2.1; omega
    refine ⟨ht1, ?_⟩
    rw [f1' (v + 3) (by omega)]
    obtain ⟨k', rfl⟩ : ∃ k', k = k' + 1 := ⟨k - 1, by omega⟩
    have z2 := z
    rw [← q] at z2
    rw [← (hent t ht1 ht).2 p k' z2]
    obtain ⟨-, k'', w1, w2, w3, w4, -⟩ := z
    have : k'' = k' := by omega
    subst this
    rw [zix_inj (gX_sr hg w3) hX w4]
  have hfind := X0_findState (u := u) (L := L) hn hv h41 p2 hm01 (X := X) (by omega) hok1 hokf he1
  -- the numbers of moves
  have e32 : ((s : Int) * 32 + (X : Int)).toNat = 32 * s + X := by omega
  have b83 : ∀ (t : Int) (K : Nat → Nat → Int), b_X0_advance_83 n v (s : Int) (X : Int) t (hp u K L) = some (hp u (gx_u K (v + 2) (32 * s + X) t) L) := fun t K => by
    simp (disch := omega) only [b_X0_advance_83, ↓dhi_A hv, ↓dhG_A_0 hv, ↓dhg_A_1 hv, ↓dhq_A_1 hv, ↓dhg_A_2 hv, ↓dhq_A_2 hv, ↓dhg_A_3 hv, ↓dhq_A_3 hv, ↓dhg_A_4 hv, ↓dhq_A_4 hv, ↓dhG_A_5 hv, ↓dhG_A_6 hv, ↓dhG_A_7 hv, ↓dhG_A_8 hv, ↓dhG_A_9 hv, ↓dha_A_1 hv, ↓dhs_A_1 hv, ↓dhl_A_1 hv, ↓dha_A_2 hv, ↓dhs_A_2 hv, ↓dhl_A_2 hv, ↓dha_A_3 hv, ↓dhs_A_3 hv, ↓dhl_A_3 hv, ↓dha_A_4 hv, ↓dhs_A_4 hv, ↓dhl_A_4 hv, ↓dha_A_5 hv, ↓dhs_A_5 hv, ↓dhl_A_5 hv, Option.bind_some, ↓nm_eq, ↓sm_inl, ↓sm_inr, ↓dzo_0, ↓dzo_1, ↓drg_ok, ↓if_pos, ↓if_neg, if_pos, if_neg, if_true, if_false, Int.toNat_natCast, rg_ok, e32]
  have hX32 : X < 32 := by omega
  have hxy : ∀ s' X', X' < 32 → s' < Sn (bfi g N F b i) + 1 → 32 * s' + X' = 32 * s + X → s' = s ∧ X' = X := fun s' X' _ _ q => by omega
  rcases hfind with ⟨t, ht, ef, hX1, hq⟩ | ⟨ef, hno⟩
  · -- it is there
    have ht1 : 1 ≤ t := by
      apply Classical.byContradiction; intro w
      have : t = 0 := by omega
      rw [this, f1' (v + 3) (by omega), he0] at hX1
      omega
    have hKt := (hBQ t ht ht1).mp hq
    have hS' : Sn (bfi g N F b i') = Sn (bfi g N F b i) ∧ SK (bfi g N F b i') = SK (bfi g N F b i) ∧ Sb (bfi g N F b i') = false ∧ ∀ s' x', Sm (bfi g N F b i') s' x' = if s' = s ∧ x' = zix X then (t : Int) else Sm (bfi g N F b i) s' x' := by
      rcases hi with ⟨q1, q2⟩ | ⟨q1, q2⟩
      · rw [q2, bfi_step hSb hs hx24 q1]
        rcases bst_c (N := N) (F := F) (b := b) (g := g) (bfi g N F b i) s (zix X) with ⟨c1, -⟩ | ⟨-, ⟨t0, ⟨c2, c3⟩, c4⟩ | ⟨c2, -⟩⟩
        · exact absurd hA9 c1
        · have := p6 t0 t c2 ht (c3.trans hKt.symm)
          subst this
          rw [c4]; exact ⟨rfl, rfl, hSb, fun s' x' => rfl⟩
        · exact absurd hKt (c2 t ht)
      · rw [q2]
        refine ⟨rfl, rfl, hSb, fun s' x' => ?_⟩
        split
        · next c =>
          rw [c.1, c.2]
          rcases p7 hSb s (zix X) hs hx24 q1 with ⟨-, w⟩ | ⟨t0, w1, w2, w3, -⟩
          · exact absurd hA9 w
          · rw [w1, p6 t0 t w2 ht (w3.trans hKt.symm)]
        · rfl
    obtain ⟨s1, s2, s3, s4⟩ := hS'
    have hmove : ∀ (K : Nat → Nat → Int), K (v + 2) = J0 (v + 2) → ∀ s' X', s' < Sn (bfi g N F b i) → X' < 32 → gx_u K (v + 2) (32 * s + X) (t : Int) (v + 2) (32 * s' + X') = if X' < 8 ∨ 16 ≤ X' then Sm (bfi g N F b i') s' (zix X') else -1 := fun K hK s' X' q1 q2 => by
      rw [s4]
      by_cases c : 32 * s' + X' = 32 * s + X
      · obtain ⟨c1, c2⟩ := hxy s' X' q2 (by omega) c
        rw [gu_at_eq c, c1, c2, if_pos (by omega), if_pos ⟨rfl, rfl⟩]
      · rw [gu_at_ne c, hK, hmv s' X' q1 q2]
        split
        · next c2 =>
          rw [if_neg]
          rintro ⟨w1, w2⟩
          apply c
          rw [w1, zix_inj (by omega) hX w2]
        · rfl
    cases b with
    | false =>
      refine ⟨gx_u J1 (v + 2) (32 * s + X) (t : Int), ?_, (f1.up (by simp)).wr (by simp), fun j _ _ => by rw [gu_ne (by omega), f1' v (by omega)], Or.inr ⟨⟨?_, ?_, ?_, ?_, s3, fun t' ht' => ?_, ?_, fun t' ht' => ?_, fun s' X' q1 q2 => ?_⟩, ?_, t, ?_, ?_, ?_, ?_, ?_, ?_, ?_⟩⟩
      · rw [e1]
        simp (disch := omega) only [b_X0_advance_51, ↓dhi_A hv, ↓dhG_A_0 hv, ↓dhg_A_1 hv, ↓dhq_A_1 hv, ↓dhg_A_2 hv, ↓dhq_A_2 hv, ↓dhg_A_3 hv, ↓dhq_A_3 hv, ↓dhg_A_4 hv, ↓dhq_A_4 hv, ↓dhG_A_5 hv, ↓dhG_A_6 hv, ↓dhG_A_7 hv, ↓dhG_A_8 hv, ↓dhG_A_9 hv, ↓dha_A_1 hv, ↓dhs_A_1 hv, ↓dhl_A_1 hv, ↓dha_A_2 hv, ↓dhs_A_2 hv, ↓dhl_A_2 hv, ↓dha_A_3 hv, ↓dhs_A_3 hv, ↓dhl_A_3 hv, ↓dha_A_4 hv, ↓dhs_A_4 hv, ↓dhl_A_4 hv, ↓dha_A_5 hv, ↓dhs_A_5 hv, ↓dhl_A_5 hv, Option.bind_some, ↓nm_eq, ↓sm_inl, ↓sm_inr, ↓dzo_0, ↓dzo_1, ↓drg_ok, ↓if_pos, ↓if_neg, if_pos, if_neg, if_true, if_false, Int.toNat_natCast, rg_ok, ↓bnd ef, hm1, b83]
        rfl
      · exact hE.fr ((f1.up (by simp) : Fr [v + 2, v + 5] J0 J1).wr (by simp)) (by simp at hv ⊢; omega)
      · rw [gu_ne (by omega)]; exact hm1
      · rw [gu_ne (by omega), f1' v (by omega)]; exact h3
      · rw [gu_ne (by omega), s1]; exact h41
      · rw [s1] at ht'
        have q := hrow t' ht'
        rw [s2]
        refine ⟨VR_fr (fun p k _ => by rw [gu_ne (by omega), f1' (v + 1) (by omega)]) q.1, fun x hx hvi => by rw [gu_ne (by omega), f1' (v + 1) (by omega)]; exact q.2.1 x hx hvi, fun p k y c1 c2 => ?_⟩
        rw [SR_fr (J := J0) (fun p k _ => by rw [gu_ne (by omega), f1' (v + 1) (by omega)])]
        exact q.2.2 p k y c1 c2
      · rw [gu_ne (by omega), f1' (v + 3) (by omega), s1, s2]; exact ⟨he0, hent⟩
      · rw [gu_ne (by omega), f1' (v + 4) (by omega)]; rw [s1] at ht'; exact hwt t' ht'
      · rw [s1] at q1; exact hmove J1 (f1' (v + 2) (by omega)) s' X' q1 q2
      · rw [s1]; exact psi_mono (Nat.le_refl _) (fun x _ y hb => by rw [gu_ne (by omega), f1' (v + 1) (by omega)]; exact hb)
      · rw [s4, if_pos ⟨rfl, rfl⟩]
      · rw [s1]; exact ht
      · rw [s1]; exact Nat.le_refl _
      · rw [s1]; exact fun t' ht' => Or.inl ht'
      · exact fun t' ht' => Or.inl ⟨fun x _ => by rw [gu_ne (by omega), f1' (v + 1) (by omega)], by rw [gu_ne (by omega), f1' (v + 4) (by omega)]⟩
      · exact fun z => absurd z (by decide)
      · exact fun z => absurd ht (by omega)
    | true =>
      obtain ⟨J2, e2, f2, r2, w2⟩ := X0_mergeInto (u := u) (L := L) hn hv (J0 := J1) (t := t) (by omega) (hok1 t ht)
      have f2' : ∀ a, a ≠ v + 1 → a ≠ v + 4 → J2 a = J1 a := fun a h1 h2 => f2 a (by simp; exact ⟨h1, h2⟩)
      have rt : ∀ x, x < 150 → J2 (v + 1) (150 * t + x) = gi_or (J0 (v + 1) (150 * t + x)) (J1 (v + 5) x) := fun x hx => by
        rw [r2, if_pos ⟨by omega, by omega⟩, f1' (v + 1) (by omega), show 150 * t + x - 150 * t = x by omega]
      have rne : ∀ t', t' ≠ t → ∀ x, x < 150 → J2 (v + 1) (150 * t' + x) = J0 (v + 1) (150 * t' + x) := fun t' hne' x hx => by
        rw [r2, if_neg (by omega), f1' (v + 1) (by omega)]
      have hSRt : ∀ p k y, SR g (v + 1) (ac t) J2 p k y ↔ SR g (v + 1) (ac t) J0 p k y ∨ adv false g (SR g (v + 1) (ac s) J0) (zix X) p k y := fun p k y => by
        rw [← fS]
        unfold SR
        by_cases hvi : vI g p k
        · have h6 := vI_6 hg hvi
          have e := rt (6 * p + k) (by have := hvi.2; have := gX_l5 hg p; omega)
          have e' : J2 (v + 1) (ac t p k) = gi_or (J0 (v + 1) (ac t p k)) (J1 (v + 5) (af p k)) := e
          rw [e', bt_or, Bool.or_eq_true]
          exact ⟨fun z => z.2.elim (fun w => Or.inl ⟨hvi, w⟩) (fun w => Or.inr ⟨hvi, w⟩), fun z => z.elim (fun w => ⟨hvi, Or.inl w.2⟩) (fun w => ⟨hvi, Or.inr w.2⟩)⟩
        · exact ⟨fun z => absurd z.1 hvi, fun z => z.elim (fun w => absurd w.1 hvi) (fun w => absurd w.1 hvi)⟩
      have hV2 : VR g (v + 1) (ac t) J2 := fun p k hvi => by
        have h6 := vI_6 hg hvi
        have e := rt (6 * p + k) (by have := hvi.2; have := gX_l5 hg p; omega)
        have e' : J2 (v + 1) (ac t p k) = gi_or (J0 (v + 1) (ac t p k)) (J1 (v + 5) (af p k)) := e
        rw [e']
        have g1 := (hrow t ht).1 p k hvi
        have g2 := fV p k hvi
        refine ⟨bt_ok_or _ _, fun y hy => ?_, ?_⟩
        · rw [bt_or, Bool.or_eq_true] at hy
          exact hy.elim (g1.2.1 y) (g2.2.1 y)
        · rcases g1.2.2 with w | w
          · rcases g2.2.2 with w' | w'
            · rw [w, w']; exact Or.inl or00
            · right; rw [bt_or, w', Bool.or_true]
          · right; rw [bt_or, w, Bool.true_or]
      have hZ2 : RZ g (v + 1) (150 * t) J2 := fun x hx hvi => by
        rw [rt x hx, (hrow t ht).2.1 x hx hvi]
        have := fZ x hx hvi
        rw [Nat.zero_add] at this
        rw [this]; exact or00
      have hsubA : ∀ p k, adv false g (SR g (v + 1) (ac s) J0) (zix X) p k 9 → SR g (v + 1) (ac t) J0 p k 9 := fun p k z => by
        have zA : adv true g (CL g N F (SK (bfi g N F true i) s)) (zix X) p k 9 := (advR hR).mpr ⟨fun _ => rfl, z⟩
        have c1 := (hAc p k 9 zA).1
        exact ((hrow t ht).2.2 p k 9 (Or.inl c1) (fun _ => rfl)).mpr (by rw [hKt]; exact zA)
      have hCE2 : CE u g N F (gx_u J2 (v + 2) (32 * s + X) (t : Int)) := hE.fr (l := [v + 1, v + 2, v + 4, v + 5]) ((((f1.up (by simp) : Fr [v + 1, v + 2, v + 4, v + 5] J0 J1).tr (f2.up (fun a z => by simp at z ⊢; omega)))).wr (by simp)) (by simp at hv ⊢; omega)
      have hmono : ∀ x, x < 150 * Sn (bfi g N F true i) → ∀ y, bt (J0 (v + 1) x) y = true → bt (gx_u J2 (v + 2) (32 * s + X) (t : Int) (v + 1) x) y = true := fun x hx y hb => by
        rw [gu_ne (by omega), r2]
        split
        · rw [bt_or, f1' (v + 1) (by omega), hb, Bool.true_or]
        · rw [f1' (v + 1) (by omega)]; exact hb
      refine ⟨gx_u J2 (v + 2) (32 * s + X) (t : Int), ?_, ((f1.up (by simp)).tr (f2.up (fun a z => by simp at z ⊢; omega))).wr (by simp), fun j _ _ => by rw [gu_ne (by omega), f2' v (by omega) (by omega), f1' v (by omega)], Or.inr ⟨⟨hCE2, ?_, ?_, ?_, s3, fun t' ht' => ?_, ?_, fun t' ht' => ?_, fun s' X' q1 q2 => ?_⟩, ?_, t, ?_, ?_, ?_, ?_, fun t' ht' => ?_, ?_, ?_⟩⟩
      · rw [e1]
        simp (disch := omega) only [b_X0_advance_51, ↓dhi_A hv, ↓dhG_A_0 hv, ↓dhg_A_1 hv, ↓dhq_A_1 hv, ↓dhg_A_2 hv, ↓dhq_A_2 hv, ↓dhg_A_3 hv, ↓dhq_A_3 hv, ↓dhg_A_4 hv, ↓dhq_A_4 hv, ↓dhG_A_5 hv, ↓dhG_A_6 hv, ↓dhG_A_7 hv, ↓dhG_A_8 hv, ↓dhG_A_9 hv, ↓dha_A_1 hv, ↓dhs_A_1 hv, ↓dhl_A_1 hv, ↓dha_A_2 hv, ↓dhs_A_2 hv, ↓dhl_A_2 hv, ↓dha_A_3 hv, ↓dhs_A_3 hv, ↓dhl_A_3 hv, ↓dha_A_4 hv, ↓dhs_A_4 hv, ↓dhl_A_4 hv, ↓dha_A_5 hv, ↓dhs_A_5 hv, ↓dhl_A_5 hv, Option.bind_some, ↓nm_eq, ↓sm_inl, ↓sm_inr, ↓dzo_0, ↓dzo_1, ↓drg_ok, ↓if_pos, ↓if_neg, if_pos, if_neg, if_true, if_false, Int.toNat_natCast, rg_ok, ↓bnd ef, hm1, b83]
        simp (disch := omega) only [↓dhi_A hv, ↓dhG_A_0 hv, ↓dhg_A_1 hv, ↓dhq_A_1 hv, ↓dhg_A_2 hv, ↓dhq_A_2 hv, ↓dhg_A_3 hv, ↓dhq_A_3 hv, ↓dhg_A_4 hv, ↓dhq_A_4 hv, ↓dhG_A_5 hv, ↓dhG_A_6 hv, ↓dhG_A_7 hv, ↓dhG_A_8 hv, ↓dhG_A_9 hv, ↓dha_A_1 hv, ↓dhs_A_1 hv, ↓dhl_A_1 hv, ↓dha_A_2 hv, ↓dhs_A_2 hv, ↓dhl_A_2 hv, ↓dha_A_3 hv, ↓dhs_A_3 hv, ↓dhl_A_3 hv, ↓dha_A_4 hv, ↓dhs_A_4 hv, ↓dhl_A_4 hv, ↓dha_A_5 hv, ↓dhs_A_5 hv, ↓dhl_A_5 hv, Option.bind_some, ↓nm_eq, ↓sm_inl, ↓sm_inr, ↓dzo_0, ↓dzo_1, ↓drg_ok, ↓if_pos, ↓if_neg, if_pos, if_neg, if_true, if_false, Int.toNat_natCast, rg_ok, ↓bnd e2, b83]
      · rw [gu_ne (by omega), f2' v (by omega) (by omega)]; exact hm1
      · rw [gu_ne (by omega), f2' v (by omega) (by omega), f1' v (by omega)]; exact h3
      · rw [gu_ne (by omega), f2' v (by omega) (by omega), s1]; exact h41
      · rw [s1] at ht'
        have q := hrow t' ht'
        rw [s2]
        by_cases e : t' = t
        · subst e
          refine ⟨VR_fr (fun p k _ => by rw [gu_ne (by omega)]) hV2, fun x hx hvi => by rw [gu_ne (by omega)]; exact hZ2 x hx hvi, fun p k y c1 c2 => ?_⟩
          have := c2 rfl
          subst this
          rw [SR_fr (J := J2) (fun p k _ => by rw [gu_ne (by omega)]), hSRt, ← q.2.2 p k 9 c1 c2]
          exact ⟨fun z => z.elim id (hsubA p k), Or.inl⟩
        · have eq : ∀ p k, vI g p k → gx_u J2 (v + 2) (32 * s + X) (t : Int) (v + 1) (ac t' p k) = J0 (v + 1) (ac t' p k) := fun p k hvi => by
            have h6 := vI_6 hg hvi
            rw [gu_ne (by omega)]
            exact rne t' e (6 * p + k) (by have := hvi.2; have := gX_l5 hg p; omega)
          refine ⟨VR_fr eq q.1, fun x hx hvi => ?_, fun p k y c1 c2 => ?_⟩
          · rw [gu_ne (by omega), rne t' e x hx]; exact q.2.1 x hx hvi
          · rw [SR_fr eq]; exact q.2.2 p k y c1 c2
      · rw [gu_ne (by omega), f2' (v + 3) (by omega) (by omega), f1' (v + 3) (by omega), s1, s2]; exact ⟨he0, hent⟩
      · rw [s1] at ht'
        rw [gu_ne (by omega)]
        have q := hwt t' ht'
        rcases w2 with ⟨w, -⟩ | ⟨-, w⟩
        · rw [w, f1' (v + 4) (by omega)]; exact q
        · rw [w, f1' (v + 4) (by omega)]; split
          · exact Or.inr rfl
          · exact q
      · rw [s1] at q1; exact hmove J2 (by rw [f2' (v + 2) (by omega) (by omega), f1' (v + 2) (by omega)]) s' X' q1 q2
      · rw [s1]; exact psi_mono (Nat.le_refl _) hmono
      · rw [s4, if_pos ⟨rfl, rfl⟩]
      · rw [s1]; exact ht
      · rw [s1]; exact Nat.le_refl _
      · rw [s1]; exact fun t' ht' => Or.inl ht'
      · rcases w2 with ⟨w, -⟩ | ⟨⟨x0, w0, w1⟩, w⟩
        · left
          refine ⟨fun x hx => ?_, by rw [gu_ne (by omega), w, f1' (v + 4) (by omega)]⟩
          rw [gu_ne (by omega), w, f1' (v + 1) (by omega)]
        · by_cases e : t' = t
          · right
            refine ⟨e, rfl, fun p k y => ?_, by rw [gu_ne (by omega), w, if_pos rfl], ?_⟩
            · rw [SR_fr (J := J2) (fun p k _ => by rw [gu_ne (by omega)])]; exact hSRt p k y
            · rw [s1]
              refine psi_lt (Nat.le_refl _) p2 hmono ?_
              have hok := hok1 t ht x0 w0
              have hex : ∃ y, y < 32 ∧ bt (J1 (v + 5) x0) y = true ∧ bt (J1 (v + 1) (150 * t + x0)) y = false := by
                apply Classical.byContradiction
                intro hno
                apply w1
                rw [bt_or_left hok]
                intro y hy hb
                cases hb2 : bt (J1 (v + 1) (150 * t + x0)) y with
                | true => rfl
                | false => exact absurd ⟨y, hy, hb, hb2⟩ hno
              obtain ⟨y, y1, y2, y3⟩ := hex
              refine ⟨150 * t + x0, by omega, y, y1, ?_, fun _ => ?_⟩
              · rw [gu_ne (by omega), rt x0 w0, bt_or, y2, Bool.or_true]
              · rw [f1' (v + 1) (by omega)] at y3; exact y3
          · left
            refine ⟨fun x hx => by rw [gu_ne (by omega)]; exact rne t' e x hx, ?_⟩
            rw [gu_ne (by omega), w, if_neg e, f1' (v + 4) (by omega)]
      · intro _ p k y z
        rw [SR_fr (J := J2) (fun p k _ => by rw [gu_ne (by omega)])]
        exact (hSRt p k y).mpr (Or.inr z)
      · exact fun z => absurd ht (by omega)
  · -- it isn't there
    have hnoA : ∀ t, t < Sn (bfi g N F b i) → SK (bfi g N F b i) t ≠ adv b g (CL g N F (SK (bfi g N F b i) s)) (zix X) := fun t ht q => by
      obtain ⟨q1, q2⟩ := hent2 t ht q
      exact hno t ht ⟨q2, (hBQ t ht q1).mpr q⟩
    have hfr : 24 * s + zix X = i ∧ i' = i + 1 := by
      rcases hi with q | ⟨q1, -⟩
      · exact q
      · exfalso
        rcases p7 hSb s (zix X) hs hx24 q1 with ⟨-, w⟩ | ⟨t0, -, w2, w3, -⟩
        · exact w hA9
        · exact hnoA t0 w2 w3
    obtain ⟨q1, q2⟩ := hfr
    have hbs := bfi_step (N := N) (F := F) (b := b) hSb hs hx24 q1
    rw [q2]
    rcases bst_c (N := N) (F := F) (b := b) (g := g) (bfi g N F b i) s (zix X) with ⟨c1, -⟩ | ⟨-, ⟨t0, ⟨c2, c3⟩, -⟩ | ⟨-, ⟨c3, c4⟩ | ⟨c3, c4⟩⟩⟩
    · exact absurd hA9 c1
    · exact absurd c3 (hnoA t0 c2)
    · have e8 := X0_addState80 (u := u) (n := n) (L := L) hv (J := J1) (X : Int) (by rw [h41, c3]; rfl)
      refine ⟨gx_u (gx_u J1 v 3 1) (v + 2) (32 * s + X) (-1), ?_, ((f1.up (by simp)).wr (by simp)).wr (by simp), fun j z1 z2 => by rw [gu_ne (by omega), gu_at_ne z1, f1' v (by omega)], Or.inl ⟨rfl, ?_, ?_, ?_⟩⟩
      · rw [e1]
        simp (disch := omega) only [b_X0_advance_51, ↓dhi_A hv, ↓dhG_A_0 hv, ↓dhg_A_1 hv, ↓dhq_A_1 hv, ↓dhg_A_2 hv, ↓dhq_A_2 hv, ↓dhg_A_3 hv, ↓dhq_A_3 hv, ↓dhg_A_4 hv, ↓dhq_A_4 hv, ↓dhG_A_5 hv, ↓dhG_A_6 hv, ↓dhG_A_7 hv, ↓dhG_A_8 hv, ↓dhG_A_9 hv, ↓dha_A_1 hv, ↓dhs_A_1 hv, ↓dhl_A_1 hv, ↓dha_A_2 hv, ↓dhs_A_2 hv, ↓dhl_A_2 hv, ↓dha_A_3 hv, ↓dhs_A_3 hv, ↓dhl_A_3 hv, ↓dha_A_4 hv, ↓dhs_A_4 hv, ↓dhl_A_4 hv, ↓dha_A_5 hv, ↓dhs_A_5 hv, ↓dhl_A_5 hv, Option.bind_some, ↓nm_eq, ↓sm_inl, ↓sm_inr, ↓dzo_0, ↓dzo_1, ↓drg_ok, ↓if_pos, ↓if_neg, if_pos, if_neg, if_true, if_false, Int.toNat_natCast, rg_ok, ↓bnd ef, ↓bnd e8, b83]
      · rw [hbs, c4]; rfl
      · rw [gu_ne (by omega), gu_same]
      · rw [gu_ne (by omega), gu_at_ne (by decide), h41, c3]; rfl
    · obtain ⟨J2, e2, f2, k1, k2, k3, k4, k5, k6⟩ := X0_addState (u := u) (L := L) hn hv (J0 := J1) (k := Sn (bfi g N F b i)) (X : Int) h41 (by omega)
      have hbs' := hbs.trans c4
      have s1 : Sn (bfi g N F b (i + 1)) = Sn (bfi g N F b i) + 1 := by rw [hbs']; rfl
      have s2 : SK (bfi g N F b (i + 1)) = sK (SK (bfi g N F b i)) (Sn (bfi g N F b i)) (adv b g (CL g N F (SK (bfi g N F b i) s)) (zix X)) := by rw [hbs']; rfl
      have s3 : Sb (bfi g N F b (i + 1)) = false := by rw [hbs']; exact hSb
      have s4 : Sm (bfi g N F b (i + 1)) = sM (Sm (bfi g N F b i)) s (zix X) (Sn (bfi g N F b i) : Int) := by rw [hbs']; rfl
      have rold : ∀ t', t' < Sn (bfi g N F b i) → ∀ x, x < 150 → gx_u J2 (v + 2) (32 * s + X) (Sn (bfi g N F b i) : Int) (v + 1) (150 * t' + x) = J0 (v + 1) (150 * t' + x) := fun t' ht' x hx => by
        rw [gu_ne (by omega), k3, if_neg (by omega), f1' (v + 1) (by omega)]
      have rnew : ∀ x, x < 150 → gx_u J2 (v + 2) (32 * s + X) (Sn (bfi g N F b i) : Int) (v + 1) (150 * Sn (bfi g N F b i) + x) = J1 (v + 5) x := fun x hx => by
        rw [gu_ne (by omega), k3, if_pos ⟨by omega, by omega⟩, show 150 * Sn (bfi g N F b i) + x - 150 * Sn (bfi g N F b i) = x by omega]
      have hVn : VR g (v + 1) (ac (Sn (bfi g N F b i))) (gx_u J2 (v + 2) (32 * s + X) (Sn (bfi g N F b i) : Int)) := fun p k hvi => by
        have h6 := vI_6 hg hvi
        have e := rnew (6 * p + k) (by have := hvi.2; have := gX_l5 hg p; omega)
        have e' : gx_u J2 (v + 2) (32 * s + X) (Sn (bfi g N F b i) : Int) (v + 1) (ac (Sn (bfi g N F b i)) p k) = J1 (v + 5) (af p k) := e
        rw [e']; exact fV p k hvi
      have hSn : SR g (v + 1) (ac (Sn (bfi g N F b i))) (gx_u J2 (v + 2) (32 * s + X) (Sn (bfi g N F b i) : Int)) = adv false g (SR g (v + 1) (ac s) J0) (zix X) := by
        rw [← fS]
        funext p k y
        unfold SR
        apply propext
        have e' : vI g p k → gx_u J2 (v + 2) (32 * s + X) (Sn (bfi g N F b i) : Int) (v + 1) (ac (Sn (bfi g N F b i)) p k) = J1 (v + 5) (af p k) := fun hvi => by
          have h6 := vI_6 hg hvi
          exact rnew (6 * p + k) (by have := hvi.2; have := gX_l5 hg p; omega)
        exact ⟨fun z => ⟨z.1, by rw [← e' z.1]; exact z.2⟩, fun z => ⟨z.1, by rw [e' z.1]; exact z.2⟩⟩
      have hmono : ∀ x, x < 150 * Sn (bfi g N F b i) → ∀ y, bt (J0 (v + 1) x) y = true → bt (gx_u J2 (v + 2) (32 * s + X) (Sn (bfi g N F b i) : Int) (v + 1) x) y = true := fun x hx y hb => by
        rw [gu_ne (by omega), k3, if_neg (by omega), f1' (v + 1) (by omega)]; exact hb
      have hpsi : psi v J0 (Sn (bfi g N F b i)) < psi v (gx_u J2 (v + 2) (32 * s + X) (Sn (bfi g N F b i) : Int)) (Sn (bfi g N F b i) + 1) := by
        refine psi_lt (Nat.le_succ _) (by omega) hmono ?_
        obtain ⟨p, k, z⟩ := hA9
        have z2 := ((advR hR).mp z).2
        rw [← hSn] at z2
        have h6 := vI_6 hg z2.1
        refine ⟨ac (Sn (bfi g N F b i)) p k, ?_, 9, by omega, z2.2, fun w => ?_⟩
        · unfold ac; have := z2.1.2; have := gX_l5 hg p; omega
        · unfold ac at w; omega
      refine ⟨gx_u J2 (v + 2) (32 * s + X) (Sn (bfi g N F b i) : Int), ?_, ((f1.up (by simp)).tr (f2.up (fun a z => by simp at z ⊢; omega))).wr (by simp), fun j z1 z2 => by rw [gu_ne (by omega), k1 j z2, f1' v (by omega)], Or.inr ⟨⟨?_, ?_, ?_, ?_, s3, fun t' ht' => ?_, ⟨?_, fun t' h1' ht' => ?_⟩, fun t' ht' => ?_, fun s' X' z1 z2 => ?_⟩, ?_, Sn (bfi g N F b i), ?_, ?_, ?_, ?_, ?_, ?_, ?_⟩⟩
      · rw [e1]
        simp (disch := omega) only [b_X0_advance_51, ↓dhi_A hv, ↓dhG_A_0 hv, ↓dhg_A_1 hv, ↓dhq_A_1 hv, ↓dhg_A_2 hv, ↓dhq_A_2 hv, ↓dhg_A_3 hv, ↓dhq_A_3 hv, ↓dhg_A_4 hv, ↓dhq_A_4 hv, ↓dhG_A_5 hv, ↓dhG_A_6 hv, ↓dhG_A_7 hv, ↓dhG_A_8 hv, ↓dhG_A_9 hv, ↓dha_A_1 hv, ↓dhs_A_1 hv, ↓dhl_A_1 hv, ↓dha_A_2 hv, ↓dhs_A_2 hv, ↓dhl_A_2 hv, ↓dha_A_3 hv, ↓dhs_A_3 hv, ↓dhl_A_3 hv, ↓dha_A_4 hv, ↓dhs_A_4 hv, ↓dhl_A_4 hv, ↓dha_A_5 hv, ↓dhs_A_5 hv, ↓dhl_A_5 hv, Option.bind_some, ↓nm_eq, ↓sm_inl, ↓sm_inr, ↓dzo_0, ↓dzo_1, ↓drg_ok, ↓if_pos, ↓if_neg, if_pos, if_neg, if_true, if_false, Int.toNat_natCast, rg_ok, ↓bnd ef, ↓bnd e2, b83]
      · exact hE.fr (l := [v, v + 1, v + 2, v + 3, v + 4, v + 5]) ((((f1.up (by simp) : Fr [v, v + 1, v + 2, v + 3, v + 4, v + 5] J0 J1).tr (f2.up (fun a z => by simp at z ⊢; omega)))).wr (by simp)) (by simp at hv ⊢; omega)
      · rw [gu_ne (by omega), k1 1 (by decide)]; exact hm1
      · rw [gu_ne (by omega), k1 3 (by decide), f1' v (by omega)]; exact h3
      · rw [gu_ne (by omega), s1]; exact k2
      · rw [s1] at ht'
        rw [s2]
        by_cases e : t' = Sn (bfi g N F b i)
        · rw [e, sK_eq]
          refine ⟨hVn, fun x hx hvi => ?_, fun p k y _ c2 => ?_⟩
          · rw [rnew x hx]; have := fZ x hx hvi; rw [Nat.zero_add] at this; exact this
          · rw [hSn, advR hR]; exact ⟨fun z => ⟨c2, z⟩, fun z => z.2⟩
        · have ht2 : t' < Sn (bfi g N F b i) := by omega
          have q := hrow t' ht2
          rw [sK_lt ht2]
          have eq : ∀ p k, vI g p k → gx_u J2 (v + 2) (32 * s + X) (Sn (bfi g N F b i) : Int) (v + 1) (ac t' p k) = J0 (v + 1) (ac t' p k) := fun p k hvi => by
            have h6 := vI_6 hg hvi
            exact rold t' ht2 (6 * p + k) (by have := hvi.2; have := gX_l5 hg p; omega)
          refine ⟨VR_fr eq q.1, fun x hx hvi => by rw [rold t' ht2 x hx]; exact q.2.1 x hx hvi, fun p k y c1 c2 => ?_⟩
          rw [SR_fr eq]; exact q.2.2 p k y c1 c2
      · rw [gu_ne (by omega), k5, if_neg (by omega), f1' (v + 3) (by omega)]; exact he0
      · rw [s1] at ht'
        rw [gu_ne (by omega), k5, s2]
        by_cases e : t' = Sn (bfi g N F b i)
        · rw [if_pos e, e, sK_eq]
          refine ⟨by omega, fun p k z => ?_⟩
          obtain ⟨-, k'', w1, w2, w3, w4, -⟩ := z
          have : k'' = k := by omega
          subst this
          rw [zix_inj (gX_sr hg w3) hX w4]
        · have ht2 : t' < Sn (bfi g N F b i) := by omega
          rw [if_neg e, sK_lt ht2, f1' (v + 3) (by omega)]
          exact hent t' h1' ht2
      · rw [s1] at ht'
        rw [gu_ne (by omega), k6]
        split
        · exact Or.inr rfl
        · next e => rw [f1' (v + 4) (by omega)]; exact hwt t' (by omega)
      · rw [s1] at z1
        rw [s4]
        by_cases c : 32 * s' + X' = 32 * s + X
        · obtain ⟨c1, c2⟩ := hxy s' X' z2 z1 c
          rw [gu_at_eq c, c1, c2, if_pos (by omega), sM_eq]
        · rw [gu_at_ne c, k4]
          by_cases e : s' = Sn (bfi g N F b i)
          · rw [if_pos ⟨by omega, by omega⟩, e]
            split
            · next c2 =>
              have hz := zix_lt (s := X') (by omega)
              rw [sM_ne (by omega), p8 _ _ (by omega) hz]
            · rfl
          · rw [if_neg (by omega), f1' (v + 2) (by omega), hmv s' X' (by omega) z2]
            split
            · next c2 =>
              rw [sM_ne]
              rintro ⟨w1, w2⟩
              apply c
              rw [w1, zix_inj (by omega) hX w2]
            · rfl
      · rw [s1]; exact psi_mono (Nat.le_succ _) hmono
      · rw [s4, sM_eq]
      · rw [s1]; omega
      · rw [s1]; omega
      · rw [s1]; exact fun t' ht' => by omega
      · exact fun t' ht' => Or.inl ⟨fun x hx => rold t' ht' x hx, by rw [gu_ne (by omega), k6, if_neg (by omega), f1' (v + 4) (by omega)]⟩
      · intro _ p k y z
        rw [hSn]; exact z
      · intro _
        refine ⟨hSn, by rw [gu_ne (by omega), k6, if_pos rfl], ?_⟩
        rw [s1]; exact hpsi
end CG_
