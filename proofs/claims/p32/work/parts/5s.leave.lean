/-! ===== the class's automaton: a state left ===== -/
def cLB (g : GT) (N : Nat → Prop) (F : Nat → Nat → Prop) (S : BS) (B : Nat → AS) : Prop := (B 0 24 0 8 ∧ B 0 24 0 9) ∧ (∀ s, s < Sn S → cA g N F (B s)) ∧ ∀ s x (t : Nat), s < Sn S → x < 24 → Sm S s x = (t : Int) → sAS (adv false g (B s) x) (B t)
def LBm (g : GT) (N : Nat → Prop) (F : Nat → Nat → Prop) (S : BS) : Nat → AS := fun s p k t => ∀ B, cLB g N F S B → B s p k t
theorem adv_mono {b : Bool} {g : GT} {R R' : AS} (h : sAS R R') {x : Nat} : sAS (adv b g R x) (adv b g R' x) := by
  rintro p k y ⟨a, k', c, d, e, f, q1, q2⟩
  exact ⟨a, k', c, d, e, f, h _ _ _ q1, h _ _ _ q2⟩
theorem LBm_cl {g : GT} {N : Nat → Prop} {F : Nat → Nat → Prop} {S : BS} : cLB g N F S (LBm g N F S) := by
  refine ⟨⟨fun B h => h.1.1, fun B h => h.1.2⟩, fun s hs q t o B h => ?_, fun s x t hs hx hm p k y a B h => ?_⟩
  · exact h.2.1 s hs q t (opA_mono (fun p k t z => z B h) o)
  · exact h.2.2 s x t hs hx hm p k y (adv_mono (fun p k t z => z B h) p k y a)
def EX (v : Nat) (g : GT) (N : Nat → Prop) (F : Nat → Nat → Prop) (b : Bool) (i : Nat) (J : Nat → Nat → Int) (ex : Nat) : Prop :=
  (b = false → ∀ t, t < Sn (bfi g N F b i) → (J (v + 4) t = 1 → SR g (v + 1) (ac t) J = SK (bfi g N F b i) t) ∧ (J (v + 4) t = 0 → SR g (v + 1) (ac t) J = CL g N F (SK (bfi g N F b i) t))) ∧
  (b = true → SR g (v + 1) (ac 0) J 24 0 8 ∧ (∀ t, t < Sn (bfi g N F b i) → ∀ p k, SR g (v + 1) (ac t) J p k 9 → CL g N F (SK (bfi g N F b i) t) p k 9) ∧ (Sb (FIN g N F b) = false → ∀ t, t < Sn (bfi g N F b i) → sAS (SR g (v + 1) (ac t) J) (LBm g N F (FIN g N F b) t)) ∧
    ∀ t, t < Sn (bfi g N F b i) → t ≠ ex → J (v + 4) t = 0 → cA g N F (SR g (v + 1) (ac t) J) ∧ ∀ x (tt : Nat), x < 24 → Sm (bfi g N F b i) t x = (tt : Int) → sAS (adv false g (SR g (v + 1) (ac t) J) x) (SR g (v + 1) (ac tt) J))
def prg (X : Nat) : Nat := if X ≤ 8 then X else if X ≤ 16 then 8 else X - 8
theorem prg_v {X : Nat} (h : X < 8 ∨ (16 ≤ X ∧ X < 32)) : prg X = zix X ∧ prg (X + 1) = zix X + 1 := by
  unfold prg zix; repeat' split
  all_goals omega
theorem prg_n {X : Nat} (h1 : 8 ≤ X) (h2 : X < 16) : prg (X + 1) = prg X := by
  unfold prg
  repeat' split
  all_goals omega
section CH_
variable {u : Nat} {n : Nat} {L : Nat → Nat → Int} {g : GT} {N : Nat → Prop} {F : Nat → Nat → Prop} {b : Bool}
theorem bfi_none {i s x : Nat} (hg : GR g) (hb : Sb (bfi g N F b i) = false) (hs : s < Sn (bfi g N F b i)) (hx : x < 24) (hi : 24 * s + x = i) (hno : ¬ ∃ p k, adv b g (CL g N F (SK (bfi g N F b i) s)) x p k 9) : bfi g N F b (i + 1) = bfi g N F b i := by
  have h8 := (PB_bfi (N := N) (F := F) (b := b) hg i).2.2.2.2.2.2.2 s x (by omega) hx
  rw [bfi_step hb hs hx hi]
  rcases bst_c (N := N) (F := F) (b := b) (g := g) (bfi g N F b i) s x with ⟨-, c2⟩ | ⟨c1, -⟩
  · rw [c2]
    have : sM (Sm (bfi g N F b i)) s x (-1) = Sm (bfi g N F b i) := by
      funext s' x'
      unfold sM
      split
      · next c => rw [c.1, c.2, h8]
      · rfl
    rw [this]
    rfl
  · exact absurd c1 hno
theorem fin_ext {i : Nat} (hi : i ≤ 1920) : (∀ t, t < Sn (bfi g N F b i) → SK (FIN g N F b) t = SK (bfi g N F b i) t) ∧ (∀ s x, x < 24 → 24 * s + x < i → Sm (FIN g N F b) s x = Sm (bfi g N F b i) s x) ∧ Sn (bfi g N F b i) ≤ Sn (FIN g N F b) ∧ (Sb (bfi g N F b i) = true → Sb (FIN g N F b) = true) := by
  have h := bfi_ext (g := g) (N := N) (F := F) (b := b) i 1920 hi
  refine ⟨h.2.1, h.2.2.1, h.1, fun q => ?_⟩
  have := h.2.2.2 (Or.inl q)
  unfold FIN; rw [this]; exact q
theorem X0_leave (hn : 1000000000000000000000000000000 ≤ n) {v : Nat} (hv : v ∈ [73, 79]) {J0 : Nat → Nat → Int} {i s : Nat} (h : CB u v g N F b i J0) (hX0 : EX v g N F b i J0 s) (hs : s < Sn (bfi g N F b i)) (hw0 : J0 (v + 4) s = 0) (hR : ROK b (SR g (v + 1) (ac s) J0) (CL g N F (SK (bfi g N F b i) s))) (hcA : cA g N F (SR g (v + 1) (ac s) J0)) (hi : i = 24 * s ∨ (24 * s + 24 ≤ i ∧ i ≤ 1920)) (hfr : i = 24 * s → ∀ t, s < t → t < Sn (bfi g N F b i) → J0 (v + 4) t = 1) :
    ∃ J', f_X0_leave n v (s : Int) (hp u J0 L) = some (hp u J' L) ∧ Fr [v, v + 1, v + 2, v + 3, v + 4, v + 5] J0 J' ∧ (∀ j, j ≠ 3 → j ≠ 4 → J' v j = J0 v j) ∧
      ((Sb (FIN g N F b) = true ∧ J' v 3 = 1 ∧ J' v 4 = 80) ∨
       ∃ i', ((i = 24 * s ∧ i' = 24 * s + 24) ∨ (i ≠ 24 * s ∧ i' = i)) ∧ CB u v g N F b i' J' ∧ EX v g N F b i' J' 80 ∧ (i = 24 * s → ∀ t, s < t → t < Sn (bfi g N F b i') → J' (v + 4) t = 1) ∧ Sn (bfi g N F b i) ≤ Sn (bfi g N F b i') ∧ psi v J0 (Sn (bfi g N F b i)) ≤ psi v J' (Sn (bfi g N F b i')) ∧
        ∀ t, t < Sn (bfi g N F b i') → J' (v + 4) t = 1 → (t < Sn (bfi g N F b i) ∧ J0 (v + 4) t = 1) ∨ psi v J0 (Sn (bfi g N F b i)) < psi v J' (Sn (bfi g N F b i'))) := by
  have hE := h.1
  have hg := hE.gr
  have hPB := PB_bfi (N := N) (F := F) (b := b) hg i
  have hn80 := hPB.2.1
  have hrow := h.2.2.2.2.2.1
  obtain ⟨r, er, hr⟩ := X0_symbolsInFront (u := u) (L := L) hn hv hE (show s < 80 by omega) (hrow s hs).1 (hrow s hs).2.1
  have hix : ∃ ix : Nat → Nat, (∀ X, ix X = if i = 24 * s then 24 * s + prg X else i) := ⟨_, fun _ => rfl⟩
  obtain ⟨ix, hix⟩ := hix
  have hpr : ∀ X, X ≤ 32 → prg X ≤ 24 := fun X hX => by unfold prg; repeat' split
                                                        all_goals omega
  have hix1920 : ∀ X, X ≤ 32 → ix X ≤ 1920 := fun X hX => by
    have := hpr X hX
    rw [hix]; split <;> omega
  suffices key : zLP 32 (fun f X (J : Nat → Nat → Int) => l_X0_leave_8 n f v (s : Int) r (X : Int) (hp u J L))
      (fun X J => Fr [v, v + 1, v + 2, v + 3, v + 4, v + 5] J0 J ∧ (∀ j, j ≠ 3 → j ≠ 4 → J v j = J0 v j) ∧ ((Sb (FIN g N F b) = true ∧ J v 3 = 1 ∧ J v 4 = 80) ∨
        (CB u v g N F b (ix X) J ∧ EX v g N F b (ix X) J s ∧ Sn (bfi g N F b i) ≤ Sn (bfi g N F b (ix X)) ∧ ROK b (SR g (v + 1) (ac s) J) (CL g N F (SK (bfi g N F b (ix X)) s)) ∧ sAS (SR g (v + 1) (ac s) J0) (SR g (v + 1) (ac s) J) ∧
          (b = true → J (v + 4) s = 0 → SR g (v + 1) (ac s) J = SR g (v + 1) (ac s) J0 ∧ ∀ x (tt : Nat), x < prg X → Sm (bfi g N F b (ix X)) s x = (tt : Int) → sAS (adv false g (SR g (v + 1) (ac s) J0) x) (SR g (v + 1) (ac tt) J)) ∧
          (b = false → J (v + 4) s = 0) ∧ (i = 24 * s → ∀ t, s < t → t < Sn (bfi g N F b (ix X)) → J (v + 4) t = 1) ∧ psi v J0 (Sn (bfi g N F b i)) ≤ psi v J (Sn (bfi g N F b (ix X))) ∧
          ∀ t, t < Sn (bfi g N F b (ix X)) → J (v + 4) t = 1 → (t < Sn (bfi g N F b i) ∧ J0 (v + 4) t = 1) ∨ psi v J0 (Sn (bfi g N F b i)) < psi v J (Sn (bfi g N F b (ix X))))))
      (fun res => ∃ J', res = some (hp u J' L) ∧ Fr [v, v + 1, v + 2, v + 3, v + 4, v + 5] J0 J' ∧ (∀ j, j ≠ 3 → j ≠ 4 → J' v j = J0 v j) ∧
      ((Sb (FIN g N F b) = true ∧ J' v 3 = 1 ∧ J' v 4 = 80) ∨
       ∃ i', ((i = 24 * s ∧ i' = 24 * s + 24) ∨ (i ≠ 24 * s ∧ i' = i)) ∧ CB u v g N F b i' J' ∧ EX v g N F b i' J' 80 ∧ (i = 24 * s → ∀ t, s < t → t < Sn (bfi g N F b i') → J' (v + 4) t = 1) ∧ Sn (bfi g N F b i) ≤ Sn (bfi g N F b i') ∧ psi v J0 (Sn (bfi g N F b i)) ≤ psi v J' (Sn (bfi g N F b i')) ∧
        ∀ t, t < Sn (bfi g N F b i') → J' (v + 4) t = 1 → (t < Sn (bfi g N F b i) ∧ J0 (v + 4) t = 1) ∨ psi v J0 (Sn (bfi g N F b i)) < psi v J' (Sn (bfi g N F b i')))) by
    have e0 : ix 0 = i := by rw [hix]; split
                             · next c => rw [c]; rfl
                             · rfl
    have e := key 32 n 0 J0 (by omega) (by omega) ⟨Fr.rf, fun _ _ _ => rfl, Or.inr (by
      rw [e0]
      exact ⟨h, hX0, Nat.le_refl _, hR, fun _ _ _ z => z, fun _ _ => ⟨rfl, fun x tt hx => absurd hx (Nat.not_lt_zero x)⟩, fun _ => hw0, hfr, Nat.le_refl _, fun t ht q => Or.inl ⟨ht, q⟩⟩)⟩
    have e2 : f_X0_leave n v (s : Int) (hp u J0 L) = l_X0_leave_8 n n v (s : Int) r 0 (hp u J0 L) := by
      simp (disch := omega) only [f_X0_leave, ↓dhi_A hv, ↓dhG_A_0 hv, ↓dhg_A_1 hv, ↓dhq_A_1 hv, ↓dhg_A_2 hv, ↓dhq_A_2 hv, ↓dhg_A_3 hv, ↓dhq_A_3 hv, ↓dhg_A_4 hv, ↓dhq_A_4 hv, ↓dhG_A_5 hv, ↓dhG_A_6 hv, ↓dhG_A_7 hv, ↓dhG_A_8 hv, ↓dhG_A_9 hv, ↓dha_A_1 hv, ↓dhs_A_1 hv, ↓dhl_A_1 hv, ↓dha_A_2 hv, ↓dhs_A_2 hv, ↓dhl_A_2 hv, ↓dha_A_3 hv, ↓dhs_A_3 hv, ↓dhl_A_3 hv, ↓dha_A_4 hv, ↓dhs_A_4 hv, ↓dhl_A_4 hv, ↓dha_A_5 hv, ↓dhs_A_5 hv, ↓dhl_A_5 hv, Option.bind_some, ↓nm_eq, ↓sm_inl, ↓sm_inr, ↓dzo_0, ↓dzo_1, ↓drg_ok, ↓if_pos, ↓if_neg, if_pos, if_neg, if_true, if_false, Int.toNat_natCast, rg_ok, ↓bnd er]
    rw [e2]; exact e
  refine zlp ?_ ?_
  · rintro f X J hX ⟨f1, f2, hc⟩
    have ek : (X : Int) + 1 = ((X + 1 : Nat) : Int) := by omega
    have ehas := X11_has r X hX (hp u J L)
    rcases hc with ⟨c1, c2, c3⟩ | ⟨hC, hEx, hle, hRo, hsub, hsp, hwf, hfro, hps, hwp⟩
    · left
      refine ⟨J, ?_, f1, f2, Or.inl ⟨c1, c2, c3⟩⟩
      simp (disch := omega) only [l_X0_leave_8, b_X0_leave_8, ↓dhi_A hv, ↓dhG_A_0 hv, ↓dhg_A_1 hv, ↓dhq_A_1 hv, ↓dhg_A_2 hv, ↓dhq_A_2 hv, ↓dhg_A_3 hv, ↓dhq_A_3 hv, ↓dhg_A_4 hv, ↓dhq_A_4 hv, ↓dhG_A_5 hv, ↓dhG_A_6 hv, ↓dhG_A_7 hv, ↓dhG_A_8 hv, ↓dhG_A_9 hv, ↓dha_A_1 hv, ↓dhs_A_1 hv, ↓dhl_A_1 hv, ↓dha_A_2 hv, ↓dhs_A_2 hv, ↓dhl_A_2 hv, ↓dha_A_3 hv, ↓dhs_A_3 hv, ↓dhl_A_3 hv, ↓dha_A_4 hv, ↓dhs_A_4 hv, ↓dhl_A_4 hv, ↓dha_A_5 hv, ↓dhs_A_5 hv, ↓dhl_A_5 hv, Option.bind_some, ↓nm_eq, ↓sm_inl, ↓sm_inr, ↓dzo_0, ↓dzo_1, ↓drg_ok, ↓if_pos, ↓if_neg, if_pos, if_neg, if_true, if_false, Int.toNat_natCast, rg_ok, c2]
    · right
      have h30 : J v 3 = 0 := hC.2.2.1
      have hsX : s < Sn (bfi g N F b (ix X)) := by omega
      have hPX := PB_bfi (N := N) (F := F) (b := b) hg (ix X)
      by_cases hbit : bt r X = true
      · -- over this symbol
        rw [if_pos hbit] at ehas
        obtain ⟨p0, k0, z1, z2, z3⟩ := (hr X hX).mp hbit
        have hXv : X < 8 ∨ (16 ≤ X ∧ X < 32) := by rw [← z3]; exact gX_sr hg z1
        have hx24 := zix_lt hXv
        have hpv := prg_v hXv
        have hiX : (24 * s + zix X = ix X ∧ ix (X + 1) = ix X + 1) ∨ (24 * s + zix X < ix X ∧ ix (X + 1) = ix X) := by
          rw [hix, hix, hpv.1, hpv.2]
          by_cases c : i = 24 * s
          · rw [if_pos c, if_pos c]; omega
          · rw [if_neg c, if_neg c]; omega
        obtain ⟨J1, a1, a2, a3, a4⟩ := X0_advance (u := u) (L := L) hn hv hC hsX hXv hRo ⟨p0, k0, z1, hsub _ _ _ z2, z3⟩ hiX
        refine ⟨J1, ?_, f1.tr a2, fun j j1 j2 => (a3 j j1 j2).trans (f2 j j1 j2), ?_⟩
        · simp (disch := omega) only [l_X0_leave_8, b_X0_leave_8, b_X0_leave_35, ↓dhi_A hv, ↓dhG_A_0 hv, ↓dhg_A_1 hv, ↓dhq_A_1 hv, ↓dhg_A_2 hv, ↓dhq_A_2 hv, ↓dhg_A_3 hv, ↓dhq_A_3 hv, ↓dhg_A_4 hv, ↓dhq_A_4 hv, ↓dhG_A_5 hv, ↓dhG_A_6 hv, ↓dhG_A_7 hv, ↓dhG_A_8 hv, ↓dhG_A_9 hv, ↓dha_A_1 hv, ↓dhs_A_1 hv, ↓dhl_A_1 hv, ↓dha_A_2 hv, ↓dhs_A_2 hv, ↓dhl_A_2 hv, ↓dha_A_3 hv, ↓dhs_A_3 hv, ↓dhl_A_3 hv, ↓dha_A_4 hv, ↓dhs_A_4 hv, ↓dhl_A_4 hv, ↓dha_A_5 hv, ↓dhs_A_5 hv, ↓dhl_A_5 hv, Option.bind_some, ↓nm_eq, ↓sm_inl, ↓sm_inr, ↓dzo_0, ↓dzo_1, ↓drg_ok, ↓if_pos, ↓if_neg, if_pos, if_neg, if_true, if_false, Int.toNat_natCast, rg_ok, ↓bnd ehas, ↓bnd a1, h30, ek]
        · rcases a4 with ⟨-, b2, b3⟩ | ⟨b1, b2, t, b3, b4, b5, b6, b7, b8, b9⟩
          · exact Or.inl ⟨(fin_ext (hix1920 (X + 1) (by omega))).2.2.2 b2, b3⟩
          · right
            have hext := bfi_ext (g := g) (N := N) (F := F) (b := b) (ix X) (ix (X + 1)) (by omega)
            have hP1 := PB_bfi (N := N) (F := F) (b := b) hg (ix (X + 1))
            have hSb1 : Sb (bfi g N F b (ix (X + 1))) = false := b1.2.2.2.2.1
            have hFx := fin_ext (g := g) (N := N) (F := F) (b := b) (hix1920 (X + 1) (by omega))
            have hlt1 : 24 * s + zix X < ix (X + 1) := by omega
            have hSKt : SK (bfi g N F b (ix (X + 1))) t = adv b g (CL g N F (SK (bfi g N F b (ix (X + 1))) s)) (zix X) := by
              rcases hP1.2.2.2.2.2.2.1 hSb1 s (zix X) (by omega) hx24 hlt1 with ⟨w, -⟩ | ⟨t0, w1, w2, w3, -⟩
              · rw [b3] at w; omega
              · have : t0 = t := by rw [b3] at w1; omega
                rw [← this]; exact w3
            have hSKs : SK (bfi g N F b (ix (X + 1))) s = SK (bfi g N F b (ix X)) s := hext.2.1 s hsX
            -- rows only grow
            have hrs : ∀ t', t' < Sn (bfi g N F b (ix X)) → ((∀ x, x < 150 → J1 (v + 1) (150 * t' + x) = J (v + 1) (150 * t' + x)) → SR g (v + 1) (ac t') J1 = SR g (v + 1) (ac t') J) := fun t' _ q => SR_fr (fun p k hvi => by
              have h6 := vI_6 hg hvi
              exact q (6 * p + k) (by have := hvi.2; have := gX_l5 hg p; omega))
            have hgrow : ∀ t', t' < Sn (bfi g N F b (ix X)) → sAS (SR g (v + 1) (ac t') J) (SR g (v + 1) (ac t') J1) := fun t' ht' p k y z => by
              rcases b7 t' ht' with ⟨q, -⟩ | ⟨q1, -, q3, -⟩
              · rw [hrs t' ht' q]; exact z
              · rw [q1]; rw [q1] at z; exact (q3 p k y).mpr (Or.inl z)
            have hstay : ∀ t', t' < Sn (bfi g N F b (ix (X + 1))) → J1 (v + 4) t' = 0 → t' < Sn (bfi g N F b (ix X)) ∧ J (v + 4) t' = 0 ∧ SR g (v + 1) (ac t') J1 = SR g (v + 1) (ac t') J := fun t' ht' hz => by
              have hold : t' < Sn (bfi g N F b (ix X)) := by
                apply Classical.byContradiction; intro w
                have e1 := (b6 t' ht').elim (fun z => absurd z w) id
                have := (b9 (by omega)).2.1
                rw [← e1] at this; omega
              rcases b7 t' hold with ⟨q1, q2⟩ | ⟨q1, -, -, q4, -⟩
              · exact ⟨hold, by rw [← q2]; exact hz, hrs t' hold q1⟩
              · rw [q1] at hz; omega
            have hSm : ∀ t' x, x < 24 → ¬ (t' = s ∧ x = zix X) → Sm (bfi g N F b (ix (X + 1))) t' x = Sm (bfi g N F b (ix X)) t' x := fun t' x hx hne => by
              by_cases c : 24 * t' + x < ix X
              · exact hext.2.2.1 t' x hx c
              · rw [hPX.2.2.2.2.2.2.2 t' x (by omega) hx]
                rcases hiX with ⟨y1, y2⟩ | ⟨y1, y2⟩
                · exact hP1.2.2.2.2.2.2.2 t' x (by omega) hx
                · rw [y2]; exact hPX.2.2.2.2.2.2.2 t' x (by omega) hx
            have htgt : ∀ t' x (tt : Nat), t' < Sn (bfi g N F b (ix X)) → x < 24 → Sm (bfi g N F b (ix X)) t' x = (tt : Int) → tt < Sn (bfi g N F b (ix X)) := fun t' x tt h1 h2 h3 => by
              by_cases c : 24 * t' + x < ix X
              · rcases hPX.2.2.2.2.2.2.1 hC.2.2.2.2.1 t' x h1 h2 c with ⟨w, -⟩ | ⟨t0, w1, w2, -⟩
                · rw [w] at h3; omega
                · have : t0 = tt := by rw [w1] at h3; omega
                  rw [← this]; exact w2
              · have := hPX.2.2.2.2.2.2.2 t' x (by omega) h2
                rw [this] at h3; omega
            refine ⟨b1, ⟨fun hb => ?_, fun hb => ⟨hgrow 0 (by omega) 24 0 8 (hEx.2 hb).1, ?_, ?_, ?_⟩⟩, by omega, ?_, fun p k y z => hgrow s hsX p k y (hsub p k y z), fun hb hz => ?_, fun hb => ?_, fun hi0 t' h1 h2 => ?_, by omega, fun t' ht' hz => ?_⟩
            · -- WHOLE: rows
              intro t' ht'
              by_cases hold : t' < Sn (bfi g N F b (ix X))
              · rcases b7 t' hold with ⟨q1, q2⟩ | ⟨-, q2, -⟩
                · rw [q2, hrs t' hold q1, hext.2.1 t' hold]; exact hEx.1 hb t' hold
                · rw [hb] at q2; exact absurd q2 (by decide)
              · have e1 := (b6 t' ht').elim (fun z => absurd z hold) id
                have b9' := b9 (by omega)
                refine ⟨fun _ => ?_, fun z => by rw [e1, b9'.2.1] at z; exact absurd z (by decide)⟩
                rw [e1, b9'.1, hSKt, hSKs]
                funext p k y
                apply propext
                rw [advR hRo, hb]
                exact ⟨fun z => ⟨fun w => absurd w (by decide), z⟩, fun z => z.2⟩
            · -- MERGED: being there
              intro t' ht' p k z
              by_cases hold : t' < Sn (bfi g N F b (ix X))
              · rcases b7 t' hold with ⟨q1, -⟩ | ⟨q1, -, q3, -⟩
                · rw [hrs t' hold q1] at z
                  rw [hext.2.1 t' hold]; exact (hEx.2 hb).2.1 t' hold p k z
                · rw [q1] at z ⊢
                  rcases (q3 p k 9).mp z with w | w
                  · rw [q1] at hold
                    rw [hext.2.1 t hold]; exact (hEx.2 hb).2.1 t hold p k w
                  · refine CL_sub p k 9 ?_
                    rw [hSKt, hSKs]
                    exact (advR hRo).mpr ⟨fun _ => rfl, w⟩
              · have e1 := (b6 t' ht').elim (fun z => absurd z hold) id
                rw [e1, (b9 (by omega)).1] at z
                rw [e1]
                refine CL_sub p k 9 ?_
                rw [hSKt, hSKs]
                exact (advR hRo).mpr ⟨fun _ => rfl, z⟩
            · -- nothing too much
              intro hF t' ht'
              have hm := (hEx.2 hb).2.2.1 hF
              have hAF : sAS (adv false g (SR g (v + 1) (ac s) J) (zix X)) (LBm g N F (FIN g N F b) t) := fun p k y z =>
                LBm_cl.2.2 s (zix X) t (Nat.lt_of_lt_of_le (show s < Sn (bfi g N F b (ix (X + 1))) by omega) hFx.2.2.1) hx24 (by rw [hFx.2.1 s (zix X) hx24 hlt1]; exact b3) p k y (adv_mono (hm s hsX) p k y z)
              by_cases hold : t' < Sn (bfi g N F b (ix X))
              · rcases b7 t' hold with ⟨q1, -⟩ | ⟨q1, -, q3, -⟩
                · rw [hrs t' hold q1]; exact hm t' hold
                · rw [q1]
                  rw [q1] at hold
                  intro p k y z
                  exact ((q3 p k y).mp z).elim (hm t hold p k y) (hAF p k y)
              · have e1 := (b6 t' ht').elim (fun z => absurd z hold) id
                rw [e1, (b9 (by omega)).1]; exact hAF
            · -- what is done
              intro t' ht' hne hz
              obtain ⟨q1, q2, q3⟩ := hstay t' ht' hz
              obtain ⟨w1, w2⟩ := (hEx.2 hb).2.2.2 t' q1 hne q2
              rw [q3]
              refine ⟨w1, fun x tt hx hm => ?_⟩
              rw [hSm t' x hx (fun c => hne c.1)] at hm
              intro p k y z
              exact hgrow tt (htgt t' x tt q1 hx hm) p k y (w2 x tt hx hm p k y z)
            · -- the row of this state
              rw [hSKs]
              refine ⟨fun hb => ?_, fun hb p k => ?_⟩
              · rcases b7 s hsX with ⟨q1, -⟩ | ⟨-, q2, -⟩
                · rw [hrs s hsX q1]; exact hRo.1 hb
                · rw [hb] at q2; exact absurd q2 (by decide)
              · refine ⟨fun z => ?_, fun z => hgrow s hsX p k 9 ((hRo.2 hb p k).mpr z)⟩
                rcases b7 s hsX with ⟨q1, -⟩ | ⟨q1, -, q3, -⟩
                · rw [hrs s hsX q1] at z; exact (hRo.2 hb p k).mp z
                · rw [q1] at z
                  rcases (q3 p k 9).mp z with w | w
                  · rw [← q1] at w; exact (hRo.2 hb p k).mp w
                  · rw [q1, ← hext.2.1 t (by omega)]
                    refine CL_sub p k 9 ?_
                    rw [hSKt, hSKs]
                    exact (advR hRo).mpr ⟨fun _ => rfl, w⟩
            · obtain ⟨q1, q2, q3⟩ := hstay s (by omega) hz
              obtain ⟨w1, w2⟩ := hsp hb q2
              refine ⟨q3.trans w1, fun x tt hx hm => ?_⟩
              rw [hpv.2] at hx
              by_cases c : x = zix X
              · rw [c] at hm ⊢
                have : tt = t := by rw [b3] at hm; omega
                rw [this, ← w1]; exact b8 hb
              · rw [hSm s x (by omega) (fun z => c z.2)] at hm
                intro p k y z
                exact hgrow tt (htgt s x tt hsX (by omega) hm) p k y (w2 x tt (by rw [hpv.1]; omega) hm p k y z)
            · rcases b7 s hsX with ⟨-, q2⟩ | ⟨-, q2, -⟩
              · rw [q2]; exact hwf hb
              · rw [hb] at q2; exact absurd q2 (by decide)
            · by_cases hold : t' < Sn (bfi g N F b (ix X))
              · rcases b7 t' hold with ⟨-, q2⟩ | ⟨q1, -, -, q4, -⟩
                · rw [q2]; exact hfro hi0 t' h1 hold
                · rw [q1]; exact q4
              · have e1 := (b6 t' h2).elim (fun z => absurd z hold) id
                rw [e1]; exact (b9 (by omega)).2.1
            · by_cases hold : t' < Sn (bfi g N F b (ix X))
              · rcases b7 t' hold with ⟨-, q2⟩ | ⟨-, -, -, -, q5⟩
                · rw [q2] at hz
                  rcases hwp t' hold hz with w | w
                  · exact Or.inl w
                  · right; omega
                · right; omega
              · right
                have e1 := (b6 t' ht').elim (fun z => absurd z hold) id
                have := (b9 (by omega)).2.2; omega
      · -- nothing in front
        have hbit' : ¬ (∃ p k, k < Gl (gX g) p ∧ SR g (v + 1) (ac s) J0 p k 9 ∧ Gs (gX g) p k = X) := mt (hr X hX).mpr hbit
        rw [if_neg hbit] at ehas
        refine ⟨J, ?_, f1, f2, Or.inr ?_⟩
        · simp (disch := omega) only [l_X0_leave_8, b_X0_leave_8, b_X0_leave_35, ↓dhi_A hv, ↓dhG_A_0 hv, ↓dhg_A_1 hv, ↓dhq_A_1 hv, ↓dhg_A_2 hv, ↓dhq_A_2 hv, ↓dhg_A_3 hv, ↓dhq_A_3 hv, ↓dhg_A_4 hv, ↓dhq_A_4 hv, ↓dhG_A_5 hv, ↓dhG_A_6 hv, ↓dhG_A_7 hv, ↓dhG_A_8 hv, ↓dhG_A_9 hv, ↓dha_A_1 hv, ↓dhs_A_1 hv, ↓dhl_A_1 hv, ↓dha_A_2 hv, ↓dhs_A_2 hv, ↓dhl_A_2 hv, ↓dha_A_3 hv, ↓dhs_A_3 hv, ↓dhl_A_3 hv, ↓dha_A_4 hv, ↓dhs_A_4 hv, ↓dhl_A_4 hv, ↓dha_A_5 hv, ↓dhs_A_5 hv, ↓dhl_A_5 hv, Option.bind_some, ↓nm_eq, ↓sm_inl, ↓sm_inr, ↓dzo_0, ↓dzo_1, ↓drg_ok, ↓if_pos, ↓if_neg, if_pos, if_neg, if_true, if_false, Int.toNat_natCast, rg_ok, ↓bnd ehas, h30, ek]
        · by_cases hXv : X < 8 ∨ (16 ≤ X ∧ X < 32)
          · have hx24 := zix_lt hXv
            have hpv := prg_v hXv
            have hSK0 : SK (bfi g N F b (ix X)) s = SK (bfi g N F b i) s := by
              rw [hix]; split
              · next c => exact (bfi_ext i _ (by omega)).2.1 s hs
              · rfl
            have hnoA : ¬ ∃ p k, adv b g (CL g N F (SK (bfi g N F b (ix X)) s)) (zix X) p k 9 := by
              rintro ⟨p, k, w⟩
              rw [hSK0] at w
              obtain ⟨-, -, k', w1, w2, w3, w4, w5, -⟩ := (advR hR).mp w
              exact hbit' ⟨p, k', w3, w5, zix_inj (gX_sr hg w3) hXv w4⟩
            have hsame : bfi g N F b (ix (X + 1)) = bfi g N F b (ix X) := by
              by_cases c : i = 24 * s
              · have q1 : ix X = 24 * s + zix X := by rw [hix, if_pos c, hpv.1]
                have q2 : ix (X + 1) = ix X + 1 := by rw [hix (X + 1), if_pos c, hpv.2, q1]; omega
                rw [q2]
                exact bfi_none hg hC.2.2.2.2.1 hsX hx24 q1.symm hnoA
              · rw [hix, hix, if_neg c, if_neg c]
            have hCB : CB u v g N F b (ix (X + 1)) J := by unfold CB at hC ⊢; rw [hsame]; exact hC
            have hEX : EX v g N F b (ix (X + 1)) J s := by unfold EX at hEx ⊢; rw [hsame]; exact hEx
            rw [hsame]
            refine ⟨hCB, hEX, hle, hRo, hsub, fun hb hz => ?_, hwf, hfro, hps, hwp⟩
            obtain ⟨w1, w2⟩ := hsp hb hz
            refine ⟨w1, fun x tt hx hm => ?_⟩
            rw [hpv.2] at hx
            by_cases c : x = zix X
            · rintro p k y ⟨-, k', y1, y2, y3, y4, y5, -⟩
              rw [c] at y4
              exact absurd ⟨p, k', y3, y5, zix_inj (gX_sr hg y3) hXv y4⟩ hbit'
            · exact w2 x tt (by rw [hpv.1]; omega) hm
          · have e1 : ix (X + 1) = ix X := by rw [hix, hix, prg_n (by omega) (by omega)]
            rw [e1, prg_n (by omega) (by omega)]
            exact ⟨hC, hEx, hle, hRo, hsub, hsp, hwf, hfro, hps, hwp⟩
  · rintro f J ⟨f1, f2, hc⟩
    refine ⟨J, ?_, f1, f2, ?_⟩
    · simp (disch := omega) only [l_X0_leave_8, b_X0_leave_8, Option.bind_some, ↓nm_eq, ↓sm_inl, ↓sm_inr, ↓dzo_0, ↓dzo_1, ↓drg_ok, ↓if_pos, ↓if_neg, if_pos, if_neg, if_true, if_false, Int.toNat_natCast, rg_ok]
    · rcases hc with c | ⟨hC, hEx, hle, hRo, hsub, hsp, hwf, hfro, hps, hwp⟩
      · exact Or.inl c
      · right
        have e32 : prg 32 = 24 := rfl
        refine ⟨ix 32, ?_, hC, ⟨hEx.1, fun hb => ⟨(hEx.2 hb).1, (hEx.2 hb).2.1, (hEx.2 hb).2.2.1, fun t ht _ hz => ?_⟩⟩, hfro, hle, hps, hwp⟩
        · rw [hix, e32]
          by_cases c : i = 24 * s
          · rw [if_pos c]; exact Or.inl ⟨c, rfl⟩
          · rw [if_neg c]; exact Or.inr ⟨c, rfl⟩
        · by_cases e : t = s
          · rw [e] at hz ⊢
            obtain ⟨w1, w2⟩ := hsp hb hz
            rw [w1]
            exact ⟨hcA, fun x tt hx hm => w2 x tt (by rw [e32]; exact hx) hm⟩
          · exact (hEx.2 hb).2.2.2 t ht e hz
end CH_
