/-! ===== the class's automaton: built ===== -/
def CAU (u v : Nat) (g : GT) (N : Nat → Prop) (F : Nat → Nat → Prop) (b : Bool) (J : Nat → Nat → Int) : Prop :=
  (Sb (FIN g N F b) = true ∧ J v 3 = 1) ∨
  (Sb (FIN g N F b) = false ∧ J v 3 = 0 ∧ J v 4 = (Sn (FIN g N F b) : Int) ∧
    (∀ t, t < Sn (FIN g N F b) → VR g (v + 1) (ac t) J ∧ RZ g (v + 1) (150 * t) J ∧ SR g (v + 1) (ac t) J = (if b then LBm g N F (FIN g N F b) t else CL g N F (SK (FIN g N F b) t))) ∧
    ∀ s X, s < Sn (FIN g N F b) → X < 32 → J (v + 2) (32 * s + X) = if X < 8 ∨ 16 ≤ X then Sm (FIN g N F b) s (zix X) else -1)
theorem tn144 : Int.toNat 144 = 144 := rfl
section CI_
variable {u : Nat} {n : Nat} {L : Nat → Nat → Int} {g : GT} {N : Nat → Prop} {F : Nat → Nat → Prop} {b : Bool}
theorem CL_CL {K : AS} : CL g N F (CL g N F K) = CL g N F K := by
  funext p k t
  exact propext ⟨CL_min (fun _ _ _ z => z) CL_cl p k t, CL_sub p k t⟩
/-- the first state -/
theorem X0_init (hn : 1000000000000000000000000000000 ≤ n) {v : Nat} (hv : v ∈ [73, 79]) {J0 : Nat → Nat → Int} (hE : CE u g N F J0) (hm : J0 v 1 = (if b then 1 else 0)) (h2 : J0 v 2 = 0) :
    ∃ J', f_X0_build n v (hp u J0 L) = l_X0_build_47 n n v 1 0 (hp u J' L) ∧ Fr [v, v + 1, v + 2, v + 3, v + 4, v + 5] J0 J' ∧ (∀ j, j ≠ 3 → j ≠ 4 → J' v j = J0 v j) ∧ CB u v g N F b 0 J' ∧ EX v g N F b 0 J' 80 ∧ J' (v + 4) 0 = 1 := by
  have hg := hE.gr
  have h5 : h0S.getD (v + 5) (0, 0) = (1, 150) ∧ v + 5 < 162 := by
    have key : ∀ v ∈ [73, 79], h0S.getD (v + 5) (0, 0) = (1, 150) ∧ v + 5 < 162 := by decide
    exact key v hv
  obtain ⟨J1, e1, f1, v1⟩ := J7_fill (u := u) (L := L) (I := gx_u (gx_u J0 v 4 0) v 3 0) (x := 0) (a := v + 5) (N := 150) hn h5.1 h5.2 (by decide)
  have q4 : gx_u J1 (v + 5) 144 768 v 4 = ((0 : Nat) : Int) := by rw [gu_ne (by omega), f1 v (by simp), gu_at_ne (by decide), gu_same]; rfl
  obtain ⟨J2, e2, f2, k1, k2, k3, k4, k5, k6⟩ := X0_addState (u := u) (L := L) hn hv (J0 := gx_u J1 (v + 5) 144 768) (k := 0) (-1) q4 (by decide)
  have hJ1 : ∀ a, a ≠ v → a ≠ v + 5 → J1 a = J0 a := fun a z1 z2 => by rw [f1 a (by simpa using z2), gu_ne z1, gu_ne z1]
  have hr : ∀ x, x < 150 → J2 (v + 1) (150 * 0 + x) = if x = 144 then 768 else 0 := fun x hx => by
    rw [k3, if_pos ⟨by omega, by omega⟩, show 150 * 0 + x - 150 * 0 = x by omega, gu_at, v1, if_pos hx]
  have hvI0 : vI g 24 0 := ⟨Or.inr rfl, Nat.zero_le _⟩
  have hval : ∀ p k, vI g p k → J2 (v + 1) (ac 0 p k) = if p = 24 ∧ k = 0 then 768 else 0 := fun p k hvi => by
    have h6 := vI_6 hg hvi
    have e := hr (6 * p + k) (by have := hvi.2; have := gX_l5 hg p; omega)
    have e' : J2 (v + 1) (ac 0 p k) = if 6 * p + k = 144 then 768 else 0 := e
    rw [e']
    by_cases c : p = 24 ∧ k = 0
    · rw [if_pos c, if_pos (by omega)]
    · rw [if_neg c, if_neg (by omega)]
  have hSR : ∀ p k y, SR g (v + 1) (ac 0) J2 p k y ↔ p = 24 ∧ k = 0 ∧ (y = 8 ∨ y = 9) := fun p k y => by
    unfold SR
    constructor
    · rintro ⟨z1, z2⟩
      rw [hval p k z1] at z2
      split at z2
      · next c => rw [bt_768, Bool.or_eq_true, decide_eq_true_eq, decide_eq_true_eq] at z2; exact ⟨c.1, c.2, z2⟩
      · rw [bt_zero] at z2; exact absurd z2 (by decide)
    · rintro ⟨z1, z2, z3⟩
      rw [z1, z2]
      refine ⟨hvI0, ?_⟩
      rw [hval 24 0 hvI0, if_pos ⟨rfl, rfl⟩, bt_768, Bool.or_eq_true, decide_eq_true_eq, decide_eq_true_eq]
      exact z3
  have hfr : Fr [v, v + 1, v + 2, v + 3, v + 4, v + 5] J0 J2 := (((((Fr.rf.wr (by simp)).wr (by simp)).tr (f1.up (fun a z => by simp at z ⊢; omega))).wr (by simp)).tr (f2.up (fun a z => by simp at z ⊢; omega)))
  have hS0 : Sn (bfi g N F b 0) = 1 := rfl
  have ht1 : ∀ t, t < Sn (bfi g N F b 0) → t = 0 := fun t ht => by rw [hS0] at ht; omega
  refine ⟨J2, ?_, hfr, fun j j1 j2 => ?_, ⟨hE.fr hfr (by simp at hv ⊢; omega), ?_, ?_, k2, rfl, fun t ht => ?_, ⟨by rw [k5, if_pos rfl], fun t h1 ht => by have := ht1 t ht; omega⟩, fun t ht => ?_, fun s X hs hX => ?_⟩, ⟨fun hb t ht => ?_, fun hb => ⟨(hSR _ _ _).mpr ⟨rfl, rfl, Or.inl rfl⟩, fun t ht p k z => ?_, fun _ t ht p k y z => ?_, fun t ht _ hz => ?_⟩⟩, ?_⟩
  · simp (disch := omega) only [f_X0_build, ↓dhi_A hv, ↓dhG_A_0 hv, ↓dhg_A_1 hv, ↓dhq_A_1 hv, ↓dhg_A_2 hv, ↓dhq_A_2 hv, ↓dhg_A_3 hv, ↓dhq_A_3 hv, ↓dhg_A_4 hv, ↓dhq_A_4 hv, ↓dhG_A_5 hv, ↓dhG_A_6 hv, ↓dhG_A_7 hv, ↓dhG_A_8 hv, ↓dhG_A_9 hv, ↓dha_A_1 hv, ↓dhs_A_1 hv, ↓dhl_A_1 hv, ↓dha_A_2 hv, ↓dhs_A_2 hv, ↓dhl_A_2 hv, ↓dha_A_3 hv, ↓dhs_A_3 hv, ↓dhl_A_3 hv, ↓dha_A_4 hv, ↓dhs_A_4 hv, ↓dhl_A_4 hv, ↓dha_A_5 hv, ↓dhs_A_5 hv, ↓dhl_A_5 hv, Option.bind_some, ↓nm_eq, ↓sm_inl, ↓sm_inr, ↓dzo_0, ↓dzo_1, ↓drg_ok, ↓if_pos, ↓if_neg, if_pos, if_neg, if_true, if_false, Int.toNat_natCast, rg_ok, ↓bnd e1, ↓bnd e2, h2, tn144]
  · rw [k1 j j2, gu_ne (by omega), f1 v (by simp), gu_at_ne j1, gu_at_ne j2]
  · rw [k1 1 (by decide), gu_ne (by omega), f1 v (by simp), gu_at_ne (by decide), gu_at_ne (by decide)]; exact hm
  · rw [k1 3 (by decide), gu_ne (by omega), f1 v (by simp), gu_same]
  · rw [ht1 t ht]
    refine ⟨fun p k hvi => ?_, fun x hx hvi => ?_, fun p k y _ hy => ?_⟩
    · rw [hval p k hvi]
      split
      · refine ⟨by decide, fun y hy => ?_, Or.inr (by rw [bt_768]; decide)⟩
        rw [bt_768, Bool.or_eq_true, decide_eq_true_eq, decide_eq_true_eq] at hy; omega
      · exact ⟨by decide, fun y hy => by rw [bt_zero] at hy; exact absurd hy (by decide), Or.inl rfl⟩
    · rw [hr x hx, if_neg]
      intro e
      exact hvi (by rw [e]; exact hvI0)
    · rw [hSR]
      show _ ↔ K0 b p k y
      unfold K0
      constructor
      · rintro ⟨z1, z2, z3 | z3⟩
        · refine ⟨z1, z2, ?_⟩
          cases b with
          | false => exact Or.inr ⟨z3, rfl⟩
          | true => exact Or.inl (hy rfl)
        · exact ⟨z1, z2, Or.inl z3⟩
      · rintro ⟨z1, z2, z3 | z3⟩
        · exact ⟨z1, z2, Or.inr z3⟩
        · exact ⟨z1, z2, Or.inl z3.1⟩
  · rw [ht1 t ht, k6, if_pos rfl]; exact Or.inr rfl
  · rw [ht1 s hs, k4, if_pos ⟨by omega, by omega⟩]
    split <;> rfl
  · rw [ht1 t ht, k6, if_pos rfl]
    refine ⟨fun _ => ?_, fun z => absurd z (by decide)⟩
    funext p k y
    apply propext
    rw [hSR]
    show _ ↔ K0 b p k y
    unfold K0
    rw [hb]
    exact ⟨fun ⟨z1, z2, z3⟩ => ⟨z1, z2, z3.elim (fun w => Or.inr ⟨w, rfl⟩) Or.inl⟩, fun ⟨z1, z2, z3⟩ => ⟨z1, z2, z3.elim Or.inr (fun w => Or.inl w.1)⟩⟩
  · rw [ht1 t ht] at z ⊢
    obtain ⟨z1, z2, -⟩ := (hSR p k 9).mp z
    exact CL_sub p k 9 ⟨z1, z2, Or.inl rfl⟩
  · rw [ht1 t ht] at z ⊢
    obtain ⟨z1, z2, z3⟩ := (hSR p k y).mp z
    rw [z1, z2]
    rcases z3 with z3 | z3 <;> rw [z3]
    · exact LBm_cl.1.1
    · exact LBm_cl.1.2
  · rw [ht1 t ht, k6, if_pos rfl] at hz; exact absurd hz (by decide)
  · rw [k6, if_pos rfl]
/-- a state completed and left -/
theorem X0_visit (hn : 1000000000000000000000000000000 ≤ n) {v : Nat} (hv : v ∈ [73, 79]) {J : Nat → Nat → Int} {i s : Nat} (h : CB u v g N F b i J) (hX : EX v g N F b i J 80) (hs : s < Sn (bfi g N F b i)) (hw : J (v + 4) s = 1) (hi : i = 24 * s ∨ (24 * s + 24 ≤ i ∧ i ≤ 1920)) (hfr : i = 24 * s → ∀ t, s < t → t < Sn (bfi g N F b i) → J (v + 4) t = 1) :
    ∃ J2 J', f_X0_complete n v (s : Int) (hp u (gx_u J (v + 4) s 0) L) = some (hp u J2 L) ∧ f_X0_leave n v (s : Int) (hp u J2 L) = some (hp u J' L) ∧ Fr [v, v + 1, v + 2, v + 3, v + 4, v + 5] J J' ∧ (∀ j, j ≠ 3 → j ≠ 4 → J' v j = J v j) ∧
      ((Sb (FIN g N F b) = true ∧ J' v 3 = 1 ∧ J' v 4 = 80) ∨
       ∃ i', ((i = 24 * s ∧ i' = 24 * s + 24) ∨ (i ≠ 24 * s ∧ i' = i)) ∧ CB u v g N F b i' J' ∧ EX v g N F b i' J' 80 ∧ (i = 24 * s → ∀ t, s < t → t < Sn (bfi g N F b i') → J' (v + 4) t = 1) ∧ Sn (bfi g N F b i) ≤ Sn (bfi g N F b i') ∧ psi v J (Sn (bfi g N F b i)) ≤ psi v J' (Sn (bfi g N F b i')) ∧
        ∀ t, t < Sn (bfi g N F b i') → J' (v + 4) t = 1 → (t < Sn (bfi g N F b i) ∧ t ≠ s ∧ J (v + 4) t = 1) ∨ psi v J (Sn (bfi g N F b i)) < psi v J' (Sn (bfi g N F b i'))) := by
  have hE := h.1
  have hg := hE.gr
  have hP := PB_bfi (N := N) (F := F) (b := b) hg i
  have hrow := h.2.2.2.2.2.1
  have hn80 := hP.2.1
  have hs80 : s < 80 := by omega
  have hgx : ∀ a, a ≠ v + 4 → gx_u J (v + 4) s 0 a = J a := fun a ha => gu_ne ha
  have hs1 := hrow s hs
  have hE1 : CE u g N F (gx_u J (v + 4) s 0) := hE.fr (l := [v + 4]) (Fr.rf.wr (by simp)) (by simp at hv ⊢; omega)
  have hV1 : VR g (v + 1) (ac s) (gx_u J (v + 4) s 0) := VR_fr (fun p k _ => by rw [hgx (v + 1) (by omega)]) hs1.1
  have hSR1 : ∀ t, SR g (v + 1) (ac t) (gx_u J (v + 4) s 0) = SR g (v + 1) (ac t) J := fun t => SR_fr (fun p k _ => by rw [hgx (v + 1) (by omega)])
  obtain ⟨J2, e2, f2, r1, r2, V2, S2⟩ := X0_complete (u := u) (L := L) hn hv hE1 (s := s) (by omega) (K := SR g (v + 1) (ac s) J) ⟨hV1, by rw [hSR1]; exact fun _ _ _ z => z, by rw [hSR1]; exact CL_sub⟩ (fun x hx hvi => by rw [hgx (v + 1) (by omega)]; exact hs1.2.1 x hx hvi)
  have j1 : ∀ a, a ≠ v + 1 → a ≠ v + 4 → J2 a = J a := fun a z1 z2 => by rw [f2 a (by simpa using z1), hgx a z2]
  have j4 : ∀ t, J2 (v + 4) t = if t = s then 0 else J (v + 4) t := fun t => by rw [f2 (v + 4) (by simp), gu_at]
  have jr : ∀ t, t ≠ s → ∀ x, x < 150 → J2 (v + 1) (150 * t + x) = J (v + 1) (150 * t + x) := fun t ht x hx => by rw [r1 _ (by omega), hgx (v + 1) (by omega)]
  have jS : ∀ t, t ≠ s → SR g (v + 1) (ac t) J2 = SR g (v + 1) (ac t) J := fun t ht => SR_fr (fun p k hvi => by
    have h6 := vI_6 hg hvi
    exact jr t ht (6 * p + k) (by have := hvi.2; have := gX_l5 hg p; omega))
  have hgrow : ∀ t, sAS (SR g (v + 1) (ac t) J) (SR g (v + 1) (ac t) J2) := fun t p k y z => by
    by_cases e : t = s
    · rw [e] at z ⊢; rw [S2]; exact CL_sub p k y z
    · rw [jS t e]; exact z
  have hSK9 : ∀ p k, SK (bfi g N F b i) s p k 9 → SR g (v + 1) (ac s) J p k 9 := fun p k z => by
    refine (hs1.2.2 p k 9 ?_ (fun _ => rfl)).mpr z
    by_cases e : s = 0
    · rw [e, hP.2.2.1] at z; exact Or.inr z.1
    · obtain ⟨s', x', -, -, -, q4⟩ := hP.2.2.2.2.1 s (by omega) hs
      rw [q4] at z
      obtain ⟨-, k', q1, -⟩ := z
      exact Or.inl (by omega)
  have hC2 : CB u v g N F b i J2 := by
    obtain ⟨-, a1, a2, a3, a4, -, a6, a7, a8⟩ := h
    refine ⟨hE1.fr f2 (by simp at hv ⊢; omega), by rw [j1 v (by omega) (by omega)]; exact a1, by rw [j1 v (by omega) (by omega)]; exact a2, by rw [j1 v (by omega) (by omega)]; exact a3, a4, fun t ht => ?_, by rw [j1 (v + 3) (by omega) (by omega)]; exact a6, fun t ht => ?_, by rw [j1 (v + 2) (by omega) (by omega)]; exact a8⟩
    · by_cases e : t = s
      · rw [e]
        refine ⟨V2, fun x hx hvi => ?_, fun p k y c1 c2 => ?_⟩
        · rw [r2 x hx (fun q hq e => hvi ⟨Or.inl (by rw [e]; omega), by omega⟩), hgx (v + 1) (by omega)]
          exact hs1.2.1 x hx hvi
        · rw [S2, CL_kern hg c1]; exact hs1.2.2 p k y c1 c2
      · have q := hrow t ht
        refine ⟨VR_fr (fun p k hvi => ?_) q.1, fun x hx hvi => by rw [jr t e x hx]; exact q.2.1 x hx hvi, fun p k y c1 c2 => by rw [jS t e]; exact q.2.2 p k y c1 c2⟩
        have h6 := vI_6 hg hvi
        exact jr t e (6 * p + k) (by have := hvi.2; have := gX_l5 hg p; omega)
    · rw [j4]; split
      · exact Or.inl rfl
      · exact a7 t ht
  have hFs : s < Sn (FIN g N F b) := Nat.lt_of_lt_of_le hs (fin_ext (g := g) (N := N) (F := F) (b := b) (show i ≤ 1920 by omega)).2.2.1
  have hEX2 : EX v g N F b i J2 s := by
    refine ⟨fun hb t ht => ?_, fun hb => ⟨hgrow 0 _ _ _ (hX.2 hb).1, fun t ht p k z => ?_, fun hF t ht => ?_, fun t ht hne hz => ?_⟩⟩
    · rw [j4]
      by_cases e : t = s
      · rw [if_pos e, e]
        refine ⟨fun z => absurd z (by decide), fun _ => ?_⟩
        rw [S2, (hX.1 hb s hs).1 hw]
      · rw [if_neg e, jS t e]; exact hX.1 hb t ht
    · by_cases e : t = s
      · rw [e] at z ⊢
        rw [S2] at z
        have := CL_9 (K' := CL g N F (SK (bfi g N F b i) s)) (fun p k w => (hX.2 hb).2.1 s hs p k w) z
        rwa [CL_CL] at this
      · rw [jS t e] at z; exact (hX.2 hb).2.1 t ht p k z
    · by_cases e : t = s
      · rw [e, S2]; exact CL_min ((hX.2 hb).2.2.1 hF s hs) (LBm_cl.2.1 s hFs)
      · rw [jS t e]; exact (hX.2 hb).2.2.1 hF t ht
    · rw [j4, if_neg hne] at hz
      obtain ⟨w1, w2⟩ := (hX.2 hb).2.2.2 t ht (by have := hP.2.1; omega) hz
      rw [jS t hne]
      exact ⟨w1, fun x tt hx hm p k y z => hgrow tt p k y (w2 x tt hx hm p k y z)⟩
  have hRO : ROK b (SR g (v + 1) (ac s) J2) (CL g N F (SK (bfi g N F b i) s)) := by
    rw [S2]
    refine ⟨fun hb => by rw [(hX.1 hb s hs).1 hw], fun hb p k => ⟨fun z => ?_, fun z => CL_9 hSK9 z⟩⟩
    have := CL_9 (K' := CL g N F (SK (bfi g N F b i) s)) (fun p k w => (hX.2 hb).2.1 s hs p k w) z
    rwa [CL_CL] at this
  have hpsi : psi v J (Sn (bfi g N F b i)) ≤ psi v J2 (Sn (bfi g N F b i)) := by
    refine psi_mono (Nat.le_refl _) (fun x hx y hb => ?_)
    have hx1 : x = 150 * (x / 150) + x % 150 := by omega
    by_cases e : x / 150 = s
    · have hb' : bt (J (v + 1) (150 * s + x % 150)) y = true := by rw [← e, ← hx1]; exact hb
      obtain ⟨w1, w2⟩ := bit_row hs1.1 hs1.2.1 (show x % 150 < 150 by omega) hb'
      have w3 := (hgrow s _ _ _ w2).2
      rw [ac_x, ← e, ← hx1] at w3; exact w3
    · rw [hx1, jr (x / 150) e (x % 150) (by omega), ← hx1]; exact hb
  obtain ⟨J3, e3, f3, k3, c3⟩ := X0_leave (u := u) (L := L) hn hv hC2 hEX2 hs (by rw [j4, if_pos rfl]) hRO (by rw [S2]; exact CL_cl) hi (fun hi0 t h1 h2 => by rw [j4, if_neg (by omega)]; exact hfr hi0 t h1 h2)
  refine ⟨J2, J3, e2, e3, (((Fr.rf.wr (by simp)).tr (f2.up (fun a z => by simp at z ⊢; omega))).tr f3), fun j z1 z2 => by rw [k3 j z1 z2, j1 v (by omega) (by omega)], ?_⟩
  · rcases c3 with c | ⟨i', c1, c2, c3, c4, c5, c6, c7⟩
    · exact Or.inl c
    · refine Or.inr ⟨i', c1, c2, c3, c4, c5, by omega, fun t ht hz => ?_⟩
      rcases c7 t ht hz with ⟨w1, w2⟩ | w
      · rw [j4] at w2
        by_cases e : t = s
        · rw [if_pos e] at w2; exact absurd w2 (by decide)
        · rw [if_neg e] at w2; exact Or.inl ⟨w1, e, w2⟩
      · right; omega
theorem X0_build (hn : 1000000000000000000000000000000 ≤ n) {v : Nat} (hv : v ∈ [73, 79]) {J0 : Nat → Nat → Int} (hE : CE u g N F J0) (hm : J0 v 1 = (if b then 1 else 0)) (h2 : J0 v 2 = 0) :
    ∃ J', f_X0_build n v (hp u J0 L) = some (hp u J' L) ∧ Fr [v, v + 1, v + 2, v + 3, v + 4, v + 5] J0 J' ∧ (∀ j, j ≠ 2 → j ≠ 3 → j ≠ 4 → J' v j = J0 v j) ∧ J' v 2 = 1 ∧ CAU u v g N F b J' := by
  have hg := hE.gr
  obtain ⟨J1, e1, f1, k1, c1, x1, w1⟩ := X0_init (u := u) (L := L) (b := b) hn hv hE hm h2
  -- one turn over the states
  have turn : ∀ (r47 : Nat → Int → Int → gi_H → Option gi_H) (rd : Nat) (Jr : Nat → Nat → Int) (ir : Nat), CB u v g N F b ir Jr → Fr [v, v + 1, v + 2, v + 3, v + 4, v + 5] J0 Jr → (∀ j, j ≠ 3 → j ≠ 4 → Jr v j = J0 v j) →
      zLP 80 (fun f st (s1 : Int × (Nat → Nat → Int)) => l_X0_build_68 n r47 f v s1.1 (rd : Int) (st : Int) (hp u s1.2 L))
      (fun st s1 => Fr [v, v + 1, v + 2, v + 3, v + 4, v + 5] J0 s1.2 ∧ (∀ j, j ≠ 3 → j ≠ 4 → s1.2 v j = J0 v j) ∧ (s1.1 = 0 ∨ s1.1 = 1) ∧ ((Sb (FIN g N F b) = true ∧ s1.2 v 3 = 1 ∧ s1.2 v 4 = 80) ∨ ∃ i, CB u v g N F b i s1.2 ∧ EX v g N F b i s1.2 80 ∧ ((i = 24 * st ∧ st ≤ Sn (bfi g N F b i) ∧ ∀ t, st ≤ t → t < Sn (bfi g N F b i) → s1.2 (v + 4) t = 1) ∨ (24 * Sn (bfi g N F b i) ≤ i ∧ i ≤ 1920)) ∧ psi v Jr (Sn (bfi g N F b ir)) ≤ psi v s1.2 (Sn (bfi g N F b i)) ∧ (∀ t, t < st → t < Sn (bfi g N F b i) → s1.2 (v + 4) t = 1 → psi v Jr (Sn (bfi g N F b ir)) < psi v s1.2 (Sn (bfi g N F b i))) ∧
          ((s1.1 = 0 ∧ s1.2 = Jr ∧ i = ir ∧ ∀ t, t < st → t < Sn (bfi g N F b i) → s1.2 (v + 4) t = 0) ∨ (s1.1 = 1 ∧ ∃ t, t < Sn (bfi g N F b ir) ∧ Jr (v + 4) t = 1))))
      (fun res => ∃ (fl : Int) (J' : Nat → Nat → Int), res = r47 v fl ((rd + 1 : Nat) : Int) (hp u J' L) ∧ Fr [v, v + 1, v + 2, v + 3, v + 4, v + 5] J0 J' ∧ (∀ j, j ≠ 3 → j ≠ 4 → J' v j = J0 v j) ∧ (fl = 0 ∨ fl = 1) ∧ ((Sb (FIN g N F b) = true ∧ J' v 3 = 1 ∧ J' v 4 = 80) ∨ ∃ i, CB u v g N F b i J' ∧ EX v g N F b i J' 80 ∧ 24 * Sn (bfi g N F b i) ≤ i ∧ i ≤ 1920 ∧ psi v Jr (Sn (bfi g N F b ir)) ≤ psi v J' (Sn (bfi g N F b i)) ∧ (∀ t, t < Sn (bfi g N F b i) → J' (v + 4) t = 1 → psi v Jr (Sn (bfi g N F b ir)) < psi v J' (Sn (bfi g N F b i))) ∧
          ((fl = 0 ∧ J' = Jr ∧ i = ir ∧ ∀ t, t < Sn (bfi g N F b i) → J' (v + 4) t = 0) ∨ (fl = 1 ∧ ∃ t, t < Sn (bfi g N F b ir) ∧ Jr (v + 4) t = 1)))) := by
    intro r47 rd Jr ir hCr hFr hkr
    have done : ∀ (f st : Nat) (fl : Int) (J : Nat → Nat → Int), Fr [v, v + 1, v + 2, v + 3, v + 4, v + 5] J0 J → (∀ j, j ≠ 3 → j ≠ 4 → J v j = J0 v j) → (∀ i, CB u v g N F b i J → EX v g N F b i J 80 → ((i = 24 * st ∧ st ≤ Sn (bfi g N F b i) ∧ ∀ t, st ≤ t → t < Sn (bfi g N F b i) → J (v + 4) t = 1) ∨ (24 * Sn (bfi g N F b i) ≤ i ∧ i ≤ 1920)) → Sn (bfi g N F b i) ≤ st) → st ≤ 80 → ((Sb (FIN g N F b) = true ∧ J v 3 = 1 ∧ J v 4 = 80) ∨ ∃ i, CB u v g N F b i J ∧ EX v g N F b i J 80 ∧ ((i = 24 * st ∧ st ≤ Sn (bfi g N F b i) ∧ ∀ t, st ≤ t → t < Sn (bfi g N F b i) → J (v + 4) t = 1) ∨ (24 * Sn (bfi g N F b i) ≤ i ∧ i ≤ 1920)) ∧ psi v Jr (Sn (bfi g N F b ir)) ≤ psi v J (Sn (bfi g N F b i)) ∧ (∀ t, t < st → t < Sn (bfi g N F b i) → J (v + 4) t = 1 → psi v Jr (Sn (bfi g N F b ir)) < psi v J (Sn (bfi g N F b i))) ∧
          ((fl = 0 ∧ J = Jr ∧ i = ir ∧ ∀ t, t < st → t < Sn (bfi g N F b i) → J (v + 4) t = 0) ∨ (fl = 1 ∧ ∃ t, t < Sn (bfi g N F b ir) ∧ Jr (v + 4) t = 1))) →
        ((Sb (FIN g N F b) = true ∧ J v 3 = 1 ∧ J v 4 = 80) ∨ ∃ i, CB u v g N F b i J ∧ EX v g N F b i J 80 ∧ 24 * Sn (bfi g N F b i) ≤ i ∧ i ≤ 1920 ∧ psi v Jr (Sn (bfi g N F b ir)) ≤ psi v J (Sn (bfi g N F b i)) ∧ (∀ t, t < Sn (bfi g N F b i) → J (v + 4) t = 1 → psi v Jr (Sn (bfi g N F b ir)) < psi v J (Sn (bfi g N F b i))) ∧
          ((fl = 0 ∧ J = Jr ∧ i = ir ∧ ∀ t, t < Sn (bfi g N F b i) → J (v + 4) t = 0) ∨ (fl = 1 ∧ ∃ t, t < Sn (bfi g N F b ir) ∧ Jr (v + 4) t = 1))) := by
      intro f st fl J _ _ hst h80 hc
      rcases hc with c | ⟨i, a1, a2, a3, a4, a5, a6⟩
      · exact Or.inl c
      · have hl := hst i a1 a2 a3
        right
        refine ⟨i, a1, a2, by omega, by omega, a4, fun t ht q => a5 t (by omega) ht q, ?_⟩
        rcases a6 with ⟨y1, y2, y3, y4⟩ | y
        · exact Or.inl ⟨y1, y2, y3, fun t ht => y4 t (by omega) ht⟩
        · exact Or.inr y
    refine zlp ?_ ?_
    · rintro f st ⟨fl, J⟩ hst ⟨f2, k2, hfl, hc⟩
      dsimp only at f2 k2 hfl hc ⊢
      have ek : (st : Int) + 1 = ((st + 1 : Nat) : Int) := by omega
      have er : (rd : Int) + 1 = ((rd + 1 : Nat) : Int) := by omega
      rcases hc with ⟨y1, y2, y3⟩ | ⟨i, a1, a2, a3, a4, a5, a6⟩
      · left
        refine ⟨fl, J, ?_, f2, k2, hfl, Or.inl ⟨y1, y2, y3⟩⟩
        simp (disch := omega) only [l_X0_build_68, b_X0_build_68, b_X0_build_123, ↓dhi_A hv, ↓dhG_A_0 hv, ↓dhg_A_1 hv, ↓dhq_A_1 hv, ↓dhg_A_2 hv, ↓dhq_A_2 hv, ↓dhg_A_3 hv, ↓dhq_A_3 hv, ↓dhg_A_4 hv, ↓dhq_A_4 hv, ↓dhG_A_5 hv, ↓dhG_A_6 hv, ↓dhG_A_7 hv, ↓dhG_A_8 hv, ↓dhG_A_9 hv, ↓dha_A_1 hv, ↓dhs_A_1 hv, ↓dhl_A_1 hv, ↓dha_A_2 hv, ↓dhs_A_2 hv, ↓dhl_A_2 hv, ↓dha_A_3 hv, ↓dhs_A_3 hv, ↓dhl_A_3 hv, ↓dha_A_4 hv, ↓dhs_A_4 hv, ↓dhl_A_4 hv, ↓dha_A_5 hv, ↓dhs_A_5 hv, ↓dhl_A_5 hv, Option.bind_some, ↓nm_eq, ↓sm_inl, ↓sm_inr, ↓dzo_0, ↓dzo_1, ↓drg_ok, ↓if_pos, ↓if_neg, if_pos, if_neg, if_true, if_false, Int.toNat_natCast, rg_ok, y2, y3, er]
      · have h3 : J v 3 = 0 := a1.2.2.1
        have h4 : J v 4 = (Sn (bfi g N F b i) : Int) := a1.2.2.2.1
        have hn80 := (PB_bfi (N := N) (F := F) (b := b) hg i).2.1
        by_cases c : st < Sn (bfi g N F b i)
        · right
          rcases a1.2.2.2.2.2.2.2.1 st c with hw | hw
          · -- it doesn't wait
            have hlater : 24 * Sn (bfi g N F b i) ≤ i ∧ i ≤ 1920 := by
              rcases a3 with ⟨-, -, z⟩ | z
              · have := z st (Nat.le_refl _) c; rw [hw] at this; exact absurd this (by decide)
              · exact z
            refine ⟨(fl, J), ?_, f2, k2, hfl, Or.inr ⟨i, a1, a2, Or.inr hlater, a4, fun t h1 h2 q => ?_, ?_⟩⟩
            · simp (disch := omega) only [l_X0_build_68, b_X0_build_68, b_X0_build_117, ↓dhi_A hv, ↓dhG_A_0 hv, ↓dhg_A_1 hv, ↓dhq_A_1 hv, ↓dhg_A_2 hv, ↓dhq_A_2 hv, ↓dhg_A_3 hv, ↓dhq_A_3 hv, ↓dhg_A_4 hv, ↓dhq_A_4 hv, ↓dhG_A_5 hv, ↓dhG_A_6 hv, ↓dhG_A_7 hv, ↓dhG_A_8 hv, ↓dhG_A_9 hv, ↓dha_A_1 hv, ↓dhs_A_1 hv, ↓dhl_A_1 hv, ↓dha_A_2 hv, ↓dhs_A_2 hv, ↓dhl_A_2 hv, ↓dha_A_3 hv, ↓dhs_A_3 hv, ↓dhl_A_3 hv, ↓dha_A_4 hv, ↓dhs_A_4 hv, ↓dhl_A_4 hv, ↓dha_A_5 hv, ↓dhs_A_5 hv, ↓dhl_A_5 hv, Option.bind_some, ↓nm_eq, ↓sm_inl, ↓sm_inr, ↓dzo_0, ↓dzo_1, ↓drg_ok, ↓if_pos, ↓if_neg, if_pos, if_neg, if_true, if_false, Int.toNat_natCast, rg_ok, h4, h3, hw, ek]
            · dsimp only at q ⊢
              by_cases e : t = st
              · rw [e, hw] at q; exact absurd q (by decide)
              · exact a5 t (by omega) h2 q
            · rcases a6 with ⟨y1, y2, y3, y4⟩ | y
              · refine Or.inl ⟨y1, y2, y3, fun t h1 h2 => ?_⟩
                by_cases e : t = st
                · rw [e]; exact hw
                · exact y4 t (by omega) h2
              · exact Or.inr y
          · obtain ⟨J2, J3, e2, e3, f3, k3, c3⟩ := X0_visit (u := u) (L := L) hn hv a1 a2 c hw (by rcases a3 with z | z <;> omega) (fun hi0 t h1 h2 => by
              rcases a3 with ⟨-, -, z⟩ | ⟨z, -⟩
              · exact z t (by omega) h2
              · omega)
            have hrw : ∃ t, t < Sn (bfi g N F b ir) ∧ Jr (v + 4) t = 1 := by
              rcases a6 with ⟨y1, y2, y3, y4⟩ | ⟨-, y⟩
              · rw [← y3, ← y2]; exact ⟨st, c, hw⟩
              · exact y
            refine ⟨(1, J3), ?_, f2.tr f3, fun j j1 j2 => (k3 j j1 j2).trans (k2 j j1 j2), Or.inr rfl, ?_⟩
            · simp (disch := omega) only [l_X0_build_68, b_X0_build_68, b_X0_build_117, ↓dhi_A hv, ↓dhG_A_0 hv, ↓dhg_A_1 hv, ↓dhq_A_1 hv, ↓dhg_A_2 hv, ↓dhq_A_2 hv, ↓dhg_A_3 hv, ↓dhq_A_3 hv, ↓dhg_A_4 hv, ↓dhq_A_4 hv, ↓dhG_A_5 hv, ↓dhG_A_6 hv, ↓dhG_A_7 hv, ↓dhG_A_8 hv, ↓dhG_A_9 hv, ↓dha_A_1 hv, ↓dhs_A_1 hv, ↓dhl_A_1 hv, ↓dha_A_2 hv, ↓dhs_A_2 hv, ↓dhl_A_2 hv, ↓dha_A_3 hv, ↓dhs_A_3 hv, ↓dhl_A_3 hv, ↓dha_A_4 hv, ↓dhs_A_4 hv, ↓dhl_A_4 hv, ↓dha_A_5 hv, ↓dhs_A_5 hv, ↓dhl_A_5 hv, Option.bind_some, ↓nm_eq, ↓sm_inl, ↓sm_inr, ↓dzo_0, ↓dzo_1, ↓drg_ok, ↓if_pos, ↓if_neg, if_pos, if_neg, if_true, if_false, Int.toNat_natCast, rg_ok, ↓bnd e2, ↓bnd e3, h4, h3, hw, ek]
            · dsimp only
              rcases c3 with z | ⟨i', z1, z2, z3, z4, z5, z6, z7⟩
              · exact Or.inl z
              · right
                refine ⟨i', z2, z3, ?_, by omega, fun t h1 h2 q => ?_, Or.inr ⟨rfl, hrw⟩⟩
                · rcases a3 with ⟨y1, y2, y3⟩ | ⟨y1, y2⟩
                  · left
                    have : i' = 24 * (st + 1) := by omega
                    exact ⟨this, by omega, fun t h1 h2 => z4 y1 t (by omega) h2⟩
                  · right
                    have e : i' = i := by omega
                    rw [e]; exact ⟨y1, y2⟩
                · rcases z7 t h2 q with ⟨w1, w2, w3⟩ | w
                  · have := a5 t (by omega) w1 w3; omega
                  · omega
        · left
          refine ⟨fl, J, ?_, f2, k2, hfl, done f st fl J f2 k2 (fun i' b1 b2 b3 => ?_) (by omega) (Or.inr ⟨i, a1, a2, a3, a4, a5, a6⟩)⟩
          · simp (disch := omega) only [l_X0_build_68, b_X0_build_68, b_X0_build_123, ↓dhi_A hv, ↓dhG_A_0 hv, ↓dhg_A_1 hv, ↓dhq_A_1 hv, ↓dhg_A_2 hv, ↓dhq_A_2 hv, ↓dhg_A_3 hv, ↓dhq_A_3 hv, ↓dhg_A_4 hv, ↓dhq_A_4 hv, ↓dhG_A_5 hv, ↓dhG_A_6 hv, ↓dhG_A_7 hv, ↓dhG_A_8 hv, ↓dhG_A_9 hv, ↓dha_A_1 hv, ↓dhs_A_1 hv, ↓dhl_A_1 hv, ↓dha_A_2 hv, ↓dhs_A_2 hv, ↓dhl_A_2 hv, ↓dha_A_3 hv, ↓dhs_A_3 hv, ↓dhl_A_3 hv, ↓dha_A_4 hv, ↓dhs_A_4 hv, ↓dhl_A_4 hv, ↓dha_A_5 hv, ↓dhs_A_5 hv, ↓dhl_A_5 hv, Option.bind_some, ↓nm_eq, ↓sm_inl, ↓sm_inr, ↓dzo_0, ↓dzo_1, ↓drg_ok, ↓if_pos, ↓if_neg, if_pos, if_neg, if_true, if_false, Int.toNat_natCast, rg_ok, h4, er]
          · have := b1.2.2.2.1
            rw [h4] at this; omega
    · rintro f ⟨fl, J⟩ ⟨f2, k2, hfl, hc⟩
      dsimp only at f2 k2 hfl hc ⊢
      have er : (rd : Int) + 1 = ((rd + 1 : Nat) : Int) := by omega
      refine ⟨fl, J, ?_, f2, k2, hfl, done f 80 fl J f2 k2 (fun i' b1 b2 b3 => (PB_bfi (N := N) (F := F) (b := b) hg i').2.1) (by omega) hc⟩
      have h4 : 0 ≤ J v 4 ∧ J v 4 ≤ 80 := by
        rcases hc with ⟨-, -, z⟩ | ⟨i, a1, -⟩
        · omega
        · have := a1.2.2.2.1
          have := (PB_bfi (N := N) (F := F) (b := b) hg i).2.1
          omega
      simp (disch := omega) only [l_X0_build_68, b_X0_build_68, b_X0_build_123, ↓dhi_A hv, ↓dhG_A_0 hv, ↓dhg_A_1 hv, ↓dhq_A_1 hv, ↓dhg_A_2 hv, ↓dhq_A_2 hv, ↓dhg_A_3 hv, ↓dhq_A_3 hv, ↓dhg_A_4 hv, ↓dhq_A_4 hv, ↓dhG_A_5 hv, ↓dhG_A_6 hv, ↓dhG_A_7 hv, ↓dhG_A_8 hv, ↓dhG_A_9 hv, ↓dha_A_1 hv, ↓dhs_A_1 hv, ↓dhl_A_1 hv, ↓dha_A_2 hv, ↓dhs_A_2 hv, ↓dhl_A_2 hv, ↓dha_A_3 hv, ↓dhs_A_3 hv, ↓dhl_A_3 hv, ↓dha_A_4 hv, ↓dhs_A_4 hv, ↓dhl_A_4 hv, ↓dha_A_5 hv, ↓dhs_A_5 hv, ↓dhl_A_5 hv, Option.bind_some, ↓nm_eq, ↓sm_inl, ↓sm_inr, ↓dzo_0, ↓dzo_1, ↓drg_ok, ↓if_pos, ↓if_neg, if_pos, if_neg, if_true, if_false, Int.toNat_natCast, rg_ok, er]
  -- the end
  have fin : ∀ (J : Nat → Nat → Int) (i : Nat), CB u v g N F b i J → EX v g N F b i J 80 → 24 * Sn (bfi g N F b i) ≤ i → i ≤ 1920 → (∀ t, t < Sn (bfi g N F b i) → J (v + 4) t = 0) → CAU u v g N F b (gx_u J v 2 1) := by
    intro J i hC hX h1 h2 h3
    have hF : FIN g N F b = bfi g N F b i := (bfi_ext (g := g) (N := N) (F := F) (b := b) i 1920 h2).2.2.2 (Or.inr (by omega))
    obtain ⟨-, b1, b2, b3, b4, b5, b6, b7, b8⟩ := hC
    have hP := PB_bfi (N := N) (F := F) (b := b) hg i
    have hgv : ∀ a, a ≠ v → gx_u J v 2 1 a = J a := fun a ha => gu_ne ha
    right
    rw [hF]
    refine ⟨b4, by rw [gu_at_ne (by decide)]; exact b2, by rw [gu_at_ne (by decide)]; exact b3, fun t ht => ?_, by rw [hgv (v + 2) (by omega)]; exact b8⟩
    refine ⟨VR_fr (fun p k _ => by rw [hgv (v + 1) (by omega)]) (b5 t ht).1, fun x hx hvi => by rw [hgv (v + 1) (by omega)]; exact (b5 t ht).2.1 x hx hvi, ?_⟩
    rw [SR_fr (J := J) (fun p k _ => by rw [hgv (v + 1) (by omega)])]
    cases hb : b with
    | false => subst hb; exact (hX.1 rfl t ht).2 (h3 t ht)
    | true =>
      subst hb
      show SR g (v + 1) (ac t) J = LBm g N F (bfi g N F true i) t
      obtain ⟨x1, x2, x3, x4⟩ := hX.2 rfl
      have hF0 : Sb (FIN g N F true) = false := by rw [hF]; exact b4
      funext p k y
      apply propext
      refine ⟨fun z => by have := x3 hF0 t ht p k y z; rw [hF] at this; exact this, fun z => ?_⟩
      have hcl : cLB g N F (bfi g N F true i) (fun t => if t < Sn (bfi g N F true i) then SR g (v + 1) (ac t) J else fun _ _ _ => True) := by
        refine ⟨?_, fun s hs => ?_, fun s x tt hs hx hm => ?_⟩ <;> dsimp only
        · rw [if_pos (by omega)]
          exact ⟨x1, ((b5 0 (by omega)).2.2 24 0 9 (Or.inr rfl) (fun _ => rfl)).mpr (by rw [hP.2.2.1]; exact ⟨rfl, rfl, Or.inl rfl⟩)⟩
        · rw [if_pos hs]
          exact (x4 s hs (by omega) (h3 s hs)).1
        · rw [if_pos hs]
          have := (x4 s hs (by omega) (h3 s hs)).2 x tt hx hm
          split
          · exact this
          · exact fun _ _ _ _ => trivial
      have := z _ hcl
      rw [if_pos ht] at this
      exact this
  have hi1 : Sn (bfi g N F b 0) = 1 := rfl
  -- all turns
  have key : zWL (fun f (s1 : Int × Nat × (Nat → Nat → Int)) => l_X0_build_47 n f v s1.1 (s1.2.1 : Int) (hp u s1.2.2 L)) (fun s1 => if s1.2.2 v 3 = 1 then 0 else 3 * (384001 - psi v s1.2.2 (s1.2.2 v 4).toNat) + (if s1.1 = 0 then 1 else zif (∀ t, t < (s1.2.2 v 4).toNat → s1.2.2 (v + 4) t = 0) 2 3))
      (fun s1 => Fr [v, v + 1, v + 2, v + 3, v + 4, v + 5] J0 s1.2.2 ∧ (∀ j, j ≠ 3 → j ≠ 4 → s1.2.2 v j = J0 v j) ∧ s1.2.1 ≤ 384002 ∧ (s1.1 = 0 ∨ s1.1 = 1) ∧ ((Sb (FIN g N F b) = true ∧ s1.2.2 v 3 = 1 ∧ s1.2.2 v 4 = 80) ∨ ∃ i, CB u v g N F b i s1.2.2 ∧ EX v g N F b i s1.2.2 80 ∧ ((i = 0 ∧ s1.2.2 (v + 4) 0 = 1 ∧ s1.1 = 1) ∨ (24 * Sn (bfi g N F b i) ≤ i ∧ i ≤ 1920)) ∧ ((s1.1 = 1 ∧ s1.2.1 ≤ psi v s1.2.2 (Sn (bfi g N F b i))) ∨ ((∀ t, t < Sn (bfi g N F b i) → s1.2.2 (v + 4) t = 0) ∧ (s1.1 = 1 → s1.2.1 ≤ psi v s1.2.2 (Sn (bfi g N F b i)) + 1)))))
      (fun res => ∃ J', res = some (hp u J' L) ∧ Fr [v, v + 1, v + 2, v + 3, v + 4, v + 5] J0 J' ∧ (∀ j, j ≠ 2 → j ≠ 3 → j ≠ 4 → J' v j = J0 v j) ∧ J' v 2 = 1 ∧ CAU u v g N F b J') := by
    refine zwl ?_
    rintro f ⟨fl, rd, J⟩ ⟨f2, k2, hrd, hfl, hc⟩
    dsimp only at f2 k2 hrd hfl hc ⊢
    have fin2 : ∀ J : Nat → Nat → Int, b_X0_build_129 n v (hp u J L) = some (hp u (gx_u J v 2 1) L) := fun J => by simp (disch := omega) only [b_X0_build_129, ↓dhi_A hv, ↓dhG_A_0 hv, ↓dhg_A_1 hv, ↓dhq_A_1 hv, ↓dhg_A_2 hv, ↓dhq_A_2 hv, ↓dhg_A_3 hv, ↓dhq_A_3 hv, ↓dhg_A_4 hv, ↓dhq_A_4 hv, ↓dhG_A_5 hv, ↓dhG_A_6 hv, ↓dhG_A_7 hv, ↓dhG_A_8 hv, ↓dhG_A_9 hv, ↓dha_A_1 hv, ↓dhs_A_1 hv, ↓dhl_A_1 hv, ↓dha_A_2 hv, ↓dhs_A_2 hv, ↓dhl_A_2 hv, ↓dha_A_3 hv, ↓dhs_A_3 hv, ↓dhl_A_3 hv, ↓dha_A_4 hv, ↓dhs_A_4 hv, ↓dhl_A_4 hv, ↓dha_A_5 hv, ↓dhs_A_5 hv, ↓dhl_A_5 hv, Option.bind_some, ↓nm_eq, ↓sm_inl, ↓sm_inr, ↓dzo_0, ↓dzo_1, ↓drg_ok, ↓if_pos, ↓if_neg, if_pos, if_neg, if_true, if_false, Int.toNat_natCast, rg_ok]
    have fk : ∀ j, j ≠ 2 → j ≠ 3 → j ≠ 4 → gx_u J v 2 1 v j = J0 v j := fun j j1 j2 j3 => by rw [gu_at_ne j1]; exact k2 j j2 j3
    rcases hc with ⟨y1, y2, y3⟩ | ⟨i, a1, a2, a3, a4⟩
    · left
      refine ⟨gx_u J v 2 1, ?_, f2.wr (by simp), fk, gu_same _ _ _ _, Or.inl ⟨y1, by rw [gu_at_ne (by decide)]; exact y2⟩⟩
      rw [← fin2]
      rcases hfl with z | z
      · simp (disch := omega) only [l_X0_build_47, b_X0_build_47, ↓dhi_A hv, ↓dhG_A_0 hv, ↓dhg_A_1 hv, ↓dhq_A_1 hv, ↓dhg_A_2 hv, ↓dhq_A_2 hv, ↓dhg_A_3 hv, ↓dhq_A_3 hv, ↓dhg_A_4 hv, ↓dhq_A_4 hv, ↓dhG_A_5 hv, ↓dhG_A_6 hv, ↓dhG_A_7 hv, ↓dhG_A_8 hv, ↓dhG_A_9 hv, ↓dha_A_1 hv, ↓dhs_A_1 hv, ↓dhl_A_1 hv, ↓dha_A_2 hv, ↓dhs_A_2 hv, ↓dhl_A_2 hv, ↓dha_A_3 hv, ↓dhs_A_3 hv, ↓dhl_A_3 hv, ↓dha_A_4 hv, ↓dhs_A_4 hv, ↓dhl_A_4 hv, ↓dha_A_5 hv, ↓dhs_A_5 hv, ↓dhl_A_5 hv, Option.bind_some, ↓nm_eq, ↓sm_inl, ↓sm_inr, ↓dzo_0, ↓dzo_1, ↓drg_ok, ↓if_pos, ↓if_neg, if_pos, if_neg, if_true, if_false, Int.toNat_natCast, rg_ok, z]
      · simp (disch := omega) only [l_X0_build_47, b_X0_build_47, ↓dhi_A hv, ↓dhG_A_0 hv, ↓dhg_A_1 hv, ↓dhq_A_1 hv, ↓dhg_A_2 hv, ↓dhq_A_2 hv, ↓dhg_A_3 hv, ↓dhq_A_3 hv, ↓dhg_A_4 hv, ↓dhq_A_4 hv, ↓dhG_A_5 hv, ↓dhG_A_6 hv, ↓dhG_A_7 hv, ↓dhG_A_8 hv, ↓dhG_A_9 hv, ↓dha_A_1 hv, ↓dhs_A_1 hv, ↓dhl_A_1 hv, ↓dha_A_2 hv, ↓dhs_A_2 hv, ↓dhl_A_2 hv, ↓dha_A_3 hv, ↓dhs_A_3 hv, ↓dhl_A_3 hv, ↓dha_A_4 hv, ↓dhs_A_4 hv, ↓dhl_A_4 hv, ↓dha_A_5 hv, ↓dhs_A_5 hv, ↓dhl_A_5 hv, Option.bind_some, ↓nm_eq, ↓sm_inl, ↓sm_inr, ↓dzo_0, ↓dzo_1, ↓drg_ok, ↓if_pos, ↓if_neg, if_pos, if_neg, if_true, if_false, Int.toNat_natCast, rg_ok, z, y2]
    · have h3 : J v 3 = 0 := a1.2.2.1
      have h4 : (J v 4).toNat = Sn (bfi g N F b i) := by rw [a1.2.2.2.1]; rfl
      have hp1 := psi_le (v := v) (k := Sn (bfi g N F b i)) (J := J)
      by_cases c0 : fl = 0
      · left
        have hz : ∀ t, t < Sn (bfi g N F b i) → J (v + 4) t = 0 := by
          rcases a4 with ⟨z, -⟩ | ⟨z, -⟩
          · omega
          · exact z
        refine ⟨gx_u J v 2 1, ?_, f2.wr (by simp), fk, gu_same _ _ _ _, fin J i a1 a2 (by rcases a3 with ⟨-, -, z⟩ | ⟨z, -⟩ <;> omega) (by rcases a3 with ⟨-, -, z⟩ | ⟨-, z⟩ <;> omega) hz⟩
        rw [← fin2]
        simp (disch := omega) only [l_X0_build_47, b_X0_build_47, ↓dhi_A hv, ↓dhG_A_0 hv, ↓dhg_A_1 hv, ↓dhq_A_1 hv, ↓dhg_A_2 hv, ↓dhq_A_2 hv, ↓dhg_A_3 hv, ↓dhq_A_3 hv, ↓dhg_A_4 hv, ↓dhq_A_4 hv, ↓dhG_A_5 hv, ↓dhG_A_6 hv, ↓dhG_A_7 hv, ↓dhG_A_8 hv, ↓dhG_A_9 hv, ↓dha_A_1 hv, ↓dhs_A_1 hv, ↓dhl_A_1 hv, ↓dha_A_2 hv, ↓dhs_A_2 hv, ↓dhl_A_2 hv, ↓dha_A_3 hv, ↓dhs_A_3 hv, ↓dhl_A_3 hv, ↓dha_A_4 hv, ↓dhs_A_4 hv, ↓dhl_A_4 hv, ↓dha_A_5 hv, ↓dhs_A_5 hv, ↓dhl_A_5 hv, Option.bind_some, ↓nm_eq, ↓sm_inl, ↓sm_inr, ↓dzo_0, ↓dzo_1, ↓drg_ok, ↓if_pos, ↓if_neg, if_pos, if_neg, if_true, if_false, Int.toNat_natCast, rg_ok, c0]
      · right
        have c1 : fl = 1 := hfl.elim (fun z => absurd z c0) id
        have hrd2 : rd ≤ psi v J (Sn (bfi g N F b i)) + 1 := by
          rcases a4 with ⟨-, z⟩ | ⟨-, z⟩
          · omega
          · exact z c1
        obtain ⟨fl', J', e, g1, g2, gf, g3⟩ := turn (l_X0_build_47 n f) rd J i a1 f2 k2 80 n 0 (0, J) (by omega) (by omega) ⟨f2, k2, Or.inl rfl, Or.inr ⟨i, a1, a2, by
          rcases a3 with ⟨z1, z2, -⟩ | z
          · left
            refine ⟨z1, Nat.zero_le _, fun t _ ht => ?_⟩
            rw [z1, hi1] at ht
            have : t = 0 := by omega
            rw [this]; exact z2
          · exact Or.inr z, Nat.le_refl _, fun t ht => absurd ht (by omega), Or.inl ⟨rfl, rfl, rfl, fun t ht => absurd ht (by omega)⟩⟩⟩
        have e' : l_X0_build_68 n (l_X0_build_47 n f) n v 0 (rd : Int) 0 (hp u J L) = l_X0_build_47 n f v fl' ((rd + 1 : Nat) : Int) (hp u J' L) := e
        -- what the turn has brought
        have hout : (Sb (FIN g N F b) = true ∧ J' v 3 = 1 ∧ J' v 4 = 80) ∨ ∃ i', CB u v g N F b i' J' ∧ EX v g N F b i' J' 80 ∧ 24 * Sn (bfi g N F b i') ≤ i' ∧ i' ≤ 1920 ∧ psi v J (Sn (bfi g N F b i)) ≤ psi v J' (Sn (bfi g N F b i')) ∧
            ((fl' = 0 ∧ (∀ t, t < Sn (bfi g N F b i') → J' (v + 4) t = 0)) ∨ (fl' = 1 ∧ (¬ ∀ t, t < Sn (bfi g N F b i) → J (v + 4) t = 0) ∧ rd ≤ psi v J (Sn (bfi g N F b i)) ∧ ((∀ t, t < Sn (bfi g N F b i') → J' (v + 4) t = 0) ∨ ((¬ ∀ t, t < Sn (bfi g N F b i') → J' (v + 4) t = 0) ∧ psi v J (Sn (bfi g N F b i)) < psi v J' (Sn (bfi g N F b i')))))) := by
          rcases g3 with z | ⟨i', b1, b2, b3, b4, b5, b6, b7⟩
          · exact Or.inl z
          · right
            refine ⟨i', b1, b2, b3, b4, b5, ?_⟩
            rcases b7 with ⟨z1, -, -, z2⟩ | ⟨z1, t, z2, z3⟩
            · exact Or.inl ⟨z1, z2⟩
            · right
              have hnw : ¬ ∀ t, t < Sn (bfi g N F b i) → J (v + 4) t = 0 := fun q => by have := q t z2; omega
              refine ⟨z1, hnw, ?_, ?_⟩
              · rcases a4 with ⟨-, w⟩ | ⟨w, -⟩
                · exact w
                · exact absurd w hnw
              · by_cases hw : ∀ t, t < Sn (bfi g N F b i') → J' (v + 4) t = 0
                · exact Or.inl hw
                · right
                  refine ⟨hw, ?_⟩
                  apply Classical.byContradiction
                  intro q
                  apply hw
                  intro t ht
                  exact (b1.2.2.2.2.2.2.2.1 t ht).elim id (fun z => absurd (b6 t ht z) q)
        refine ⟨(fl', rd + 1, J'), ?_, ⟨g1, g2, by dsimp only; omega, gf, ?_⟩, ?_⟩
        · dsimp only
          rw [← e']
          simp (disch := omega) only [l_X0_build_47, b_X0_build_47, ↓dhi_A hv, ↓dhG_A_0 hv, ↓dhg_A_1 hv, ↓dhq_A_1 hv, ↓dhg_A_2 hv, ↓dhq_A_2 hv, ↓dhg_A_3 hv, ↓dhq_A_3 hv, ↓dhg_A_4 hv, ↓dhq_A_4 hv, ↓dhG_A_5 hv, ↓dhG_A_6 hv, ↓dhG_A_7 hv, ↓dhG_A_8 hv, ↓dhG_A_9 hv, ↓dha_A_1 hv, ↓dhs_A_1 hv, ↓dhl_A_1 hv, ↓dha_A_2 hv, ↓dhs_A_2 hv, ↓dhl_A_2 hv, ↓dha_A_3 hv, ↓dhs_A_3 hv, ↓dhl_A_3 hv, ↓dha_A_4 hv, ↓dhs_A_4 hv, ↓dhl_A_4 hv, ↓dha_A_5 hv, ↓dhs_A_5 hv, ↓dhl_A_5 hv, Option.bind_some, ↓nm_eq, ↓sm_inl, ↓sm_inr, ↓dzo_0, ↓dzo_1, ↓drg_ok, ↓if_pos, ↓if_neg, if_pos, if_neg, if_true, if_false, Int.toNat_natCast, rg_ok, c1, h3]
        · dsimp only
          rcases hout with z | ⟨i', b1, b2, b3, b4, b5, b6⟩
          · exact Or.inl z
          · right
            refine ⟨i', b1, b2, Or.inr ⟨b3, b4⟩, ?_⟩
            rcases b6 with ⟨z1, z2⟩ | ⟨z1, z2, z3, z4 | ⟨-, z4⟩⟩
            · exact Or.inr ⟨z2, fun w => by rw [z1] at w; exact absurd w (by decide)⟩
            · exact Or.inr ⟨z4, fun _ => by omega⟩
            · exact Or.inl ⟨z1, by omega⟩
        · dsimp only
          rw [if_neg (show ¬ J v 3 = 1 by omega), h4, if_neg c0]
          rcases hout with ⟨-, z, -⟩ | ⟨i', b1, b2, b3, b4, b5, b6⟩
          · rw [if_pos z]
            by_cases q : ∀ t, t < Sn (bfi g N F b i) → J (v + 4) t = 0
            · rw [zif_p q]; omega
            · rw [zif_n q]; omega
          · have h3' : J' v 3 = 0 := b1.2.2.1
            have h4' : (J' v 4).toNat = Sn (bfi g N F b i') := by rw [b1.2.2.2.1]; rfl
            have hp2 := psi_le (v := v) (k := Sn (bfi g N F b i')) (J := J')
            rw [if_neg (show ¬ J' v 3 = 1 by omega), h4']
            rcases b6 with ⟨z1, z2⟩ | ⟨z1, z2, z3, z4 | ⟨z5, z4⟩⟩
            · rw [if_pos z1]
              by_cases q : ∀ t, t < Sn (bfi g N F b i) → J (v + 4) t = 0
              · rw [zif_p q]; omega
              · rw [zif_n q]; omega
            · rw [if_neg (by omega), zif_p z4, zif_n z2]; omega
            · rw [if_neg (by omega), zif_n z5, zif_n z2]; omega
  obtain ⟨J', e, q1, q2, q3, q4⟩ := key (3 * 384001 + 3) n (1, 0, J1) (by
    dsimp only
    split
    · omega
    · rw [if_neg (by decide)]
      by_cases q : ∀ t, t < (J1 v 4).toNat → J1 (v + 4) t = 0
      · rw [zif_p q]; omega
      · rw [zif_n q]; omega) (by omega) ⟨f1, k1, by dsimp only; omega, Or.inr rfl, Or.inr ⟨0, c1, x1, Or.inl ⟨rfl, w1, rfl⟩, Or.inl ⟨rfl, Nat.zero_le _⟩⟩⟩
  exact ⟨J', e1.trans e, q1, q2, q3, q4⟩
end CI_
