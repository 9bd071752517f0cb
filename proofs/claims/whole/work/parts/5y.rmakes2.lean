/-! ===== the reference: makes ===== -/
section RQ_
variable {u : Nat} {n : Nat} {L : Nat → Nat → Int} {g : GT} {N : Nat → Prop} {F : Nat → Nat → Prop} {b : Bool}
theorem ROK_cl {R C : AS} (h : ROK b R C) {x : Nat} : ROK b (CL g N F (adv false g R x)) (CL g N F (adv b g C x)) := by
  refine ⟨fun hb => ?_, fun hb p k => ⟨fun z => CL_9 (fun p k w => (advR h).mpr ⟨fun _ => rfl, w⟩) z, fun z => CL_9 (fun p k w => ((advR h).mp w).2) z⟩⟩
  have : adv false g R x = adv b g C x := by
    funext p k y
    exact propext ⟨fun z => (advR h).mpr ⟨fun w => by rw [hb] at w; exact absurd w (by decide), z⟩, fun z => ((advR h).mp z).2⟩
  rw [this]
def fA (b : Bool) : List Nat := [mA b, mG b, 182]
theorem fA_n (b : Bool) : (161 ∉ fA b ∧ 162 ∉ fA b ∧ 163 ∉ fA b ∧ 164 ∉ fA b ∧ 165 ∉ fA b ∧ 170 ∉ fA b ∧ 176 ∉ fA b ∧ 181 ∉ fA b) := by cases b <;> decide
theorem fA_fr {J J' : Nat → Nat → Int} (w : RX g N F J) (hu : NU g J) (f : Fr (fA b) J J') : RX g N F J' ∧ NU g J' := by
  obtain ⟨q1, q2, q3, q4, q5, q6, q7, q8⟩ := fA_n b
  have e := f 161 q1
  exact ⟨w.fr f ⟨by rw [e], by rw [e]⟩ ⟨⟨q2, q3, q4, q5, q6⟩, q7⟩, hu.fr (f 181 q8) (by rw [e])⟩
theorem mAG (b : Bool) : mA b ≠ mG b ∧ mA b ≠ 182 ∧ mG b ≠ 182 := by cases b <;> decide
/-- a step from a state over a symbol -/
theorem X12_mk (hn : 1000000000000000000000000000000 ≤ n) {J0 : Nat → Nat → Int} (w : RX g N F J0) (hu : NU g J0) {s x : Nat} (hx : x < 24) (h : RBI g N F b (24 * s + x) J0) (hs : s < Sn (bfi g N F b (24 * s + x))) (r55 : Nat → Nat → Nat → Int → Int → Int → gi_H → Option (Int × gi_H)) (f : Nat) :
    (Sb (FIN g N F b) = true ∧ ∃ J', l_X12_makes_65 n r55 (f + 1) 161 (mA b) (mG b) (if b then 1 else 0) (Sn (bfi g N F b (24 * s + x)) : Int) (s : Int) (x : Int) (hp u J0 L) = some (-2, hp u J' L) ∧ Fr (fA b) J0 J') ∨
    ∃ J', l_X12_makes_65 n r55 (f + 1) 161 (mA b) (mG b) (if b then 1 else 0) (Sn (bfi g N F b (24 * s + x)) : Int) (s : Int) (x : Int) (hp u J0 L) = l_X12_makes_65 n r55 f 161 (mA b) (mG b) (if b then 1 else 0) (Sn (bfi g N F b (24 * s + (x + 1))) : Int) (s : Int) ((x + 1 : Nat) : Int) (hp u J' L) ∧ Fr (fA b) J0 J' ∧ RBI g N F b (24 * s + (x + 1)) J' := by
  have hg := w.1.gr
  have h24 := hg.1
  have hPB := PB_bfi (N := N) (F := F) (b := b) hg (24 * s + x)
  obtain ⟨p1, p2, p3, p4, p5, p6, p7, p8⟩ := hPB
  obtain ⟨hSb, hrow, hmin, hgo⟩ := h
  have hs80 : s < 80 := by omega
  have hAo := mA_or b
  obtain ⟨n1, n2, n3⟩ := mAG b
  have e24 : (24 * (s : Int) + (x : Int)).toNat = 24 * s + x := by omega
  have e146 : 146 * (s : Int) = ((146 * s : Nat) : Int) := by omega
  have ek : (x : Int) + 1 = ((x + 1 : Nat) : Int) := by omega
  have ei1 : 24 * s + (x + 1) = 24 * s + x + 1 := by omega
  have hbs := bfi_step (g := g) (N := N) (F := F) (b := b) hSb hs hx rfl
  have hext := bfi_ext (g := g) (N := N) (F := F) (b := b) (24 * s + x) (24 * s + x + 1) (Nat.le_succ _)
  have hFx := fin_ext (g := g) (N := N) (F := F) (b := b) (show 24 * s + x + 1 ≤ 1920 by omega)
  -- no way first
  have s0 := rg0 (u := u) (L := L) b (J := J0) (i := 24 * (s : Int) + (x : Int)) (x := -1) (by omega) (by omega)
  rw [e24] at s0
  have hg0 : ∃ J1, J1 = gx_u J0 (mG b) (24 * s + x) (-1) := ⟨_, rfl⟩
  obtain ⟨J1, hJ1⟩ := hg0
  rw [← hJ1] at s0
  have f1 : Fr (fA b) J0 J1 := by rw [hJ1]; exact Fr.rf.wr (by simp [fA])
  have j1 : ∀ a, a ≠ mG b → J1 a = J0 a := fun a ha => by rw [hJ1, gu_ne ha]
  obtain ⟨w1, u1⟩ := fA_fr w hu f1
  have hS1 : ∀ t, SR g (mA b) (ar g (146 * t)) J1 = SR g (mA b) (ar g (146 * t)) J0 := fun t => SR_fr (fun p k _ => by rw [j1 _ n1])
  have hV1 : ∀ t, t < Sn (bfi g N F b (24 * s + x)) → VR g (mA b) (ar g (146 * t)) J1 := fun t ht => VR_fr (fun p k _ => by rw [j1 _ n1]) (hrow t ht).1
  obtain ⟨r, J2, e2, f2, V2, S2, hr⟩ := X12_steps (u := u) (L := L) hn hAo w1 u1 (o := 146 * s) (by omega) hx (hV1 s hs)
  rw [hS1] at S2 hr
  have j2 : ∀ a, a ≠ 182 → J2 a = J1 a := fun a ha => f2 a (by simpa using ha)
  have f2' : Fr (fA b) J0 J2 := f1.tr (f2.up (by simp [fA]))
  obtain ⟨w2, u2⟩ := fA_fr w hu f2'
  have hROK := (hrow s hs).2
  have hcond : ∀ t, t < Sn (bfi g N F b (24 * s + x)) → ∀ p k y, SK (bfi g N F b (24 * s + x)) t p k y → (1 ≤ k ∨ (p = 24 ∧ k = 0)) ∧ (b = true → y = 9) := fun t ht p k y q => by
    by_cases e : t = 0
    · rw [e, p3] at q
      refine ⟨Or.inr ⟨q.1, q.2.1⟩, fun hb => ?_⟩
      rcases q.2.2 with z | z
      · exact z
      · rw [hb] at z; exact absurd z.2 (by decide)
    · obtain ⟨s', x', -, -, -, q4⟩ := p5 t (by omega) ht
      rw [q4] at q
      obtain ⟨q0, k', q1, -⟩ := q
      exact ⟨Or.inl (by omega), q0⟩
  have hAc : ∀ p k y, adv b g (CL g N F (SK (bfi g N F b (24 * s + x)) s)) x p k y → 1 ≤ k ∧ (b = true → y = 9) := fun p k y q => by
    obtain ⟨q0, k', q1, -⟩ := q
    exact ⟨by omega, q0⟩
  rcases hr with ⟨r1, r2⟩ | ⟨r1, r2⟩
  · -- there are items
    obtain ⟨pp, kk, hne⟩ := r2
    have hA9 : ∃ p k, adv b g (CL g N F (SK (bfi g N F b (24 * s + x)) s)) x p k 9 := ⟨pp, kk, (advR hROK).mpr ⟨fun _ => rfl, hne⟩⟩
    have hA182 : hA3 182 146 := Or.inl ⟨rfl, rfl⟩
    obtain ⟨J3, e3, f3, -, V3, S3⟩ := X12_closure (u := u) (L := L) hn hA182 w2 u2 (o := 0) (by omega) (K := adv false g (SR g (mA b) (ar g (146 * s)) J0) x) ⟨V2, by rw [S2]; exact fun _ _ _ z => z, by rw [S2]; exact CL_sub⟩
    have e3' : f_X12_closure n 161 182 0 (hp u J2 L) = some (hp u J3 L) := e3
    have f3' : Fr (fA b) J0 J3 := f2'.tr (f3.up (by simp [fA]))
    obtain ⟨w3, u3⟩ := fA_fr w hu f3'
    have j3 : ∀ a, a ≠ 182 → J3 a = J1 a := fun a ha => by rw [f3 a (by simpa using ha), j2 a ha]
    have j30 : ∀ a, a ≠ 182 → a ≠ mG b → J3 a = J0 a := fun a ha hb => by rw [j3 a ha, j1 a hb]
    have hV3 : ∀ t, t < Sn (bfi g N F b (24 * s + x)) → VR g (mA b) (ar g (146 * t)) J3 := fun t ht => VR_fr (fun p k _ => by rw [j30 _ n2 n1]) (hrow t ht).1
    have hS3 : ∀ t, SR g (mA b) (ar g (146 * t)) J3 = SR g (mA b) (ar g (146 * t)) J0 := fun t => SR_fr (fun p k _ => by rw [j30 _ n2 n1])
    have hROKf : ROK b (SR g 182 (ar g 0) J3) (CL g N F (adv b g (CL g N F (SK (bfi g N F b (24 * s + x)) s)) x)) := by rw [S3]; exact ROK_cl hROK
    have hEQ : ∀ t, t < Sn (bfi g N F b (24 * s + x)) → (EQt b (SR g (mA b) (ar g (146 * t)) J3) (SR g 182 (ar g 0) J3) ↔ SK (bfi g N F b (24 * s + x)) t = adv b g (CL g N F (SK (bfi g N F b (24 * s + x)) s)) x) := fun t ht => EQ_iff hg (hcond t ht) hAc (by rw [hS3]; exact (hrow t ht).2) hROKf
    have head : ∀ (Y : Int), f_X12_findState n 161 (mA b) (Sn (bfi g N F b (24 * s + x)) : Int) (if b then 1 else 0) (hp u J3 L) = some Y → (-1 ≤ Y ∧ Y < 1000) → (Y = -1 → Sn (bfi g N F b (24 * s + x)) ≠ 80) → l_X12_makes_65 n r55 (f + 1) 161 (mA b) (mG b) (if b then 1 else 0) (Sn (bfi g N F b (24 * s + x)) : Int) (s : Int) (x : Int) (hp u J0 L) = b_X12_makes_134 n r55 (l_X12_makes_65 n r55 f) 161 (mA b) (mG b) (if b then 1 else 0) (Sn (bfi g N F b (24 * s + x)) : Int) (s : Int) (x : Int) Y (hp u J3 L) := fun Y hY hYr hY80 => by
      by_cases c : Y = -1
      · have := hY80 c
        simp (disch := omega) only [l_X12_makes_65, b_X12_makes_65, ↓dhi_M, ↓dhG_M_0, ↓dhG_M_1, ↓dhG_M_2, ↓dhG_M_3, ↓dhG_M_4, ↓dhG_M_5, ↓dhG_M_6, ↓dhG_M_7, ↓dhG_M_8, ↓dhg_M_9, ↓dhq_M_9, ↓dhG_M_10, ↓dhG_M_11, ↓dhG_M_12, ↓dhg_M_13, ↓dhq_M_13, ↓dhG_M_14, ↓dhg_M_15, ↓dhq_M_15, ↓dhG_M_16, ↓dhg_M_17, ↓dhq_M_17, ↓dhg_M_18, ↓dhq_M_18, ↓dhG_M_19, ↓dhG_M_20, ↓dhG_M_21, ↓dhG_M_22, ↓dhG_M_23, ↓dhG_M_24, ↓dhg_M_25, ↓dhq_M_25, ↓dhG_M_26, ↓dhG_M_27, ↓dhG_M_28, ↓dhg_M_29, ↓dhq_M_29, ↓dhG_M_30, ↓dhG_M_31, ↓dhg_M_32, ↓dhq_M_32, ↓dhg_M_33, ↓dhq_M_33, ↓dhg_M_34, ↓dhq_M_34, ↓dhg_M_35, ↓dhq_M_35, ↓dhG_M_36, ↓dhG_M_37, ↓dhg_M_38, ↓dhq_M_38, ↓dhg_M_39, ↓dhq_M_39, ↓dhG_M_40, ↓dhG_M_41, ↓dhG_M_42, ↓dhG_M_43, ↓dhg_M_44, ↓dhq_M_44, Option.bind_some, ↓nm_eq, ↓sm_inl, ↓sm_inr, ↓dzo_0, ↓dzo_1, ↓drg_ok, ↓if_pos, ↓if_neg, if_pos, if_neg, if_true, if_false, Int.toNat_natCast, rg_ok, ↓bnd s0, e146, ↓bnd e2, r1, ↓bnd e3', ↓bnd hY, c]
      · simp (disch := omega) only [l_X12_makes_65, b_X12_makes_65, ↓dhi_M, ↓dhG_M_0, ↓dhG_M_1, ↓dhG_M_2, ↓dhG_M_3, ↓dhG_M_4, ↓dhG_M_5, ↓dhG_M_6, ↓dhG_M_7, ↓dhG_M_8, ↓dhg_M_9, ↓dhq_M_9, ↓dhG_M_10, ↓dhG_M_11, ↓dhG_M_12, ↓dhg_M_13, ↓dhq_M_13, ↓dhG_M_14, ↓dhg_M_15, ↓dhq_M_15, ↓dhG_M_16, ↓dhg_M_17, ↓dhq_M_17, ↓dhg_M_18, ↓dhq_M_18, ↓dhG_M_19, ↓dhG_M_20, ↓dhG_M_21, ↓dhG_M_22, ↓dhG_M_23, ↓dhG_M_24, ↓dhg_M_25, ↓dhq_M_25, ↓dhG_M_26, ↓dhG_M_27, ↓dhG_M_28, ↓dhg_M_29, ↓dhq_M_29, ↓dhG_M_30, ↓dhG_M_31, ↓dhg_M_32, ↓dhq_M_32, ↓dhg_M_33, ↓dhq_M_33, ↓dhg_M_34, ↓dhq_M_34, ↓dhg_M_35, ↓dhq_M_35, ↓dhG_M_36, ↓dhG_M_37, ↓dhg_M_38, ↓dhq_M_38, ↓dhg_M_39, ↓dhq_M_39, ↓dhG_M_40, ↓dhG_M_41, ↓dhG_M_42, ↓dhG_M_43, ↓dhg_M_44, ↓dhq_M_44, Option.bind_some, ↓nm_eq, ↓sm_inl, ↓sm_inr, ↓dzo_0, ↓dzo_1, ↓drg_ok, ↓if_pos, ↓if_neg, if_pos, if_neg, if_true, if_false, Int.toNat_natCast, rg_ok, ↓bnd s0, e146, ↓bnd e2, r1, ↓bnd e3', ↓bnd hY]
    -- the number of the way
    have wgo : ∀ (K : Nat → Nat → Int) (y : Int), gi_s1 (hp u K L) (mG b) (24 * (s : Int) + (x : Int)) y = some (hp u (gx_u K (mG b) (24 * s + x) y) L) := fun K y => by
      have := rg0 (u := u) (L := L) b (J := K) (i := 24 * (s : Int) + (x : Int)) (x := y) (by omega) (by omega)
      rwa [e24] at this
    have e25 := u3.2.2
    have hfr6 := frm_6 hg (Gn g)
    rcases X12_findState (u := u) (L := L) (b := b) hn hAo hg u3 (k := Sn (bfi g N F b (24 * s + x))) p2 hV3 V3 with ⟨t, ht, ef, hq⟩ | ⟨ef, hno⟩
    · -- an old state
      right
      have hKt := (hEQ t ht).mp hq
      have hst : Sn (bfi g N F b (24 * s + x + 1)) = Sn (bfi g N F b (24 * s + x)) ∧ SK (bfi g N F b (24 * s + x + 1)) = SK (bfi g N F b (24 * s + x)) ∧ Sb (bfi g N F b (24 * s + x + 1)) = false ∧ Sm (bfi g N F b (24 * s + x + 1)) = sM (Sm (bfi g N F b (24 * s + x))) s x (t : Int) := by
        rw [hbs]
        rcases bst_c (N := N) (F := F) (b := b) (g := g) (bfi g N F b (24 * s + x)) s x with ⟨c1, -⟩ | ⟨-, ⟨t0, ⟨c2, c3⟩, c4⟩ | ⟨c2, -⟩⟩
        · exact absurd hA9 c1
        · have := p6 t0 t c2 ht (c3.trans hKt.symm)
          subst this
          rw [c4]; exact ⟨rfl, rfl, hSb, rfl⟩
        · exact absurd hKt (c2 t ht)
      obtain ⟨s1, s2, s3, s4⟩ := hst
      have f4 : Fr (fA b) J0 (gx_u J3 (mG b) (24 * s + x) (t : Int)) := f3'.wr (by simp [fA])
      have j4 : ∀ a, a ≠ 182 → a ≠ mG b → gx_u J3 (mG b) (24 * s + x) (t : Int) a = J0 a := fun a ha hb => by rw [gu_ne hb, j30 a ha hb]
      refine ⟨gx_u J3 (mG b) (24 * s + x) (t : Int), ?_, f4, ?_⟩
      · rw [head (t : Int) ef (by omega) (fun z => by omega), ei1, s1]
        obtain ⟨m, hm⟩ : ∃ m, n = m + 1 := ⟨n - 1, by omega⟩
        have e137 : l_X12_makes_137 n r55 (l_X12_makes_65 n r55 f) n 161 (mA b) (mG b) (if b then 1 else 0) (Sn (bfi g N F b (24 * s + x)) : Int) (s : Int) (x : Int) (t : Int) 0 (hp u J3 L) = b_X12_makes_176 n r55 (l_X12_makes_65 n r55 f) 161 (mA b) (mG b) (if b then 1 else 0) (Sn (bfi g N F b (24 * s + x)) : Int) (s : Int) (x : Int) (t : Int) (hp u J3 L) := by
          conv => lhs; arg 4; rw [hm]
          simp (disch := omega) only [l_X12_makes_137, b_X12_makes_137, ↓dhi_M, ↓dhG_M_0, ↓dhG_M_1, ↓dhG_M_2, ↓dhG_M_3, ↓dhG_M_4, ↓dhG_M_5, ↓dhG_M_6, ↓dhG_M_7, ↓dhG_M_8, ↓dhg_M_9, ↓dhq_M_9, ↓dhG_M_10, ↓dhG_M_11, ↓dhG_M_12, ↓dhg_M_13, ↓dhq_M_13, ↓dhG_M_14, ↓dhg_M_15, ↓dhq_M_15, ↓dhG_M_16, ↓dhg_M_17, ↓dhq_M_17, ↓dhg_M_18, ↓dhq_M_18, ↓dhG_M_19, ↓dhG_M_20, ↓dhG_M_21, ↓dhG_M_22, ↓dhG_M_23, ↓dhG_M_24, ↓dhg_M_25, ↓dhq_M_25, ↓dhG_M_26, ↓dhG_M_27, ↓dhG_M_28, ↓dhg_M_29, ↓dhq_M_29, ↓dhG_M_30, ↓dhG_M_31, ↓dhg_M_32, ↓dhq_M_32, ↓dhg_M_33, ↓dhq_M_33, ↓dhg_M_34, ↓dhq_M_34, ↓dhg_M_35, ↓dhq_M_35, ↓dhG_M_36, ↓dhG_M_37, ↓dhg_M_38, ↓dhq_M_38, ↓dhg_M_39, ↓dhq_M_39, ↓dhG_M_40, ↓dhG_M_41, ↓dhG_M_42, ↓dhG_M_43, ↓dhg_M_44, ↓dhq_M_44, Option.bind_some, ↓nm_eq, ↓sm_inl, ↓sm_inr, ↓dzo_0, ↓dzo_1, ↓drg_ok, ↓if_pos, ↓if_neg, if_pos, if_neg, if_true, if_false, Int.toNat_natCast, rg_ok, e25]
        have ez : (Sn (bfi g N F b (24 * s + x)) : Int) + 0 = (Sn (bfi g N F b (24 * s + x)) : Int) := by omega
        rw [b_X12_makes_134, e137]
        simp (disch := omega) only [b_X12_makes_176, b_X12_makes_198, b_X12_makes_212, b_X12_makes_215, Option.bind_some, ↓nm_eq, ↓sm_inl, ↓sm_inr, ↓dzo_0, ↓dzo_1, ↓drg_ok, ↓if_pos, ↓if_neg, if_pos, if_neg, if_true, if_false, Int.toNat_natCast, rg_ok, ↓bnd (wgo _ _), ek, ez]
      · rw [ei1]
        refine ⟨s3, fun t' ht' => ?_, fun hb => ⟨?_, fun hF t' ht' => ?_⟩, fun s' x' h1 h2 h3 => ?_⟩
        · rw [s1] at ht'
          rw [s2]
          refine ⟨VR_fr (fun p k _ => by rw [j4 _ n2 n1]) (hrow t' ht').1, ?_⟩
          rw [SR_fr (J := J0) (fun p k _ => by rw [j4 _ n2 n1])]
          exact (hrow t' ht').2
        · rw [SR_fr (J := J0) (fun p k _ => by rw [j4 _ n2 n1])]; exact (hmin hb).1
        · rw [s1] at ht'
          rw [SR_fr (J := J0) (fun p k _ => by rw [j4 _ n2 n1])]
          exact (hmin hb).2 hF t' ht'
        · rw [s1] at h1
          rw [s4]
          by_cases c : s' = s ∧ x' = x
          · rw [c.1, c.2, gu_at_eq rfl, sM_eq]
          · rw [gu_at_ne (by omega), sM_ne c, j3 _ n3, hJ1, gu_at_ne (by omega)]
            exact hgo s' x' h1 h2 (by omega)
    · have hnoA : ∀ t, t < Sn (bfi g N F b (24 * s + x)) → SK (bfi g N F b (24 * s + x)) t ≠ adv b g (CL g N F (SK (bfi g N F b (24 * s + x)) s)) x := fun t ht q => hno t ht ((hEQ t ht).mpr q)
      rcases bst_c (N := N) (F := F) (b := b) (g := g) (bfi g N F b (24 * s + x)) s x with ⟨c1, -⟩ | ⟨-, ⟨t0, ⟨c2, c3⟩, -⟩ | ⟨-, ⟨c3, c4⟩ | ⟨c3, c4⟩⟩⟩
      · exact absurd hA9 c1
      · exact absurd c3 (hnoA t0 c2)
      · -- too large
        left
        refine ⟨hFx.2.2.2 (by rw [hbs, c4]; rfl), J3, ?_, f3'⟩
        have c3' : (Sn (bfi g N F b (24 * s + x)) : Int) = 80 := by omega
        rw [c3'] at ef
        simp (disch := omega) only [l_X12_makes_65, b_X12_makes_65, ↓dhi_M, ↓dhG_M_0, ↓dhG_M_1, ↓dhG_M_2, ↓dhG_M_3, ↓dhG_M_4, ↓dhG_M_5, ↓dhG_M_6, ↓dhG_M_7, ↓dhG_M_8, ↓dhg_M_9, ↓dhq_M_9, ↓dhG_M_10, ↓dhG_M_11, ↓dhG_M_12, ↓dhg_M_13, ↓dhq_M_13, ↓dhG_M_14, ↓dhg_M_15, ↓dhq_M_15, ↓dhG_M_16, ↓dhg_M_17, ↓dhq_M_17, ↓dhg_M_18, ↓dhq_M_18, ↓dhG_M_19, ↓dhG_M_20, ↓dhG_M_21, ↓dhG_M_22, ↓dhG_M_23, ↓dhG_M_24, ↓dhg_M_25, ↓dhq_M_25, ↓dhG_M_26, ↓dhG_M_27, ↓dhG_M_28, ↓dhg_M_29, ↓dhq_M_29, ↓dhG_M_30, ↓dhG_M_31, ↓dhg_M_32, ↓dhq_M_32, ↓dhg_M_33, ↓dhq_M_33, ↓dhg_M_34, ↓dhq_M_34, ↓dhg_M_35, ↓dhq_M_35, ↓dhG_M_36, ↓dhG_M_37, ↓dhg_M_38, ↓dhq_M_38, ↓dhg_M_39, ↓dhq_M_39, ↓dhG_M_40, ↓dhG_M_41, ↓dhG_M_42, ↓dhG_M_43, ↓dhg_M_44, ↓dhq_M_44, Option.bind_some, ↓nm_eq, ↓sm_inl, ↓sm_inr, ↓dzo_0, ↓dzo_1, ↓drg_ok, ↓if_pos, ↓if_neg, if_pos, if_neg, if_true, if_false, Int.toNat_natCast, rg_ok, ↓bnd s0, e146, ↓bnd e2, r1, ↓bnd e3', c3', ↓bnd ef]
      · -- a new state
        right
        have hbs' := hbs.trans c4
        have s1 : Sn (bfi g N F b (24 * s + x + 1)) = Sn (bfi g N F b (24 * s + x)) + 1 := by rw [hbs']; rfl
        have s2 : SK (bfi g N F b (24 * s + x + 1)) = sK (SK (bfi g N F b (24 * s + x))) (Sn (bfi g N F b (24 * s + x))) (adv b g (CL g N F (SK (bfi g N F b (24 * s + x)) s)) x) := by rw [hbs']; rfl
        have s3 : Sb (bfi g N F b (24 * s + x + 1)) = false := by rw [hbs']; exact hSb
        have s4 : Sm (bfi g N F b (24 * s + x + 1)) = sM (Sm (bfi g N F b (24 * s + x))) s x (Sn (bfi g N F b (24 * s + x)) : Int) := by rw [hbs']; rfl
        have hA3' : hA3 (mA b) 11680 := Or.inr ⟨hAo, rfl⟩
        -- the copy
        have cp : zLP (frm g (Gn g) + 2) (fun f' k (J : Nat → Nat → Int) => l_X12_makes_137 n r55 (l_X12_makes_65 n r55 f) f' 161 (mA b) (mG b) (if b then 1 else 0) (Sn (bfi g N F b (24 * s + x)) : Int) (s : Int) (x : Int) (-1) (k : Int) (hp u J L))
            (fun k J => Fr [mA b] J3 J ∧ (∀ j, j < k → J (mA b) (146 * Sn (bfi g N F b (24 * s + x)) + j) = J3 182 j) ∧ ∀ j, j < 146 * Sn (bfi g N F b (24 * s + x)) → J (mA b) j = J3 (mA b) j)
            (fun res => ∃ J, res = b_X12_makes_176 n r55 (l_X12_makes_65 n r55 f) 161 (mA b) (mG b) (if b then 1 else 0) (Sn (bfi g N F b (24 * s + x)) : Int) (s : Int) (x : Int) (-1) (hp u J L) ∧ Fr [mA b] J3 J ∧ (∀ j, j < frm g (Gn g) + 2 → J (mA b) (146 * Sn (bfi g N F b (24 * s + x)) + j) = J3 182 j) ∧ ∀ j, j < 146 * Sn (bfi g N F b (24 * s + x)) → J (mA b) j = J3 (mA b) j) := by
          have q161 : ∀ J, Fr [mA b] J3 J → J 161 25 = ((frm g (Gn g) + 2 : Nat) : Int) := fun J fJ => by rw [fJ 161 (by simp; rcases hAo with z | z <;> omega)]; exact e25
          refine zlp ?_ ?_
          · rintro f' k J hk ⟨g1, g2, g3⟩
            right
            have e25' := q161 J g1
            have ek' : (k : Int) + 1 = ((k + 1 : Nat) : Int) := by omega
            have r182 : gi_aI (hp u J L) 1 182 (k : Int) = some (J3 182 k) := by
              rw [ra (u := u) (L := L) (Or.inl ⟨rfl, rfl⟩) (J := J) (i := (k : Int)) (by omega) (by omega), Int.toNat_natCast, g1 182 (by simp; omega)]
            have ei : (146 * (Sn (bfi g N F b (24 * s + x)) : Int) + (k : Int)).toNat = 146 * Sn (bfi g N F b (24 * s + x)) + k := by omega
            have wr1 := rs1 (u := u) (L := L) hA3' (J := J) (i := 146 * (Sn (bfi g N F b (24 * s + x)) : Int) + (k : Int)) (x := J3 182 k) (by omega) (by omega)
            rw [ei] at wr1
            refine ⟨gx_u J (mA b) (146 * Sn (bfi g N F b (24 * s + x)) + k) (J3 182 k), ?_, g1.wr (by simp), fun j hj => ?_, fun j hj => by rw [gu_at_ne (by omega)]; exact g3 j hj⟩
            · simp (disch := omega) only [l_X12_makes_137, b_X12_makes_137, ↓dhi_M, ↓dhG_M_0, ↓dhG_M_1, ↓dhG_M_2, ↓dhG_M_3, ↓dhG_M_4, ↓dhG_M_5, ↓dhG_M_6, ↓dhG_M_7, ↓dhG_M_8, ↓dhg_M_9, ↓dhq_M_9, ↓dhG_M_10, ↓dhG_M_11, ↓dhG_M_12, ↓dhg_M_13, ↓dhq_M_13, ↓dhG_M_14, ↓dhg_M_15, ↓dhq_M_15, ↓dhG_M_16, ↓dhg_M_17, ↓dhq_M_17, ↓dhg_M_18, ↓dhq_M_18, ↓dhG_M_19, ↓dhG_M_20, ↓dhG_M_21, ↓dhG_M_22, ↓dhG_M_23, ↓dhG_M_24, ↓dhg_M_25, ↓dhq_M_25, ↓dhG_M_26, ↓dhG_M_27, ↓dhG_M_28, ↓dhg_M_29, ↓dhq_M_29, ↓dhG_M_30, ↓dhG_M_31, ↓dhg_M_32, ↓dhq_M_32, ↓dhg_M_33, ↓dhq_M_33, ↓dhg_M_34, ↓dhq_M_34, ↓dhg_M_35, ↓dhq_M_35, ↓dhG_M_36, ↓dhG_M_37, ↓dhg_M_38, ↓dhq_M_38, ↓dhg_M_39, ↓dhq_M_39, ↓dhG_M_40, ↓dhG_M_41, ↓dhG_M_42, ↓dhG_M_43, ↓dhg_M_44, ↓dhq_M_44, Option.bind_some, ↓nm_eq, ↓sm_inl, ↓sm_inr, ↓dzo_0, ↓dzo_1, ↓drg_ok, ↓if_pos, ↓if_neg, if_pos, if_neg, if_true, if_false, Int.toNat_natCast, rg_ok, e25', ↓bnd r182, ↓bnd wr1, ek']
            · by_cases e : j = k
              · rw [e, gu_at_eq rfl]
              · rw [gu_at_ne (by omega)]; exact g2 j (by omega)
          · rintro f' J ⟨g1, g2, g3⟩
            have e25' := q161 J g1
            refine ⟨J, ?_, g1, g2, g3⟩
            simp (disch := omega) only [l_X12_makes_137, b_X12_makes_137, ↓dhi_M, ↓dhG_M_0, ↓dhG_M_1, ↓dhG_M_2, ↓dhG_M_3, ↓dhG_M_4, ↓dhG_M_5, ↓dhG_M_6, ↓dhG_M_7, ↓dhG_M_8, ↓dhg_M_9, ↓dhq_M_9, ↓dhG_M_10, ↓dhG_M_11, ↓dhG_M_12, ↓dhg_M_13, ↓dhq_M_13, ↓dhG_M_14, ↓dhg_M_15, ↓dhq_M_15, ↓dhG_M_16, ↓dhg_M_17, ↓dhq_M_17, ↓dhg_M_18, ↓dhq_M_18, ↓dhG_M_19, ↓dhG_M_20, ↓dhG_M_21, ↓dhG_M_22, ↓dhG_M_23, ↓dhG_M_24, ↓dhg_M_25, ↓dhq_M_25, ↓dhG_M_26, ↓dhG_M_27, ↓dhG_M_28, ↓dhg_M_29, ↓dhq_M_29, ↓dhG_M_30, ↓dhG_M_31, ↓dhg_M_32, ↓dhq_M_32, ↓dhg_M_33, ↓dhq_M_33, ↓dhg_M_34, ↓dhq_M_34, ↓dhg_M_35, ↓dhq_M_35, ↓dhG_M_36, ↓dhG_M_37, ↓dhg_M_38, ↓dhq_M_38, ↓dhg_M_39, ↓dhq_M_39, ↓dhG_M_40, ↓dhG_M_41, ↓dhG_M_42, ↓dhG_M_43, ↓dhg_M_44, ↓dhq_M_44, Option.bind_some, ↓nm_eq, ↓sm_inl, ↓sm_inr, ↓dzo_0, ↓dzo_1, ↓drg_ok, ↓if_pos, ↓if_neg, if_pos, if_neg, if_true, if_false, Int.toNat_natCast, rg_ok, e25']
        obtain ⟨J4, e4, f4, r4, o4⟩ := cp (frm g (Gn g) + 2) n 0 J3 (by omega) (by omega) ⟨Fr.rf, fun j hj => absurd hj (by omega), fun _ _ => rfl⟩
        have e4' : l_X12_makes_137 n r55 (l_X12_makes_65 n r55 f) n 161 (mA b) (mG b) (if b then 1 else 0) (Sn (bfi g N F b (24 * s + x)) : Int) (s : Int) (x : Int) (-1) 0 (hp u J3 L) = b_X12_makes_176 n r55 (l_X12_makes_65 n r55 f) 161 (mA b) (mG b) (if b then 1 else 0) (Sn (bfi g N F b (24 * s + x)) : Int) (s : Int) (x : Int) (-1) (hp u J4 L) := e4
        have rnew : ∀ p k, vI g p k → gx_u J4 (mG b) (24 * s + x) (Sn (bfi g N F b (24 * s + x)) : Int) (mA b) (ar g (146 * Sn (bfi g N F b (24 * s + x))) p k) = J3 182 (ar g 0 p k) := fun p k hv => by
          have := r4 (fo g p + k) (fo_rg hg hv).1
          rw [gu_ne n1]
          have e : ar g 0 p k = fo g p + k := by unfold ar; omega
          rw [e]; exact this
        have rold : ∀ t', t' < Sn (bfi g N F b (24 * s + x)) → ∀ p k, vI g p k → gx_u J4 (mG b) (24 * s + x) (Sn (bfi g N F b (24 * s + x)) : Int) (mA b) (ar g (146 * t') p k) = J0 (mA b) (ar g (146 * t') p k) := fun t' ht' p k hv => by
          have h5 := fo_rg hg hv
          rw [gu_ne n1, o4 _ (by unfold ar; omega), j30 _ n2 n1]
        refine ⟨gx_u J4 (mG b) (24 * s + x) (Sn (bfi g N F b (24 * s + x)) : Int), ?_, (f3'.tr (f4.up (by simp [fA]))).wr (by simp [fA]), ?_⟩
        · rw [head (-1) ef (by omega) (fun _ => c3), ei1, s1, b_X12_makes_134, e4']
          have ez : (Sn (bfi g N F b (24 * s + x)) : Int) + 1 = ((Sn (bfi g N F b (24 * s + x)) + 1 : Nat) : Int) := by omega
          simp (disch := omega) only [b_X12_makes_176, b_X12_makes_198, b_X12_makes_212, b_X12_makes_215, Option.bind_some, ↓nm_eq, ↓sm_inl, ↓sm_inr, ↓dzo_0, ↓dzo_1, ↓drg_ok, ↓if_pos, ↓if_neg, if_pos, if_neg, if_true, if_false, Int.toNat_natCast, rg_ok, ↓bnd (wgo _ _), ek, ez]
        · rw [ei1]
          have hSn : SR g (mA b) (ar g (146 * Sn (bfi g N F b (24 * s + x)))) (gx_u J4 (mG b) (24 * s + x) (Sn (bfi g N F b (24 * s + x)) : Int)) = SR g 182 (ar g 0) J3 := by
            funext p k y
            unfold SR
            apply propext
            exact ⟨fun z => ⟨z.1, by rw [← rnew p k z.1]; exact z.2⟩, fun z => ⟨z.1, by rw [rnew p k z.1]; exact z.2⟩⟩
          refine ⟨s3, fun t' ht' => ?_, fun hb => ⟨?_, fun hF t' ht' => ?_⟩, fun s' x' h1 h2 h3 => ?_⟩
          · rw [s1] at ht'
            rw [s2]
            by_cases e : t' = Sn (bfi g N F b (24 * s + x))
            · rw [e, sK_eq]
              exact ⟨fun p k hv => by rw [rnew p k hv]; exact V3 p k hv, by rw [hSn]; exact hROKf⟩
            · have ht2 : t' < Sn (bfi g N F b (24 * s + x)) := by omega
              rw [sK_lt ht2]
              refine ⟨VR_fr (rold t' ht2) (hrow t' ht2).1, ?_⟩
              rw [SR_fr (rold t' ht2)]; exact (hrow t' ht2).2
          · rw [SR_fr (rold 0 (by omega))]; exact (hmin hb).1
          · rw [s1] at ht'
            have hF' := (hmin hb).2 hF
            by_cases e : t' = Sn (bfi g N F b (24 * s + x))
            · rw [e, hSn, S3]
              refine CL_min (fun p k y z => ?_) (LBm_cl.2.1 _ (Nat.lt_of_lt_of_le (show Sn (bfi g N F b (24 * s + x)) < Sn (bfi g N F b (24 * s + x + 1)) by omega) hFx.2.2.1))
              exact LBm_cl.2.2 s x _ (Nat.lt_of_lt_of_le (show s < Sn (bfi g N F b (24 * s + x + 1)) by omega) hFx.2.2.1) hx (by rw [hFx.2.1 s x hx (by omega), s4, sM_eq]) p k y (adv_mono (hF' s hs) p k y z)
            · have ht2 : t' < Sn (bfi g N F b (24 * s + x)) := by omega
              rw [SR_fr (rold t' ht2)]; exact hF' t' ht2
          · rw [s1] at h1
            rw [s4]
            by_cases c : s' = s ∧ x' = x
            · rw [c.1, c.2, gu_at_eq rfl, sM_eq]
            · rw [gu_at_ne (by omega), sM_ne c, f4 (mG b) (by simp; exact n1.symm), j3 _ n3, hJ1, gu_at_ne (by omega)]
              exact hgo s' x' (by omega) h2 (by omega)
  · -- there are none
    right
    have hno : ¬ ∃ p k, adv b g (CL g N F (SK (bfi g N F b (24 * s + x)) s)) x p k 9 := fun ⟨p, k, z⟩ => r2 ⟨p, k, ((advR hROK).mp z).2⟩
    have hsame : bfi g N F b (24 * s + x + 1) = bfi g N F b (24 * s + x) := bfi_none hg hSb hs hx rfl hno
    have j20 : ∀ a, a ≠ 182 → a ≠ mG b → J2 a = J0 a := fun a ha hb => by rw [j2 a ha, j1 a hb]
    refine ⟨J2, ?_, f2', ?_⟩
    · rw [ei1, hsame]
      simp (disch := omega) only [l_X12_makes_65, b_X12_makes_65, b_X12_makes_215, ↓dhi_M, ↓dhG_M_0, ↓dhG_M_1, ↓dhG_M_2, ↓dhG_M_3, ↓dhG_M_4, ↓dhG_M_5, ↓dhG_M_6, ↓dhG_M_7, ↓dhG_M_8, ↓dhg_M_9, ↓dhq_M_9, ↓dhG_M_10, ↓dhG_M_11, ↓dhG_M_12, ↓dhg_M_13, ↓dhq_M_13, ↓dhG_M_14, ↓dhg_M_15, ↓dhq_M_15, ↓dhG_M_16, ↓dhg_M_17, ↓dhq_M_17, ↓dhg_M_18, ↓dhq_M_18, ↓dhG_M_19, ↓dhG_M_20, ↓dhG_M_21, ↓dhG_M_22, ↓dhG_M_23, ↓dhG_M_24, ↓dhg_M_25, ↓dhq_M_25, ↓dhG_M_26, ↓dhG_M_27, ↓dhG_M_28, ↓dhg_M_29, ↓dhq_M_29, ↓dhG_M_30, ↓dhG_M_31, ↓dhg_M_32, ↓dhq_M_32, ↓dhg_M_33, ↓dhq_M_33, ↓dhg_M_34, ↓dhq_M_34, ↓dhg_M_35, ↓dhq_M_35, ↓dhG_M_36, ↓dhG_M_37, ↓dhg_M_38, ↓dhq_M_38, ↓dhg_M_39, ↓dhq_M_39, ↓dhG_M_40, ↓dhG_M_41, ↓dhG_M_42, ↓dhG_M_43, ↓dhg_M_44, ↓dhq_M_44, Option.bind_some, ↓nm_eq, ↓sm_inl, ↓sm_inr, ↓dzo_0, ↓dzo_1, ↓drg_ok, ↓if_pos, ↓if_neg, if_pos, if_neg, if_true, if_false, Int.toNat_natCast, rg_ok, ↓bnd s0, e146, ↓bnd e2, r1, ek]
    · rw [ei1]
      unfold RBI
      rw [hsame]
      refine ⟨hSb, fun t ht => ⟨VR_fr (fun p k _ => by rw [j20 _ n2 n1]) (hrow t ht).1, by rw [SR_fr (J := J0) (fun p k _ => by rw [j20 _ n2 n1])]; exact (hrow t ht).2⟩, fun hb => ?_, fun s' x' h1 h2 h3 => ?_⟩
      · exact ⟨by rw [SR_fr (J := J0) (fun p k _ => by rw [j20 _ n2 n1])]; exact (hmin hb).1, fun hF t ht => by rw [SR_fr (J := J0) (fun p k _ => by rw [j20 _ n2 n1])]; exact (hmin hb).2 hF t ht⟩
      · rw [j2 _ n3, hJ1]
        by_cases c : s' = s ∧ x' = x
        · rw [c.1, c.2, gu_at_eq rfl, p8 s x (Nat.le_refl _) hx]
        · rw [gu_at_ne (by omega)]; exact hgo s' x' h1 h2 (by omega)
end RQ_
