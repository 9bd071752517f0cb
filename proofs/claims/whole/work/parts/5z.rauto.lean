/-! ===== the reference's automata ===== -/
def mS (b : Bool) : Nat := if b then 29 else 32
def mF (b : Bool) : Nat := if b then 34 else 35
def RAU (g : GT) (N : Nat → Prop) (F : Nat → Nat → Prop) (b : Bool) (J : Nat → Nat → Int) : Prop :=
  (Sb (FIN g N F b) = true ∧ J 161 (mS b) = -2) ∨
  (Sb (FIN g N F b) = false ∧ J 161 (mS b) = (Sn (FIN g N F b) : Int) ∧
    (∀ t, t < Sn (FIN g N F b) → VR g (mA b) (ar g (146 * t)) J ∧ SR g (mA b) (ar g (146 * t)) J = (if b then LBm g N F (FIN g N F b) t else CL g N F (SK (FIN g N F b) t))) ∧
    ∀ s x, s < Sn (FIN g N F b) → x < 24 → J (mG b) (24 * s + x) = Sm (FIN g N F b) s x)
section RR_
variable {u : Nat} {n : Nat} {L : Nat → Nat → Int} {g : GT} {N : Nat → Prop} {F : Nat → Nat → Prop} {b : Bool}
theorem X12_mkrow (hn : 1000000000000000000000000000000 ≤ n) {J0 : Nat → Nat → Int} (w : RX g N F J0) (hu : NU g J0) {s : Nat} (h : RBI g N F b (24 * s) J0) (hs : s < Sn (bfi g N F b (24 * s))) (r55 : Nat → Nat → Nat → Int → Int → Int → gi_H → Option (Int × gi_H)) :
    (Sb (FIN g N F b) = true ∧ ∃ J', l_X12_makes_65 n r55 n 161 (mA b) (mG b) (if b then 1 else 0) (Sn (bfi g N F b (24 * s)) : Int) (s : Int) 0 (hp u J0 L) = some (-2, hp u J' L) ∧ Fr (fA b) J0 J') ∨
    ∃ J', l_X12_makes_65 n r55 n 161 (mA b) (mG b) (if b then 1 else 0) (Sn (bfi g N F b (24 * s)) : Int) (s : Int) 0 (hp u J0 L) = r55 161 (mA b) (mG b) (if b then 1 else 0) (Sn (bfi g N F b (24 * (s + 1))) : Int) ((s + 1 : Nat) : Int) (hp u J' L) ∧ Fr (fA b) J0 J' ∧ RBI g N F b (24 * (s + 1)) J' := by
  have hg := w.1.gr
  have key : zLP 24 (fun f x (J : Nat → Nat → Int) => l_X12_makes_65 n r55 f 161 (mA b) (mG b) (if b then 1 else 0) (Sn (bfi g N F b (24 * s + x)) : Int) (s : Int) (x : Int) (hp u J L)) (fun x J => Fr (fA b) J0 J ∧ RBI g N F b (24 * s + x) J)
      (fun res => (Sb (FIN g N F b) = true ∧ ∃ J', res = some (-2, hp u J' L) ∧ Fr (fA b) J0 J') ∨ ∃ J', res = r55 161 (mA b) (mG b) (if b then 1 else 0) (Sn (bfi g N F b (24 * (s + 1))) : Int) ((s + 1 : Nat) : Int) (hp u J' L) ∧ Fr (fA b) J0 J' ∧ RBI g N F b (24 * (s + 1)) J') := by
    refine zlp ?_ ?_
    · rintro f x J hx ⟨f1, h1⟩
      obtain ⟨wJ, uJ⟩ := fA_fr w hu f1
      have hle := (bfi_ext (g := g) (N := N) (F := F) (b := b) (24 * s) (24 * s + x) (by omega)).1
      rcases X12_mk (u := u) (L := L) hn wJ uJ hx h1 (by omega) r55 f with ⟨q1, J', q2, q3⟩ | ⟨J', q2, q3, q4⟩
      · exact Or.inl (Or.inl ⟨q1, J', q2, f1.tr q3⟩)
      · exact Or.inr ⟨J', q2, f1.tr q3, q4⟩
    · rintro f J ⟨f1, h1⟩
      right
      have e24 : 24 * s + 24 = 24 * (s + 1) := by omega
      rw [e24] at h1
      refine ⟨J, ?_, f1, h1⟩
      have hP := (PB_bfi (N := N) (F := F) (b := b) hg (24 * (s + 1))).2.1
      have hs80 : s < 80 := by have := (PB_bfi (N := N) (F := F) (b := b) hg (24 * s)).2.1; omega
      have ek : (s : Int) + 1 = ((s + 1 : Nat) : Int) := by omega
      rw [e24]
      simp (disch := omega) only [l_X12_makes_65, b_X12_makes_65, b_X12_makes_221, Option.bind_some, ↓nm_eq, ↓sm_inl, ↓sm_inr, ↓dzo_0, ↓dzo_1, ↓drg_ok, ↓if_pos, ↓if_neg, if_pos, if_neg, if_true, if_false, Int.toNat_natCast, rg_ok, ek]
  have e := key 24 n 0 J0 (by omega) (by omega) ⟨Fr.rf, h⟩
  exact e
theorem X12_makes0 (hn : 1000000000000000000000000000000 ≤ n) {J0 : Nat → Nat → Int} (w : RX g N F J0) (hu : NU g J0) :
    ∃ (r : Int) (J' : Nat → Nat → Int), l_X12_makes_11 n n 161 (mA b) (mG b) (if b then 1 else 0) 0 (hp u J0 L) = some (r, hp u J' L) ∧ Fr (fA b) J0 J' ∧ ((Sb (FIN g N F b) = true ∧ r = -2) ∨ (Sb (FIN g N F b) = false ∧ r = (Sn (FIN g N F b) : Int) ∧ RBI g N F b 1920 J')) := by
  have hg := w.1.gr
  have hfr6 := frm_6 hg (Gn g)
  have h24 := hg.1
  have hAo := mA_or b
  have hA3' : hA3 (mA b) 11680 := Or.inr ⟨hAo, rfl⟩
  have c1 : zLP (frm g (Gn g) + 2) (fun f k (J : Nat → Nat → Int) => l_X12_makes_11 n f 161 (mA b) (mG b) (if b then 1 else 0) (k : Int) (hp u J L)) (fun k J => Fr [mA b] J0 J ∧ ∀ j, j < k → J (mA b) j = 0)
      (fun res => ∃ J, res = b_X12_makes_31 n 161 (mA b) (mG b) (if b then 1 else 0) (hp u J L) ∧ Fr [mA b] J0 J ∧ ∀ j, j < frm g (Gn g) + 2 → J (mA b) j = 0) := by
    have q161 : ∀ J, Fr [mA b] J0 J → J 161 25 = ((frm g (Gn g) + 2 : Nat) : Int) := fun J fJ => by rw [fJ 161 (by simp; rcases hAo with z | z <;> omega)]; exact hu.2.2
    refine zlp ?_ ?_
    · rintro f k J hk ⟨f1, f2⟩
      right
      have e25 := q161 J f1
      have ek : (k : Int) + 1 = ((k + 1 : Nat) : Int) := by omega
      have rs := rs1 (u := u) (L := L) hA3' (J := J) (i := (k : Int)) (x := 0) (by omega) (by omega)
      rw [Int.toNat_natCast] at rs
      refine ⟨gx_u J (mA b) k 0, ?_, f1.wr (by simp), fun j hj => ?_⟩
      · simp (disch := omega) only [l_X12_makes_11, b_X12_makes_11, ↓dhi_M, ↓dhG_M_0, ↓dhG_M_1, ↓dhG_M_2, ↓dhG_M_3, ↓dhG_M_4, ↓dhG_M_5, ↓dhG_M_6, ↓dhG_M_7, ↓dhG_M_8, ↓dhg_M_9, ↓dhq_M_9, ↓dhG_M_10, ↓dhG_M_11, ↓dhG_M_12, ↓dhg_M_13, ↓dhq_M_13, ↓dhG_M_14, ↓dhg_M_15, ↓dhq_M_15, ↓dhG_M_16, ↓dhg_M_17, ↓dhq_M_17, ↓dhg_M_18, ↓dhq_M_18, ↓dhG_M_19, ↓dhG_M_20, ↓dhG_M_21, ↓dhG_M_22, ↓dhG_M_23, ↓dhG_M_24, ↓dhg_M_25, ↓dhq_M_25, ↓dhG_M_26, ↓dhG_M_27, ↓dhG_M_28, ↓dhg_M_29, ↓dhq_M_29, ↓dhG_M_30, ↓dhG_M_31, ↓dhg_M_32, ↓dhq_M_32, ↓dhg_M_33, ↓dhq_M_33, ↓dhg_M_34, ↓dhq_M_34, ↓dhg_M_35, ↓dhq_M_35, ↓dhG_M_36, ↓dhG_M_37, ↓dhg_M_38, ↓dhq_M_38, ↓dhg_M_39, ↓dhq_M_39, ↓dhG_M_40, ↓dhG_M_41, ↓dhG_M_42, ↓dhG_M_43, ↓dhg_M_44, ↓dhq_M_44, Option.bind_some, ↓nm_eq, ↓sm_inl, ↓sm_inr, ↓dzo_0, ↓dzo_1, ↓drg_ok, ↓if_pos, ↓if_neg, if_pos, if_neg, if_true, if_false, Int.toNat_natCast, rg_ok, ↓bnd rs, e25, ek]
      · by_cases e : j = k
        · rw [e, gu_at_eq rfl]
        · rw [gu_at_ne e]; exact f2 j (by omega)
    · rintro f J ⟨f1, f2⟩
      have e25 := q161 J f1
      refine ⟨J, ?_, f1, f2⟩
      simp (disch := omega) only [l_X12_makes_11, b_X12_makes_11, ↓dhi_M, ↓dhG_M_0, ↓dhG_M_1, ↓dhG_M_2, ↓dhG_M_3, ↓dhG_M_4, ↓dhG_M_5, ↓dhG_M_6, ↓dhG_M_7, ↓dhG_M_8, ↓dhg_M_9, ↓dhq_M_9, ↓dhG_M_10, ↓dhG_M_11, ↓dhG_M_12, ↓dhg_M_13, ↓dhq_M_13, ↓dhG_M_14, ↓dhg_M_15, ↓dhq_M_15, ↓dhG_M_16, ↓dhg_M_17, ↓dhq_M_17, ↓dhg_M_18, ↓dhq_M_18, ↓dhG_M_19, ↓dhG_M_20, ↓dhG_M_21, ↓dhG_M_22, ↓dhG_M_23, ↓dhG_M_24, ↓dhg_M_25, ↓dhq_M_25, ↓dhG_M_26, ↓dhG_M_27, ↓dhG_M_28, ↓dhg_M_29, ↓dhq_M_29, ↓dhG_M_30, ↓dhG_M_31, ↓dhg_M_32, ↓dhq_M_32, ↓dhg_M_33, ↓dhq_M_33, ↓dhg_M_34, ↓dhq_M_34, ↓dhg_M_35, ↓dhq_M_35, ↓dhG_M_36, ↓dhG_M_37, ↓dhg_M_38, ↓dhq_M_38, ↓dhg_M_39, ↓dhq_M_39, ↓dhG_M_40, ↓dhG_M_41, ↓dhG_M_42, ↓dhG_M_43, ↓dhg_M_44, ↓dhq_M_44, Option.bind_some, ↓nm_eq, ↓sm_inl, ↓sm_inr, ↓dzo_0, ↓dzo_1, ↓drg_ok, ↓if_pos, ↓if_neg, if_pos, if_neg, if_true, if_false, Int.toNat_natCast, rg_ok, e25]
  obtain ⟨J1, e1, f1, z1⟩ := c1 (frm g (Gn g) + 2) n 0 J0 (by omega) (by omega) ⟨Fr.rf, fun j hj => absurd hj (by omega)⟩
  have hM : ∃ J2, J2 = gx_u J1 (mA b) (frm g (Gn g)) 768 := ⟨_, rfl⟩
  obtain ⟨J2, hJ2⟩ := hM
  have f2 : Fr (fA b) J0 J2 := by rw [hJ2]; exact (f1.up (by simp [fA])).wr (by simp [fA])
  obtain ⟨w2, u2⟩ := fA_fr w hu f2
  have hv0 : vI g 24 0 := ⟨Or.inr rfl, Nat.zero_le _⟩
  have hfo24 : fo g 24 = frm g (Gn g) := if_pos rfl
  have hval : ∀ p k, vI g p k → J2 (mA b) (ar g (146 * 0) p k) = if p = 24 ∧ k = 0 then 768 else 0 := fun p k hv => by
    rw [hJ2]
    by_cases c : p = 24 ∧ k = 0
    · rw [if_pos c, c.1, c.2, gu_at_eq (by unfold ar; omega)]
    · rw [if_neg c, gu_at_ne (fun z => c (ar_inj (146 * 0) p k 24 0 hv hv0 (by rw [z]; unfold ar; omega))), z1 _ (by have := fo_rg hg hv; unfold ar; omega)]
  have hSR : ∀ p k y, SR g (mA b) (ar g (146 * 0)) J2 p k y ↔ p = 24 ∧ k = 0 ∧ (y = 8 ∨ y = 9) := fun p k y => by
    unfold SR
    constructor
    · rintro ⟨z1, z2⟩
      rw [hval p k z1] at z2
      split at z2
      · next c => rw [bt_768, Bool.or_eq_true, decide_eq_true_eq, decide_eq_true_eq] at z2; exact ⟨c.1, c.2, z2⟩
      · rw [bt_zero] at z2; exact absurd z2 (by decide)
    · rintro ⟨z1, z2, z3⟩
      rw [z1, z2]
      refine ⟨hv0, ?_⟩
      rw [hval 24 0 hv0, if_pos ⟨rfl, rfl⟩, bt_768, Bool.or_eq_true, decide_eq_true_eq, decide_eq_true_eq]
      exact z3
  have hV2 : VR g (mA b) (ar g (146 * 0)) J2 := fun p k hv => by
    rw [hval p k hv]
    split
    · refine ⟨by decide, fun y hy => ?_, Or.inr (by rw [bt_768]; decide)⟩
      rw [bt_768, Bool.or_eq_true, decide_eq_true_eq, decide_eq_true_eq] at hy; omega
    · exact ⟨by decide, fun y hy => by rw [bt_zero] at hy; exact absurd hy (by decide), Or.inl rfl⟩
  obtain ⟨J3, e3, f3, -, V3, S3⟩ := X12_closure (u := u) (L := L) hn hA3' w2 u2 (o := 146 * 0) (by omega) (K := SR g (mA b) (ar g (146 * 0)) J2) ⟨hV2, fun _ _ _ z => z, CL_sub⟩
  have e3' : f_X12_closure n 161 (mA b) 0 (hp u J2 L) = some (hp u J3 L) := e3
  have f3' : Fr (fA b) J0 J3 := f2.tr (f3.up (by simp [fA]))
  have hK0 : ∀ p k, SR g (mA b) (ar g (146 * 0)) J2 p k 9 ↔ K0 b p k 9 := fun p k => by
    rw [hSR]; unfold K0
    exact ⟨fun z => ⟨z.1, z.2.1, Or.inl rfl⟩, fun z => ⟨z.1, z.2.1, Or.inr rfl⟩⟩
  have hR0 : RBI g N F b (24 * 0) J3 := by
    have hS0 : Sn (bfi g N F b (24 * 0)) = 1 := rfl
    refine ⟨rfl, fun t ht => ?_, fun hb => ⟨?_, fun hF t ht => ?_⟩, fun s x _ _ h => absurd h (by omega)⟩
    · have : t = 0 := by rw [hS0] at ht; omega
      subst this
      refine ⟨V3, ?_⟩
      rw [S3]
      refine ⟨fun hb => ?_, fun hb p k => ⟨fun z => CL_9 (fun p k w => (hK0 p k).mp w) z, fun z => CL_9 (fun p k w => (hK0 p k).mpr w) z⟩⟩
      have : SR g (mA b) (ar g (146 * 0)) J2 = K0 b := by
        funext p k y
        apply propext
        rw [hSR]; unfold K0; rw [hb]
        exact ⟨fun ⟨z1, z2, z3⟩ => ⟨z1, z2, z3.elim (fun w => Or.inr ⟨w, rfl⟩) Or.inl⟩, fun ⟨z1, z2, z3⟩ => ⟨z1, z2, z3.elim Or.inr (fun w => Or.inl w.1)⟩⟩
      rw [this]; rfl
    · rw [S3]; exact CL_sub _ _ _ ((hSR _ _ _).mpr ⟨rfl, rfl, Or.inl rfl⟩)
    · have : t = 0 := by rw [hS0] at ht; omega
      subst this
      rw [S3]
      have hFx := fin_ext (g := g) (N := N) (F := F) (b := b) (show 24 * 0 ≤ 1920 by omega)
      refine CL_min (fun p k y z => ?_) (LBm_cl.2.1 0 (Nat.lt_of_lt_of_le (show 0 < Sn (bfi g N F b (24 * 0)) by rw [hS0]; omega) hFx.2.2.1))
      obtain ⟨z1, z2, z3⟩ := (hSR p k y).mp z
      rw [z1, z2]
      rcases z3 with z3 | z3 <;> rw [z3]
      · exact LBm_cl.1.1
      · exact LBm_cl.1.2
  have e31 : b_X12_makes_31 n 161 (mA b) (mG b) (if b then 1 else 0) (hp u J1 L) = l_X12_makes_55 n n 161 (mA b) (mG b) (if b then 1 else 0) 1 0 (hp u J3 L) := by
    have u1 : J1 181 24 = (frm g (Gn g) : Int) := by rw [f1 181 (by simp; rcases hAo with z | z <;> omega)]; exact hu.2.1
    have rs := rs1 (u := u) (L := L) hA3' (J := J1) (i := (frm g (Gn g) : Int)) (x := 768) (by omega) (by omega)
    rw [Int.toNat_natCast, ← hJ2] at rs
    have t24 : Int.toNat 24 = 24 := rfl
    simp (disch := omega) only [b_X12_makes_31, ↓dhi_M, ↓dhG_M_0, ↓dhG_M_1, ↓dhG_M_2, ↓dhG_M_3, ↓dhG_M_4, ↓dhG_M_5, ↓dhG_M_6, ↓dhG_M_7, ↓dhG_M_8, ↓dhg_M_9, ↓dhq_M_9, ↓dhG_M_10, ↓dhG_M_11, ↓dhG_M_12, ↓dhg_M_13, ↓dhq_M_13, ↓dhG_M_14, ↓dhg_M_15, ↓dhq_M_15, ↓dhG_M_16, ↓dhg_M_17, ↓dhq_M_17, ↓dhg_M_18, ↓dhq_M_18, ↓dhG_M_19, ↓dhG_M_20, ↓dhG_M_21, ↓dhG_M_22, ↓dhG_M_23, ↓dhG_M_24, ↓dhg_M_25, ↓dhq_M_25, ↓dhG_M_26, ↓dhG_M_27, ↓dhG_M_28, ↓dhg_M_29, ↓dhq_M_29, ↓dhG_M_30, ↓dhG_M_31, ↓dhg_M_32, ↓dhq_M_32, ↓dhg_M_33, ↓dhq_M_33, ↓dhg_M_34, ↓dhq_M_34, ↓dhg_M_35, ↓dhq_M_35, ↓dhG_M_36, ↓dhG_M_37, ↓dhg_M_38, ↓dhq_M_38, ↓dhg_M_39, ↓dhq_M_39, ↓dhG_M_40, ↓dhG_M_41, ↓dhG_M_42, ↓dhG_M_43, ↓dhg_M_44, ↓dhq_M_44, ↓dha_181, ↓dhs_181, ↓dhl_181, Option.bind_some, ↓nm_eq, ↓sm_inl, ↓sm_inr, ↓dzo_0, ↓dzo_1, ↓drg_ok, ↓if_pos, ↓if_neg, if_pos, if_neg, if_true, if_false, Int.toNat_natCast, rg_ok, t24, u1, ↓bnd rs, ↓bnd e3']
  have out : zLP 80 (fun f s (p : Int × (Nat → Nat → Int)) => l_X12_makes_55 n f 161 (mA b) (mG b) (if b then 1 else 0) p.1 (s : Int) (hp u p.2 L)) (fun s p => p.1 = (Sn (bfi g N F b (24 * s)) : Int) ∧ Fr (fA b) J0 p.2 ∧ RBI g N F b (24 * s) p.2)
      (fun res => ∃ (r : Int) (J' : Nat → Nat → Int), res = some (r, hp u J' L) ∧ Fr (fA b) J0 J' ∧ ((Sb (FIN g N F b) = true ∧ r = -2) ∨ (Sb (FIN g N F b) = false ∧ r = (Sn (FIN g N F b) : Int) ∧ RBI g N F b 1920 J'))) := by
    have done : ∀ (s : Nat) (J : Nat → Nat → Int), s ≤ 80 → RBI g N F b (24 * s) J → Sn (bfi g N F b (24 * s)) ≤ s → Sb (FIN g N F b) = false ∧ (Sn (bfi g N F b (24 * s)) : Int) = (Sn (FIN g N F b) : Int) ∧ RBI g N F b 1920 J := by
      intro s J hs hR hle
      have hF : bfi g N F b 1920 = bfi g N F b (24 * s) := (bfi_ext (g := g) (N := N) (F := F) (b := b) (24 * s) 1920 (by omega)).2.2.2 (Or.inr (by omega))
      have hF2 : FIN g N F b = bfi g N F b (24 * s) := hF
      rw [hF2]
      refine ⟨hR.1, rfl, ?_⟩
      unfold RBI at hR ⊢
      rw [hF]
      exact ⟨hR.1, hR.2.1, hR.2.2.1, fun s' x h1 h2 _ => hR.2.2.2 s' x h1 h2 (by omega)⟩
    refine zlp ?_ ?_
    · rintro f s ⟨v4, J⟩ hs ⟨h1, h2, h3⟩
      dsimp only at h1 h2 h3 ⊢
      have hP := (PB_bfi (N := N) (F := F) (b := b) hg (24 * s)).2.1
      by_cases c : Sn (bfi g N F b (24 * s)) ≤ s
      · left
        obtain ⟨q1, q2, q3⟩ := done s J (by omega) h3 c
        refine ⟨v4, J, ?_, h2, Or.inr ⟨q1, h1.trans q2, q3⟩⟩
        simp (disch := omega) only [l_X12_makes_55, b_X12_makes_55, Option.bind_some, ↓nm_eq, ↓sm_inl, ↓sm_inr, ↓dzo_0, ↓dzo_1, ↓drg_ok, ↓if_pos, ↓if_neg, if_pos, if_neg, if_true, if_false, Int.toNat_natCast, rg_ok]
      · obtain ⟨wJ, uJ⟩ := fA_fr w hu h2
        have e0 : l_X12_makes_55 n (f + 1) 161 (mA b) (mG b) (if b then 1 else 0) v4 (s : Int) (hp u J L) = l_X12_makes_65 n (l_X12_makes_55 n f) n 161 (mA b) (mG b) (if b then 1 else 0) (Sn (bfi g N F b (24 * s)) : Int) (s : Int) 0 (hp u J L) := by
          rw [h1]
          simp (disch := omega) only [l_X12_makes_55, b_X12_makes_55, Option.bind_some, ↓nm_eq, ↓sm_inl, ↓sm_inr, ↓dzo_0, ↓dzo_1, ↓drg_ok, ↓if_pos, ↓if_neg, if_pos, if_neg, if_true, if_false, Int.toNat_natCast, rg_ok]
        rcases X12_mkrow (u := u) (L := L) hn wJ uJ h3 (by omega) (l_X12_makes_55 n f) with ⟨q1, J', q2, q3⟩ | ⟨J', q2, q3, q4⟩
        · left
          exact ⟨-2, J', e0.trans q2, h2.tr q3, Or.inl ⟨q1, rfl⟩⟩
        · right
          exact ⟨((Sn (bfi g N F b (24 * (s + 1))) : Int), J'), e0.trans q2, rfl, h2.tr q3, q4⟩
    · rintro f ⟨v4, J⟩ ⟨h1, h2, h3⟩
      dsimp only at h1 h2 h3 ⊢
      have hP := (PB_bfi (N := N) (F := F) (b := b) hg (24 * 80)).2.1
      obtain ⟨q1, q2, q3⟩ := done 80 J (by omega) h3 hP
      refine ⟨v4, J, ?_, h2, Or.inr ⟨q1, h1.trans q2, q3⟩⟩
      simp (disch := omega) only [l_X12_makes_55, b_X12_makes_55, Option.bind_some, ↓nm_eq, ↓sm_inl, ↓sm_inr, ↓dzo_0, ↓dzo_1, ↓drg_ok, ↓if_pos, ↓if_neg, if_pos, if_neg, if_true, if_false, Int.toNat_natCast, rg_ok]
  obtain ⟨r, J', e4, q⟩ := out 80 n 0 (1, J3) (by omega) (by omega) ⟨rfl, f3', hR0⟩
  exact ⟨r, J', (e1.trans e31).trans e4, q⟩
end RR_
