/-! ===== the reference: merges ===== -/
section SM_
variable {u : Nat} {n : Nat} {L : Nat → Nat → Int} {g : GT} {N : Nat → Prop} {F : Nat → Nat → Prop}
theorem cl_mg (hg : GR g) {J J' : Nat → Nat → Int} (h : RVM g N F J) {t : Nat} (ht : t < Sn (FIN g N F true)) (f : Fr [183] J J') (fo : ∀ x, x < 146 * t ∨ 146 * t + 146 ≤ x → J' 183 x = J 183 x) (hV : VR g 183 (ar g (146 * t)) J') (hS : rst g t J' = CL g N F (rst g t J)) :
    RVM g N F J' ∧ (∀ s, s < Sn (FIN g N F true) → sAS (rst g s J) (rst g s J')) ∧ (∀ s, s ≠ t → rst g s J' = rst g s J) ∧ cA g N F (rst g t J') := by
  obtain ⟨h1, h2, h3⟩ := h
  have hoth : ∀ s, s ≠ t → ∀ p k, vI g p k → J' 183 (ar g (146 * s) p k) = J 183 (ar g (146 * s) p k) := fun s hs p k hv => by
    have := fo_rg hg hv
    exact fo _ (by unfold ar; omega)
  have hsr : ∀ s, s ≠ t → rst g s J' = rst g s J := fun s hs => SR_fr (hoth s hs)
  have hgr : ∀ s, s < Sn (FIN g N F true) → sAS (rst g s J) (rst g s J') := fun s _ => by
    by_cases e : s = t
    · rw [e, hS]; exact CL_sub
    · rw [hsr s e]; exact fun _ _ _ z => z
  refine ⟨⟨fun s hs => ?_, hgr 0 (Nat.lt_of_le_of_lt (Nat.zero_le t) ht) _ _ _ h2, fun s x hs hx => by rw [f 184 (by simp)]; exact h3 s x hs hx⟩, hgr, hsr, by rw [hS]; exact CL_cl⟩
  by_cases e : s = t
  · rw [e]
    refine ⟨hV, fun p k => ?_, ?_⟩
    · rw [hS]
      constructor
      · intro z
        have z2 : CL g N F (CL g N F (SK (FIN g N F true) t)) p k 9 := CL_9 (fun p k w => ((h1 t ht).2.1 p k).mp w) z
        rwa [CL_CL] at z2
      · intro z
        exact CL_sub _ _ _ (((h1 t ht).2.1 p k).mpr z)
    · rw [hS]; exact CL_min (h1 t ht).2.2 (LBm_cl.2.1 t ht)
  · exact ⟨VR_fr (hoth s e) (h1 s hs).1, by rw [hsr s e]; exact (h1 s hs).2.1, by rw [hsr s e]; exact (h1 s hs).2.2⟩
/-- a state that has nothing more to give -/
def DON (g : GT) (N : Nat → Prop) (F : Nat → Nat → Prop) (J : Nat → Nat → Int) (t : Nat) : Prop := cA g N F (rst g t J) ∧ ∀ p k, EDG g N F t J p k
theorem don_all (hg : GR g) (hb : Sb (FIN g N F true) = false) {J : Nat → Nat → Int} (h : RVM g N F J) (hd : ∀ t, t < Sn (FIN g N F true) → DON g N F J t) {t : Nat} (ht : t < Sn (FIN g N F true)) : rst g t J = LBm g N F (FIN g N F true) t := by
  have hP := PB_bfi (N := N) (F := F) (b := true) hg 1920
  have h0 : 0 < Sn (FIN g N F true) := hP.1
  have hK0 : SK (FIN g N F true) 0 = K0 true := hP.2.2.1
  funext p k y
  refine propext ⟨(h.1 t ht).2.2 p k y, fun z => z (fun s => rst g s J) ⟨⟨h.2.1, ((h.1 0 h0).2.1 24 0).mpr (CL_sub _ _ _ (by rw [hK0]; exact ⟨rfl, rfl, Or.inl rfl⟩))⟩, fun s hs => (hd s hs).1, fun s x t' hs hx hm p k y => ?_⟩⟩
  rintro ⟨-, k', e, hv, hk, hzx, z9, zy⟩
  rw [e]
  exact (hd s hs).2 p k' z9 hk t' (by rw [hzx]; exact hm) y zy
def PAS (g : GT) (N : Nat → Prop) (F : Nat → Nat → Prop) (J0 J1 : Nat → Nat → Int) (k : Nat) (fl : Int) (J : Nat → Nat → Int) : Prop :=
  Fr [183] J0 J ∧ RVM g N F J ∧ mT g (Sn (FIN g N F true)) J1 ≤ mT g (Sn (FIN g N F true)) J ∧ ((fl = 0 ∧ ∀ t, t < k → DON g N F J t) ∨ (fl = 1 ∧ mT g (Sn (FIN g N F true)) J1 < mT g (Sn (FIN g N F true)) J))
theorem X12_mpass (hn : 1000000000000000000000000000000 ≤ n) (hb : Sb (FIN g N F true) = false) {J0 J1 : Nat → Nat → Int} (w : RX g N F J0) (hu : NU g J0) (q29 : J0 161 29 = (Sn (FIN g N F true) : Int)) (f1 : Fr [183] J0 J1) (h1 : RVM g N F J1) (r32 : Nat → Int → gi_H → Option gi_H) :
    ∃ (fl : Int) (J : Nat → Nat → Int), l_X12_merges_40 n r32 n 161 0 0 (hp u J1 L) = r32 161 fl (hp u J L) ∧ PAS g N F J0 J1 (Sn (FIN g N F true)) fl J := by
  have hg := w.1.gr
  have h24 := hg.1
  have h80 : Sn (FIN g N F true) ≤ 80 := (PB_bfi (N := N) (F := F) (b := true) hg 1920).2.1
  have hfrA : ∀ J, Fr [183] J0 J → RX g N F J ∧ NU g J ∧ J 161 29 = (Sn (FIN g N F true) : Int) := fun J f => by
    have q61 : J 161 = J0 161 := f 161 (by simp)
    exact ⟨w.fr f ⟨by rw [q61], by rw [q61]⟩ (by simp), hu.fr (f 181 (by simp)) (by rw [q61]), by rw [q61]; exact q29⟩
  have key : zLP (Sn (FIN g N F true)) (fun f t (s : Int × (Nat → Nat → Int)) => l_X12_merges_40 n r32 f 161 s.1 (t : Int) (hp u s.2 L)) (fun t s => PAS g N F J0 J1 t s.1 s.2)
      (fun res => ∃ (fl : Int) (J : Nat → Nat → Int), res = r32 161 fl (hp u J L) ∧ PAS g N F J0 J1 (Sn (FIN g N F true)) fl J) := by
    refine zlp ?_ ?_
    · rintro f t ⟨fl, J⟩ ht ⟨f2, h2, h3, h4⟩
      dsimp only at f2 h2 h3 h4 ⊢
      right
      obtain ⟨wJ, uJ, e29⟩ := hfrA J f2
      have hfl : fl = 0 ∨ fl = 1 := by rcases h4 with z | z <;> omega
      have ek : (t : Int) + 1 = ((t + 1 : Nat) : Int) := by omega
      have e146 : 146 * (t : Int) = ((146 * t : Nat) : Int) := by omega
      obtain ⟨J2, e2, f3, o3, V3, S3⟩ := X12_closure (u := u) (L := L) hn (A := 183) (len := 11680) (Or.inr ⟨Or.inl rfl, rfl⟩) wJ uJ (o := 146 * t) (by omega) (K := rst g t J) ⟨(h2.1 t ht).1, fun _ _ _ z => z, CL_sub⟩
      obtain ⟨m1, m2, m3, m4⟩ := cl_mg hg h2 ht f3 o3 V3 S3
      have f4 := f2.tr f3
      obtain ⟨w2, u2, -⟩ := hfrA J2 f4
      obtain ⟨r, J3, e3, f5, h5, g5, c5⟩ := X12_spreads (u := u) (L := L) hn hb w2 u2 m1 ht
      have hr : r = 0 ∨ r = 1 := by rcases c5 with z | z <;> omega
      have hm1 := mT_mono (g := g) (k := Sn (FIN g N F true)) m2
      have hm2 := mT_mono (g := g) (k := Sn (FIN g N F true)) g5
      have hmain : ∀ fl' : Int, fl' = (if r = 0 then fl else 1) → PAS g N F J0 J1 (t + 1) fl' J3 := fun fl' hfl' => by
        refine ⟨f4.tr f5, h5, by omega, ?_⟩
        rcases c5 with ⟨z1, z2, z3⟩ | ⟨z1, z2⟩
        · rw [if_pos z1] at hfl'
          rcases h4 with ⟨y1, y2⟩ | ⟨y1, y2⟩
          · left
            refine ⟨hfl'.trans y1, fun s hs => ?_⟩
            rw [z2]
            by_cases e : s = t
            · rw [e]; exact ⟨m4, fun p k a b => z3 p k a.1.1 a b⟩
            · obtain ⟨d1, d2⟩ := y2 s (by omega)
              refine ⟨by rw [m3 s e]; exact d1, fun p k a b t' hm y hy => ?_⟩
              rw [m3 s e] at a hy
              have := d2 p k a b t' hm y hy
              have ht' : t' < Sn (FIN g N F true) := by
                obtain ⟨t0, w1, w2, -⟩ := fin_go hg hb (s := s) (by omega) (((h2.1 s (by omega)).2.1 p k).mp a) b
                rw [hm] at w1
                have : t0 = t' := by omega
                rw [← this]; exact w2
              exact m2 t' ht' _ _ _ this
          · exact Or.inr ⟨hfl'.trans y1, by omega⟩
        · rw [if_neg (by omega)] at hfl'
          exact Or.inr ⟨hfl', by omega⟩
      refine ⟨(if r = 0 then fl else 1, J3), ?_, hmain _ rfl⟩
      dsimp only
      rcases hr with hr | hr
      · rw [if_pos hr]
        rcases hfl with z | z
        · simp (disch := omega) only [l_X12_merges_40, b_X12_merges_40, b_X12_merges_78, ↓dhi_M, ↓dhG_M_0, ↓dhG_M_1, ↓dhG_M_2, ↓dhG_M_3, ↓dhG_M_4, ↓dhG_M_5, ↓dhG_M_6, ↓dhG_M_7, ↓dhG_M_8, ↓dhg_M_9, ↓dhq_M_9, ↓dhG_M_10, ↓dhG_M_11, ↓dhG_M_12, ↓dhg_M_13, ↓dhq_M_13, ↓dhG_M_14, ↓dhg_M_15, ↓dhq_M_15, ↓dhG_M_16, ↓dhg_M_17, ↓dhq_M_17, ↓dhg_M_18, ↓dhq_M_18, ↓dhG_M_19, ↓dhG_M_20, ↓dhG_M_21, ↓dhG_M_22, ↓dhG_M_23, ↓dhG_M_24, ↓dhg_M_25, ↓dhq_M_25, ↓dhG_M_26, ↓dhG_M_27, ↓dhG_M_28, ↓dhg_M_29, ↓dhq_M_29, ↓dhG_M_30, ↓dhG_M_31, ↓dhg_M_32, ↓dhq_M_32, ↓dhg_M_33, ↓dhq_M_33, ↓dhg_M_34, ↓dhq_M_34, ↓dhg_M_35, ↓dhq_M_35, ↓dhG_M_36, ↓dhG_M_37, ↓dhg_M_38, ↓dhq_M_38, ↓dhg_M_39, ↓dhq_M_39, ↓dhG_M_40, ↓dhG_M_41, ↓dhG_M_42, ↓dhG_M_43, ↓dhg_M_44, ↓dhq_M_44, Option.bind_some, ↓nm_eq, ↓sm_inl, ↓sm_inr, ↓dzo_0, ↓dzo_1, ↓drg_ok, ↓if_pos, ↓if_neg, if_pos, if_neg, if_true, if_false, Int.toNat_natCast, rg_ok, e29, e146, ↓bnd e2, ↓bnd e3, hr, z, ek]
        · simp (disch := omega) only [l_X12_merges_40, b_X12_merges_40, b_X12_merges_73, b_X12_merges_78, ↓dhi_M, ↓dhG_M_0, ↓dhG_M_1, ↓dhG_M_2, ↓dhG_M_3, ↓dhG_M_4, ↓dhG_M_5, ↓dhG_M_6, ↓dhG_M_7, ↓dhG_M_8, ↓dhg_M_9, ↓dhq_M_9, ↓dhG_M_10, ↓dhG_M_11, ↓dhG_M_12, ↓dhg_M_13, ↓dhq_M_13, ↓dhG_M_14, ↓dhg_M_15, ↓dhq_M_15, ↓dhG_M_16, ↓dhg_M_17, ↓dhq_M_17, ↓dhg_M_18, ↓dhq_M_18, ↓dhG_M_19, ↓dhG_M_20, ↓dhG_M_21, ↓dhG_M_22, ↓dhG_M_23, ↓dhG_M_24, ↓dhg_M_25, ↓dhq_M_25, ↓dhG_M_26, ↓dhG_M_27, ↓dhG_M_28, ↓dhg_M_29, ↓dhq_M_29, ↓dhG_M_30, ↓dhG_M_31, ↓dhg_M_32, ↓dhq_M_32, ↓dhg_M_33, ↓dhq_M_33, ↓dhg_M_34, ↓dhq_M_34, ↓dhg_M_35, ↓dhq_M_35, ↓dhG_M_36, ↓dhG_M_37, ↓dhg_M_38, ↓dhq_M_38, ↓dhg_M_39, ↓dhq_M_39, ↓dhG_M_40, ↓dhG_M_41, ↓dhG_M_42, ↓dhG_M_43, ↓dhg_M_44, ↓dhq_M_44, Option.bind_some, ↓nm_eq, ↓sm_inl, ↓sm_inr, ↓dzo_0, ↓dzo_1, ↓drg_ok, ↓if_pos, ↓if_neg, if_pos, if_neg, if_true, if_false, Int.toNat_natCast, rg_ok, e29, e146, ↓bnd e2, ↓bnd e3, hr, z, ek]
      · rw [if_neg (by omega)]
        simp (disch := omega) only [l_X12_merges_40, b_X12_merges_40, b_X12_merges_73, b_X12_merges_78, ↓dhi_M, ↓dhG_M_0, ↓dhG_M_1, ↓dhG_M_2, ↓dhG_M_3, ↓dhG_M_4, ↓dhG_M_5, ↓dhG_M_6, ↓dhG_M_7, ↓dhG_M_8, ↓dhg_M_9, ↓dhq_M_9, ↓dhG_M_10, ↓dhG_M_11, ↓dhG_M_12, ↓dhg_M_13, ↓dhq_M_13, ↓dhG_M_14, ↓dhg_M_15, ↓dhq_M_15, ↓dhG_M_16, ↓dhg_M_17, ↓dhq_M_17, ↓dhg_M_18, ↓dhq_M_18, ↓dhG_M_19, ↓dhG_M_20, ↓dhG_M_21, ↓dhG_M_22, ↓dhG_M_23, ↓dhG_M_24, ↓dhg_M_25, ↓dhq_M_25, ↓dhG_M_26, ↓dhG_M_27, ↓dhG_M_28, ↓dhg_M_29, ↓dhq_M_29, ↓dhG_M_30, ↓dhG_M_31, ↓dhg_M_32, ↓dhq_M_32, ↓dhg_M_33, ↓dhq_M_33, ↓dhg_M_34, ↓dhq_M_34, ↓dhg_M_35, ↓dhq_M_35, ↓dhG_M_36, ↓dhG_M_37, ↓dhg_M_38, ↓dhq_M_38, ↓dhg_M_39, ↓dhq_M_39, ↓dhG_M_40, ↓dhG_M_41, ↓dhG_M_42, ↓dhG_M_43, ↓dhg_M_44, ↓dhq_M_44, Option.bind_some, ↓nm_eq, ↓sm_inl, ↓sm_inr, ↓dzo_0, ↓dzo_1, ↓drg_ok, ↓if_pos, ↓if_neg, if_pos, if_neg, if_true, if_false, Int.toNat_natCast, rg_ok, e29, e146, ↓bnd e2, ↓bnd e3, hr, ek]
    · rintro f ⟨fl, J⟩ h
      dsimp only at h ⊢
      obtain ⟨wJ, uJ, e29⟩ := hfrA J h.1
      refine ⟨fl, J, ?_, h⟩
      simp (disch := omega) only [l_X12_merges_40, b_X12_merges_40, b_X12_merges_85, ↓dhi_M, ↓dhG_M_0, ↓dhG_M_1, ↓dhG_M_2, ↓dhG_M_3, ↓dhG_M_4, ↓dhG_M_5, ↓dhG_M_6, ↓dhG_M_7, ↓dhG_M_8, ↓dhg_M_9, ↓dhq_M_9, ↓dhG_M_10, ↓dhG_M_11, ↓dhG_M_12, ↓dhg_M_13, ↓dhq_M_13, ↓dhG_M_14, ↓dhg_M_15, ↓dhq_M_15, ↓dhG_M_16, ↓dhg_M_17, ↓dhq_M_17, ↓dhg_M_18, ↓dhq_M_18, ↓dhG_M_19, ↓dhG_M_20, ↓dhG_M_21, ↓dhG_M_22, ↓dhG_M_23, ↓dhG_M_24, ↓dhg_M_25, ↓dhq_M_25, ↓dhG_M_26, ↓dhG_M_27, ↓dhG_M_28, ↓dhg_M_29, ↓dhq_M_29, ↓dhG_M_30, ↓dhG_M_31, ↓dhg_M_32, ↓dhq_M_32, ↓dhg_M_33, ↓dhq_M_33, ↓dhg_M_34, ↓dhq_M_34, ↓dhg_M_35, ↓dhq_M_35, ↓dhG_M_36, ↓dhG_M_37, ↓dhg_M_38, ↓dhq_M_38, ↓dhg_M_39, ↓dhq_M_39, ↓dhG_M_40, ↓dhG_M_41, ↓dhG_M_42, ↓dhG_M_43, ↓dhg_M_44, ↓dhq_M_44, Option.bind_some, ↓nm_eq, ↓sm_inl, ↓sm_inr, ↓dzo_0, ↓dzo_1, ↓drg_ok, ↓if_pos, ↓if_neg, if_pos, if_neg, if_true, if_false, Int.toNat_natCast, rg_ok, e29]
  exact key (Sn (FIN g N F true)) n 0 (0, J1) (by omega) (by omega) ⟨f1, h1, Nat.le_refl _, Or.inl ⟨rfl, fun t z => absurd z (by omega)⟩⟩
theorem X12_mloop (hn : 1000000000000000000000000000000 ≤ n) (hb : Sb (FIN g N F true) = false) {J0 : Nat → Nat → Int} (w : RX g N F J0) (hu : NU g J0) (q29 : J0 161 29 = (Sn (FIN g N F true) : Int)) (h0 : RVM g N F J0) :
    ∃ J, l_X12_merges_32 n n 161 1 (hp u J0 L) = some (hp u J L) ∧ Fr [183] J0 J ∧ RVM g N F J ∧ ∀ t, t < Sn (FIN g N F true) → DON g N F J t := by
  have hg := w.1.gr
  have h80 : Sn (FIN g N F true) ≤ 80 := (PB_bfi (N := N) (F := F) (b := true) hg 1920).2.1
  have key : zWL (fun f (s : Int × (Nat → Nat → Int)) => l_X12_merges_32 n f 161 s.1 (hp u s.2 L)) (fun s => 2 * (384000 - mT g (Sn (FIN g N F true)) s.2) + s.1.toNat)
      (fun s => Fr [183] J0 s.2 ∧ RVM g N F s.2 ∧ ((s.1 = 0 ∧ ∀ t, t < Sn (FIN g N F true) → DON g N F s.2 t) ∨ s.1 = 1))
      (fun res => ∃ J, res = some (hp u J L) ∧ Fr [183] J0 J ∧ RVM g N F J ∧ ∀ t, t < Sn (FIN g N F true) → DON g N F J t) := by
    refine zwl ?_
    rintro f ⟨fl, J⟩ ⟨f1, h1, h2⟩
    dsimp only at f1 h1 h2 ⊢
    rcases h2 with ⟨z1, z2⟩ | z1
    · left
      refine ⟨J, ?_, f1, h1, z2⟩
      simp (disch := omega) only [l_X12_merges_32, b_X12_merges_32, Option.bind_some, ↓nm_eq, ↓sm_inl, ↓sm_inr, ↓dzo_0, ↓dzo_1, ↓drg_ok, ↓if_pos, ↓if_neg, if_pos, if_neg, if_true, if_false, Int.toNat_natCast, rg_ok, z1]
    · right
      obtain ⟨fl', J', e, g1, g2, g3, g4⟩ := X12_mpass (u := u) (L := L) hn hb w hu q29 f1 h1 (l_X12_merges_32 n f)
      refine ⟨(fl', J'), ?_, ⟨g1, g2, g4.elim Or.inl (fun z => Or.inr z.1)⟩, ?_⟩
      · dsimp only
        rw [← e]
        simp (disch := omega) only [l_X12_merges_32, b_X12_merges_32, Option.bind_some, ↓nm_eq, ↓sm_inl, ↓sm_inr, ↓dzo_0, ↓dzo_1, ↓drg_ok, ↓if_pos, ↓if_neg, if_pos, if_neg, if_true, if_false, Int.toNat_natCast, rg_ok, z1]
      · dsimp only
        have l1 := mT_le (g := g) (k := Sn (FIN g N F true)) (J := J)
        have l2 := mT_le (g := g) (k := Sn (FIN g N F true)) (J := J')
        rcases g4 with ⟨y1, -⟩ | ⟨y1, y2⟩
        · rw [y1, z1]; omega
        · rw [y1, z1]; omega
  exact key (2 * 384000 + 1) n (1, J0) (by dsimp only; omega) (by omega) ⟨Fr.rf, h0, Or.inr rfl⟩
end SM_
