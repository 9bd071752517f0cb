/-! ===== the reference: closures, numbers ===== -/
section RN
variable {u : Nat} {n : Nat} {L : Nat → Nat → Int} {g : GT} {N : Nat → Prop} {F : Nat → Nat → Prop}
def CS (g : GT) (N : Nat → Prop) (F : Nat → Nat → Prop) (A o : Nat) (K : AS) (J0 J : Nat → Nat → Int) : Prop := Fr [A] J0 J ∧ (∀ x, x < o ∨ o + 146 ≤ x → J A x = J0 A x) ∧ CI g N F A (ar g o) K J
theorem X12_closure (hn : 1000000000000000000000000000000 ≤ n) {A len o : Nat} (hA : hA3 A len) {J0 : Nat → Nat → Int} (w : RX g N F J0) (hu : NU g J0) (ho : o + 146 ≤ len) {K : AS} (hI : CI g N F A (ar g o) K J0) :
    ∃ J', f_X12_closure n 161 A (o : Int) (hp u J0 L) = some (hp u J' L) ∧ Fr [A] J0 J' ∧ (∀ x, x < o ∨ o + 146 ≤ x → J' A x = J0 A x) ∧ VR g A (ar g o) J' ∧ SR g A (ar g o) J' = CL g N F K := by
  have hg := w.1.gr
  have h24 := hg.1
  have hAn := hA_ne hA
  have hfrA : ∀ J, Fr [A] J0 J → RX g N F J ∧ NU g J := fun J f => by
    have q61 : J 161 = J0 161 := f 161 (by simp; omega)
    exact ⟨w.fr f ⟨by rw [q61], by rw [q61]⟩ (by simp; omega), hu.fr (f 181 (by simp; omega)) (by rw [q61])⟩
  -- the items of one production
  have inn : ∀ (J1 : Nat → Nat → Int) (r5 : Nat → Nat → Int → Int → Int → gi_H → Option (Int × gi_H)) (p : Nat), p < Gn g → zLP (Gl g p) (fun f k (s : Int × (Nat → Nat → Int)) => l_X12_opensAll_22 n r5 f 161 A (o : Int) s.1 (p : Int) (k : Int) (hp u s.2 L))
      (fun k s => CS g N F A o K J0 s.2 ∧ ((s.1 = 0 ∧ s.2 = J1 ∧ ∀ p' k', (p' < p ∨ (p' = p ∧ k' < k)) → p' < Gn g → CAt g N F A (ar g o) J1 p' k') ∨ (s.1 = 1 ∧ mR g A (ar g o) J1 < mR g A (ar g o) s.2)))
      (fun res => ∃ (fl : Int) (J : Nat → Nat → Int), res = r5 161 A (o : Int) fl ((p + 1 : Nat) : Int) (hp u J L) ∧ CS g N F A o K J0 J ∧ ((fl = 0 ∧ J = J1 ∧ ∀ p' k', p' < p + 1 → p' < Gn g → CAt g N F A (ar g o) J1 p' k') ∨ (fl = 1 ∧ mR g A (ar g o) J1 < mR g A (ar g o) J))) := by
    intro J1 r5 p hp1
    have h5 := hg.2.2.2.1 p
    have hne : p ≠ 24 := by omega
    refine zlp ?_ ?_
    · rintro f k ⟨fl, J⟩ hk ⟨⟨f1, f2, f3⟩, f4⟩
      dsimp only at f1 f2 f3 f4 ⊢
      right
      obtain ⟨wJ, uJ⟩ := hfrA J f1
      have esz := re_size (u := u) (L := L) wJ.1 hp1
      obtain ⟨r, J', e, a1, a2, a3, a4, a5⟩ := X12_opens (u := u) (L := L) hn hA wJ uJ ho f3 (Or.inl hp1) (show k < Gl (gX g) p by rw [gX_l hne]; exact hk)
      have ek : (k : Int) + 1 = ((k + 1 : Nat) : Int) := by omega
      have hfl : fl = 0 ∨ fl = 1 := by rcases f4 with z | z <;> omega
      have hr : r = 0 ∨ r = 1 := by rcases a5 with z | z <;> omega
      refine ⟨(if r = 0 then fl else 1, J'), ?_, ⟨f1.tr a1, fun x hx => (a2 x hx).trans (f2 x hx), a3⟩, ?_⟩
      · dsimp only
        rcases hr with hr | hr
        · rw [if_pos hr]
          rcases hfl with z | z
          · simp (disch := omega) only [l_X12_opensAll_22, b_X12_opensAll_22, b_X12_opensAll_50, b_X12_opensAll_55, ↓dhi_M, ↓dhG_M_0, ↓dhG_M_1, ↓dhG_M_2, ↓dhG_M_3, ↓dhG_M_4, ↓dhG_M_5, ↓dhG_M_6, ↓dhG_M_7, ↓dhG_M_8, ↓dhg_M_9, ↓dhq_M_9, ↓dhG_M_10, ↓dhG_M_11, ↓dhG_M_12, ↓dhg_M_13, ↓dhq_M_13, ↓dhG_M_14, ↓dhg_M_15, ↓dhq_M_15, ↓dhG_M_16, ↓dhg_M_17, ↓dhq_M_17, ↓dhg_M_18, ↓dhq_M_18, ↓dhG_M_19, ↓dhG_M_20, ↓dhG_M_21, ↓dhG_M_22, ↓dhG_M_23, ↓dhG_M_24, ↓dhg_M_25, ↓dhq_M_25, ↓dhG_M_26, ↓dhG_M_27, ↓dhG_M_28, ↓dhg_M_29, ↓dhq_M_29, ↓dhG_M_30, ↓dhG_M_31, ↓dhg_M_32, ↓dhq_M_32, ↓dhg_M_33, ↓dhq_M_33, ↓dhg_M_34, ↓dhq_M_34, ↓dhg_M_35, ↓dhq_M_35, ↓dhG_M_36, ↓dhG_M_37, ↓dhg_M_38, ↓dhq_M_38, ↓dhg_M_39, ↓dhq_M_39, ↓dhG_M_40, ↓dhG_M_41, ↓dhG_M_42, ↓dhG_M_43, ↓dhg_M_44, ↓dhq_M_44, Option.bind_some, ↓nm_eq, ↓sm_inl, ↓sm_inr, ↓dzo_0, ↓dzo_1, ↓drg_ok, ↓if_pos, ↓if_neg, if_pos, if_neg, if_true, if_false, Int.toNat_natCast, rg_ok, ↓bnd esz, ↓bnd e, hr, z, ek]
          · simp (disch := omega) only [l_X12_opensAll_22, b_X12_opensAll_22, b_X12_opensAll_50, b_X12_opensAll_55, ↓dhi_M, ↓dhG_M_0, ↓dhG_M_1, ↓dhG_M_2, ↓dhG_M_3, ↓dhG_M_4, ↓dhG_M_5, ↓dhG_M_6, ↓dhG_M_7, ↓dhG_M_8, ↓dhg_M_9, ↓dhq_M_9, ↓dhG_M_10, ↓dhG_M_11, ↓dhG_M_12, ↓dhg_M_13, ↓dhq_M_13, ↓dhG_M_14, ↓dhg_M_15, ↓dhq_M_15, ↓dhG_M_16, ↓dhg_M_17, ↓dhq_M_17, ↓dhg_M_18, ↓dhq_M_18, ↓dhG_M_19, ↓dhG_M_20, ↓dhG_M_21, ↓dhG_M_22, ↓dhG_M_23, ↓dhG_M_24, ↓dhg_M_25, ↓dhq_M_25, ↓dhG_M_26, ↓dhG_M_27, ↓dhG_M_28, ↓dhg_M_29, ↓dhq_M_29, ↓dhG_M_30, ↓dhG_M_31, ↓dhg_M_32, ↓dhq_M_32, ↓dhg_M_33, ↓dhq_M_33, ↓dhg_M_34, ↓dhq_M_34, ↓dhg_M_35, ↓dhq_M_35, ↓dhG_M_36, ↓dhG_M_37, ↓dhg_M_38, ↓dhq_M_38, ↓dhg_M_39, ↓dhq_M_39, ↓dhG_M_40, ↓dhG_M_41, ↓dhG_M_42, ↓dhG_M_43, ↓dhg_M_44, ↓dhq_M_44, Option.bind_some, ↓nm_eq, ↓sm_inl, ↓sm_inr, ↓dzo_0, ↓dzo_1, ↓drg_ok, ↓if_pos, ↓if_neg, if_pos, if_neg, if_true, if_false, Int.toNat_natCast, rg_ok, ↓bnd esz, ↓bnd e, hr, z, ek]
        · rw [if_neg (by omega)]
          simp (disch := omega) only [l_X12_opensAll_22, b_X12_opensAll_22, b_X12_opensAll_50, b_X12_opensAll_55, ↓dhi_M, ↓dhG_M_0, ↓dhG_M_1, ↓dhG_M_2, ↓dhG_M_3, ↓dhG_M_4, ↓dhG_M_5, ↓dhG_M_6, ↓dhG_M_7, ↓dhG_M_8, ↓dhg_M_9, ↓dhq_M_9, ↓dhG_M_10, ↓dhG_M_11, ↓dhG_M_12, ↓dhg_M_13, ↓dhq_M_13, ↓dhG_M_14, ↓dhg_M_15, ↓dhq_M_15, ↓dhG_M_16, ↓dhg_M_17, ↓dhq_M_17, ↓dhg_M_18, ↓dhq_M_18, ↓dhG_M_19, ↓dhG_M_20, ↓dhG_M_21, ↓dhG_M_22, ↓dhG_M_23, ↓dhG_M_24, ↓dhg_M_25, ↓dhq_M_25, ↓dhG_M_26, ↓dhG_M_27, ↓dhG_M_28, ↓dhg_M_29, ↓dhq_M_29, ↓dhG_M_30, ↓dhG_M_31, ↓dhg_M_32, ↓dhq_M_32, ↓dhg_M_33, ↓dhq_M_33, ↓dhg_M_34, ↓dhq_M_34, ↓dhg_M_35, ↓dhq_M_35, ↓dhG_M_36, ↓dhG_M_37, ↓dhg_M_38, ↓dhq_M_38, ↓dhg_M_39, ↓dhq_M_39, ↓dhG_M_40, ↓dhG_M_41, ↓dhG_M_42, ↓dhG_M_43, ↓dhg_M_44, ↓dhq_M_44, Option.bind_some, ↓nm_eq, ↓sm_inl, ↓sm_inr, ↓dzo_0, ↓dzo_1, ↓drg_ok, ↓if_pos, ↓if_neg, if_pos, if_neg, if_true, if_false, Int.toNat_natCast, rg_ok, ↓bnd esz, ↓bnd e, hr, ek]
      · dsimp only
        rcases a5 with ⟨z1, z2, z3⟩ | ⟨z1, z2⟩
        · rw [if_pos z1, z2]
          rcases f4 with ⟨y1, y2, y3⟩ | y
          · left
            refine ⟨y1, y2, fun p' k' hh hp' => ?_⟩
            by_cases c : p' = p ∧ k' = k
            · rw [c.1, c.2, ← y2]; exact z3
            · exact y3 p' k' (by omega) hp'
          · exact Or.inr y
        · rw [if_neg (by omega)]
          right
          refine ⟨rfl, ?_⟩
          rcases f4 with ⟨y1, y2, y3⟩ | ⟨y1, y2⟩
          · rw [← y2]; exact z2
          · exact Nat.lt_trans y2 z2
    · rintro f ⟨fl, J⟩ ⟨⟨f1, f2, f3⟩, f4⟩
      dsimp only at f1 f2 f3 f4 ⊢
      obtain ⟨wJ, uJ⟩ := hfrA J f1
      have esz := re_size (u := u) (L := L) wJ.1 hp1
      refine ⟨fl, J, ?_, ⟨f1, f2, f3⟩, ?_⟩
      · simp (disch := omega) only [l_X12_opensAll_22, b_X12_opensAll_22, b_X12_opensAll_62, ↓dhi_M, ↓dhG_M_0, ↓dhG_M_1, ↓dhG_M_2, ↓dhG_M_3, ↓dhG_M_4, ↓dhG_M_5, ↓dhG_M_6, ↓dhG_M_7, ↓dhG_M_8, ↓dhg_M_9, ↓dhq_M_9, ↓dhG_M_10, ↓dhG_M_11, ↓dhG_M_12, ↓dhg_M_13, ↓dhq_M_13, ↓dhG_M_14, ↓dhg_M_15, ↓dhq_M_15, ↓dhG_M_16, ↓dhg_M_17, ↓dhq_M_17, ↓dhg_M_18, ↓dhq_M_18, ↓dhG_M_19, ↓dhG_M_20, ↓dhG_M_21, ↓dhG_M_22, ↓dhG_M_23, ↓dhG_M_24, ↓dhg_M_25, ↓dhq_M_25, ↓dhG_M_26, ↓dhG_M_27, ↓dhG_M_28, ↓dhg_M_29, ↓dhq_M_29, ↓dhG_M_30, ↓dhG_M_31, ↓dhg_M_32, ↓dhq_M_32, ↓dhg_M_33, ↓dhq_M_33, ↓dhg_M_34, ↓dhq_M_34, ↓dhg_M_35, ↓dhq_M_35, ↓dhG_M_36, ↓dhG_M_37, ↓dhg_M_38, ↓dhq_M_38, ↓dhg_M_39, ↓dhq_M_39, ↓dhG_M_40, ↓dhG_M_41, ↓dhG_M_42, ↓dhG_M_43, ↓dhg_M_44, ↓dhq_M_44, Option.bind_some, ↓nm_eq, ↓sm_inl, ↓sm_inr, ↓dzo_0, ↓dzo_1, ↓drg_ok, ↓if_pos, ↓if_neg, if_pos, if_neg, if_true, if_false, Int.toNat_natCast, rg_ok, ↓bnd esz]
        rw [show (p : Int) + 1 = ((p + 1 : Nat) : Int) by omega]
      · rcases f4 with ⟨y1, y2, y3⟩ | y
        · left
          refine ⟨y1, y2, fun p' k' hh hp' => ?_⟩
          by_cases c : p' = p ∧ Gl g p ≤ k'
          · intro _ hk'
            rw [c.1, gX_l hne] at hk'; omega
          · exact y3 p' k' (by omega) hp'
        · exact Or.inr y
  -- a turn
  have turn : ∀ (J1 : Nat → Nat → Int), CS g N F A o K J0 J1 → ∃ (fl : Int) (J : Nat → Nat → Int), f_X12_opensAll n 161 A (o : Int) (hp u J1 L) = some (fl, hp u J L) ∧ CS g N F A o K J0 J ∧ ((fl = 0 ∧ J = J1 ∧ cA g N F (SR g A (ar g o) J1)) ∨ (fl = 1 ∧ mR g A (ar g o) J1 < mR g A (ar g o) J)) := by
    intro J1 hC1
    have key : zLP (Gn g) (fun f p (s : Int × (Nat → Nat → Int)) => l_X12_opensAll_5 n f 161 A (o : Int) s.1 (p : Int) (hp u s.2 L))
        (fun p s => CS g N F A o K J0 s.2 ∧ ((s.1 = 0 ∧ s.2 = J1 ∧ ∀ p' k', p' < p → p' < Gn g → CAt g N F A (ar g o) J1 p' k') ∨ (s.1 = 1 ∧ mR g A (ar g o) J1 < mR g A (ar g o) s.2)))
        (fun res => ∃ (fl : Int) (J : Nat → Nat → Int), res = some (fl, hp u J L) ∧ CS g N F A o K J0 J ∧ ((fl = 0 ∧ J = J1 ∧ cA g N F (SR g A (ar g o) J1)) ∨ (fl = 1 ∧ mR g A (ar g o) J1 < mR g A (ar g o) J))) := by
      refine zlp ?_ ?_
      · rintro f p ⟨fl, J⟩ hp1 ⟨f1, f2⟩
        dsimp only at f1 f2 ⊢
        right
        obtain ⟨wJ, uJ⟩ := hfrA J f1.1
        have h9 := re_w wJ.1
        have hnn := re_n wJ.1
        obtain ⟨fl', J', e, q1, q2⟩ := inn J1 (l_X12_opensAll_5 n f) p hp1 (Gl g p) n 0 (fl, J) (by omega) (by have := hg.2.2.2.1 p; omega) ⟨f1, f2.elim (fun ⟨a, b, c⟩ => Or.inl ⟨a, b, fun p' k' hh hp' => c p' k' (by omega) hp'⟩) Or.inr⟩
        have e' : l_X12_opensAll_22 n (l_X12_opensAll_5 n f) n 161 A (o : Int) fl (p : Int) 0 (hp u J L) = l_X12_opensAll_5 n f 161 A (o : Int) fl' ((p + 1 : Nat) : Int) (hp u J' L) := e
        refine ⟨(fl', J'), ?_, q1, q2⟩
        dsimp only
        rw [← e']
        simp (disch := omega) only [l_X12_opensAll_5, b_X12_opensAll_5, ↓dhi_M, ↓dhG_M_0, ↓dhG_M_1, ↓dhG_M_2, ↓dhG_M_3, ↓dhG_M_4, ↓dhG_M_5, ↓dhG_M_6, ↓dhG_M_7, ↓dhG_M_8, ↓dhg_M_9, ↓dhq_M_9, ↓dhG_M_10, ↓dhG_M_11, ↓dhG_M_12, ↓dhg_M_13, ↓dhq_M_13, ↓dhG_M_14, ↓dhg_M_15, ↓dhq_M_15, ↓dhG_M_16, ↓dhg_M_17, ↓dhq_M_17, ↓dhg_M_18, ↓dhq_M_18, ↓dhG_M_19, ↓dhG_M_20, ↓dhG_M_21, ↓dhG_M_22, ↓dhG_M_23, ↓dhG_M_24, ↓dhg_M_25, ↓dhq_M_25, ↓dhG_M_26, ↓dhG_M_27, ↓dhG_M_28, ↓dhg_M_29, ↓dhq_M_29, ↓dhG_M_30, ↓dhG_M_31, ↓dhg_M_32, ↓dhq_M_32, ↓dhg_M_33, ↓dhq_M_33, ↓dhg_M_34, ↓dhq_M_34, ↓dhg_M_35, ↓dhq_M_35, ↓dhG_M_36, ↓dhG_M_37, ↓dhg_M_38, ↓dhq_M_38, ↓dhg_M_39, ↓dhq_M_39, ↓dhG_M_40, ↓dhG_M_41, ↓dhG_M_42, ↓dhG_M_43, ↓dhg_M_44, ↓dhq_M_44, ↓dha_165, ↓dhs_165, ↓dhl_165, Option.bind_some, ↓nm_eq, ↓sm_inl, ↓sm_inr, ↓dzo_0, ↓dzo_1, ↓drg_ok, ↓if_pos, ↓if_neg, if_pos, if_neg, if_true, if_false, Int.toNat_natCast, rg_ok, h9.1, hnn]
      · rintro f ⟨fl, J⟩ ⟨⟨f1, f2, f3⟩, f4⟩
        dsimp only at f1 f2 f3 f4 ⊢
        obtain ⟨wJ, uJ⟩ := hfrA J f1
        have h9 := re_w wJ.1
        have hnn := re_n wJ.1
        obtain ⟨r, J', e, a1, a2, a3, a4, a5⟩ := X12_opens (u := u) (L := L) hn hA wJ uJ ho f3 (p := 24) (k := 0) (Or.inr rfl) (by rw [gX_l24]; omega)
        have e' : f_X12_opens n 161 A (o : Int) 24 0 (hp u J L) = some (r, hp u J' L) := e
        have hfl : fl = 0 ∨ fl = 1 := by rcases f4 with z | z <;> omega
        have hr : r = 0 ∨ r = 1 := by rcases a5 with z | z <;> omega
        refine ⟨if r = 0 then fl else 1, J', ?_, ⟨f1.tr a1, fun x hx => (a2 x hx).trans (f2 x hx), a3⟩, ?_⟩
        · rcases hr with hr | hr
          · rw [if_pos hr]
            rcases hfl with z | z
            · simp (disch := omega) only [l_X12_opensAll_5, b_X12_opensAll_5, b_X12_opensAll_68, b_X12_opensAll_84, ↓dhi_M, ↓dhG_M_0, ↓dhG_M_1, ↓dhG_M_2, ↓dhG_M_3, ↓dhG_M_4, ↓dhG_M_5, ↓dhG_M_6, ↓dhG_M_7, ↓dhG_M_8, ↓dhg_M_9, ↓dhq_M_9, ↓dhG_M_10, ↓dhG_M_11, ↓dhG_M_12, ↓dhg_M_13, ↓dhq_M_13, ↓dhG_M_14, ↓dhg_M_15, ↓dhq_M_15, ↓dhG_M_16, ↓dhg_M_17, ↓dhq_M_17, ↓dhg_M_18, ↓dhq_M_18, ↓dhG_M_19, ↓dhG_M_20, ↓dhG_M_21, ↓dhG_M_22, ↓dhG_M_23, ↓dhG_M_24, ↓dhg_M_25, ↓dhq_M_25, ↓dhG_M_26, ↓dhG_M_27, ↓dhG_M_28, ↓dhg_M_29, ↓dhq_M_29, ↓dhG_M_30, ↓dhG_M_31, ↓dhg_M_32, ↓dhq_M_32, ↓dhg_M_33, ↓dhq_M_33, ↓dhg_M_34, ↓dhq_M_34, ↓dhg_M_35, ↓dhq_M_35, ↓dhG_M_36, ↓dhG_M_37, ↓dhg_M_38, ↓dhq_M_38, ↓dhg_M_39, ↓dhq_M_39, ↓dhG_M_40, ↓dhG_M_41, ↓dhG_M_42, ↓dhG_M_43, ↓dhg_M_44, ↓dhq_M_44, ↓dha_165, ↓dhs_165, ↓dhl_165, Option.bind_some, ↓nm_eq, ↓sm_inl, ↓sm_inr, ↓dzo_0, ↓dzo_1, ↓drg_ok, ↓if_pos, ↓if_neg, if_pos, if_neg, if_true, if_false, Int.toNat_natCast, rg_ok, ↓bnd e', h9.1, hnn, hr, z]
            · simp (disch := omega) only [l_X12_opensAll_5, b_X12_opensAll_5, b_X12_opensAll_68, b_X12_opensAll_84, ↓dhi_M, ↓dhG_M_0, ↓dhG_M_1, ↓dhG_M_2, ↓dhG_M_3, ↓dhG_M_4, ↓dhG_M_5, ↓dhG_M_6, ↓dhG_M_7, ↓dhG_M_8, ↓dhg_M_9, ↓dhq_M_9, ↓dhG_M_10, ↓dhG_M_11, ↓dhG_M_12, ↓dhg_M_13, ↓dhq_M_13, ↓dhG_M_14, ↓dhg_M_15, ↓dhq_M_15, ↓dhG_M_16, ↓dhg_M_17, ↓dhq_M_17, ↓dhg_M_18, ↓dhq_M_18, ↓dhG_M_19, ↓dhG_M_20, ↓dhG_M_21, ↓dhG_M_22, ↓dhG_M_23, ↓dhG_M_24, ↓dhg_M_25, ↓dhq_M_25, ↓dhG_M_26, ↓dhG_M_27, ↓dhG_M_28, ↓dhg_M_29, ↓dhq_M_29, ↓dhG_M_30, ↓dhG_M_31, ↓dhg_M_32, ↓dhq_M_32, ↓dhg_M_33, ↓dhq_M_33, ↓dhg_M_34, ↓dhq_M_34, ↓dhg_M_35, ↓dhq_M_35, ↓dhG_M_36, ↓dhG_M_37, ↓dhg_M_38, ↓dhq_M_38, ↓dhg_M_39, ↓dhq_M_39, ↓dhG_M_40, ↓dhG_M_41, ↓dhG_M_42, ↓dhG_M_43, ↓dhg_M_44, ↓dhq_M_44, ↓dha_165, ↓dhs_165, ↓dhl_165, Option.bind_some, ↓nm_eq, ↓sm_inl, ↓sm_inr, ↓dzo_0, ↓dzo_1, ↓drg_ok, ↓if_pos, ↓if_neg, if_pos, if_neg, if_true, if_false, Int.toNat_natCast, rg_ok, ↓bnd e', h9.1, hnn, hr, z]
          · rw [if_neg (by omega)]
            simp (disch := omega) only [l_X12_opensAll_5, b_X12_opensAll_5, b_X12_opensAll_68, b_X12_opensAll_84, ↓dhi_M, ↓dhG_M_0, ↓dhG_M_1, ↓dhG_M_2, ↓dhG_M_3, ↓dhG_M_4, ↓dhG_M_5, ↓dhG_M_6, ↓dhG_M_7, ↓dhG_M_8, ↓dhg_M_9, ↓dhq_M_9, ↓dhG_M_10, ↓dhG_M_11, ↓dhG_M_12, ↓dhg_M_13, ↓dhq_M_13, ↓dhG_M_14, ↓dhg_M_15, ↓dhq_M_15, ↓dhG_M_16, ↓dhg_M_17, ↓dhq_M_17, ↓dhg_M_18, ↓dhq_M_18, ↓dhG_M_19, ↓dhG_M_20, ↓dhG_M_21, ↓dhG_M_22, ↓dhG_M_23, ↓dhG_M_24, ↓dhg_M_25, ↓dhq_M_25, ↓dhG_M_26, ↓dhG_M_27, ↓dhG_M_28, ↓dhg_M_29, ↓dhq_M_29, ↓dhG_M_30, ↓dhG_M_31, ↓dhg_M_32, ↓dhq_M_32, ↓dhg_M_33, ↓dhq_M_33, ↓dhg_M_34, ↓dhq_M_34, ↓dhg_M_35, ↓dhq_M_35, ↓dhG_M_36, ↓dhG_M_37, ↓dhg_M_38, ↓dhq_M_38, ↓dhg_M_39, ↓dhq_M_39, ↓dhG_M_40, ↓dhG_M_41, ↓dhG_M_42, ↓dhG_M_43, ↓dhg_M_44, ↓dhq_M_44, ↓dha_165, ↓dhs_165, ↓dhl_165, Option.bind_some, ↓nm_eq, ↓sm_inl, ↓sm_inr, ↓dzo_0, ↓dzo_1, ↓drg_ok, ↓if_pos, ↓if_neg, if_pos, if_neg, if_true, if_false, Int.toNat_natCast, rg_ok, ↓bnd e', h9.1, hnn, hr]
        · rcases a5 with ⟨z1, z2, z3⟩ | ⟨z1, z2⟩
          · rw [if_pos z1, z2]
            rcases f4 with ⟨y1, y2, y3⟩ | y
            · left
              refine ⟨y1, y2, cA_of (fun p k => ?_)⟩
              intro h9'
              by_cases e24 : p = 24
              · subst e24
                intro hk
                rw [gX_l24] at hk
                have : k = 0 := by omega
                subst this
                rw [y2] at z3
                exact z3 h9' (by rw [gX_l24]; omega)
              · have hp' : p < Gn g := h9'.1.1.elim id (fun z => absurd z e24)
                exact y3 p k hp' hp' h9'
            · exact Or.inr y
          · rw [if_neg (by omega)]
            right
            refine ⟨rfl, ?_⟩
            rcases f4 with ⟨y1, y2, y3⟩ | ⟨y1, y2⟩
            · rw [← y2]; exact z2
            · exact Nat.lt_trans y2 z2
    exact key (Gn g) n 0 (0, J1) (by omega) (by omega) ⟨hC1, Or.inl ⟨rfl, rfl, fun p' k' h => absurd h (by omega)⟩⟩
  suffices key : zWL (fun f (s : Int × (Nat → Nat → Int)) => l_X12_closure_2 n f 161 A (o : Int) s.1 (hp u s.2 L)) (fun s => 2 * (4801 - mR g A (ar g o) s.2) + s.1.toNat)
      (fun s => CS g N F A o K J0 s.2 ∧ (s.1 = 1 ∨ (s.1 = 0 ∧ cA g N F (SR g A (ar g o) s.2))))
      (fun res => ∃ J', res = some (hp u J' L) ∧ Fr [A] J0 J' ∧ (∀ x, x < o ∨ o + 146 ≤ x → J' A x = J0 A x) ∧ VR g A (ar g o) J' ∧ SR g A (ar g o) J' = CL g N F K) by
    exact key 9603 n (1, J0) (by dsimp only; omega) (by omega) ⟨⟨Fr.rf, fun _ _ => rfl, hI⟩, Or.inl rfl⟩
  refine zwl ?_
  rintro f ⟨fl, J⟩ ⟨f1, f2⟩
  dsimp only at f1 f2 ⊢
  rcases f2 with z | ⟨z1, z2⟩
  · right
    obtain ⟨fl', J', e, q1, q2⟩ := turn J f1
    have hle := mR_le (g := g) (A := A) (ad := ar g o) (J := J)
    have hle' := mR_le (g := g) (A := A) (ad := ar g o) (J := J')
    refine ⟨(fl', J'), ?_, ⟨q1, ?_⟩, ?_⟩
    · simp (disch := omega) only [l_X12_closure_2, b_X12_closure_2, ↓dhi_M, ↓dhG_M_0, ↓dhG_M_1, ↓dhG_M_2, ↓dhG_M_3, ↓dhG_M_4, ↓dhG_M_5, ↓dhG_M_6, ↓dhG_M_7, ↓dhG_M_8, ↓dhg_M_9, ↓dhq_M_9, ↓dhG_M_10, ↓dhG_M_11, ↓dhG_M_12, ↓dhg_M_13, ↓dhq_M_13, ↓dhG_M_14, ↓dhg_M_15, ↓dhq_M_15, ↓dhG_M_16, ↓dhg_M_17, ↓dhq_M_17, ↓dhg_M_18, ↓dhq_M_18, ↓dhG_M_19, ↓dhG_M_20, ↓dhG_M_21, ↓dhG_M_22, ↓dhG_M_23, ↓dhG_M_24, ↓dhg_M_25, ↓dhq_M_25, ↓dhG_M_26, ↓dhG_M_27, ↓dhG_M_28, ↓dhg_M_29, ↓dhq_M_29, ↓dhG_M_30, ↓dhG_M_31, ↓dhg_M_32, ↓dhq_M_32, ↓dhg_M_33, ↓dhq_M_33, ↓dhg_M_34, ↓dhq_M_34, ↓dhg_M_35, ↓dhq_M_35, ↓dhG_M_36, ↓dhG_M_37, ↓dhg_M_38, ↓dhq_M_38, ↓dhg_M_39, ↓dhq_M_39, ↓dhG_M_40, ↓dhG_M_41, ↓dhG_M_42, ↓dhG_M_43, ↓dhg_M_44, ↓dhq_M_44, Option.bind_some, ↓nm_eq, ↓sm_inl, ↓sm_inr, ↓dzo_0, ↓dzo_1, ↓drg_ok, ↓if_pos, ↓if_neg, if_pos, if_neg, if_true, if_false, Int.toNat_natCast, rg_ok, ↓bnd e, z]
    · dsimp only
      rcases q2 with ⟨y1, y2, y3⟩ | ⟨y1, y2⟩
      · right; rw [y2]; exact ⟨y1, y3⟩
      · exact Or.inl y1
    · dsimp only
      rcases q2 with ⟨y1, y2, y3⟩ | ⟨y1, y2⟩
      · rw [y1, y2, z]; omega
      · rw [y1, z]; omega
  · left
    refine ⟨J, ?_, f1.1, f1.2.1, f1.2.2.1, CL_eq f1.2.2.2.1 f1.2.2.2.2 z2⟩
    simp (disch := omega) only [l_X12_closure_2, b_X12_closure_2, Option.bind_some, ↓nm_eq, ↓sm_inl, ↓sm_inr, ↓dzo_0, ↓dzo_1, ↓drg_ok, ↓if_pos, ↓if_neg, if_pos, if_neg, if_true, if_false, Int.toNat_natCast, rg_ok, z1]
theorem X12_numbers (hn : 1000000000000000000000000000000 ≤ n) {J0 : Nat → Nat → Int} (w : RE g J0) :
    ∃ J', f_X12_numbers n 161 (hp u J0 L) = some (hp u J' L) ∧ Fr [161, 181] J0 J' ∧ (∀ k, k ≠ 25 → J' 161 k = J0 161 k) ∧ NU g J' := by
  have hg := w.gr
  have h24 := hg.1
  suffices key : zLP (Gn g) (fun f p (J : Nat → Nat → Int) => l_X12_numbers_7 n f 161 (p : Int) (hp u J L)) (fun p J => Fr [161, 181] J0 J ∧ (∀ k, k ≠ 25 → J 161 k = J0 161 k) ∧ J 161 25 = (frm g p : Int) ∧ ∀ q, q < p → J 181 q = (frm g q : Int))
      (fun res => ∃ J', res = some (hp u J' L) ∧ Fr [161, 181] J0 J' ∧ (∀ k, k ≠ 25 → J' 161 k = J0 161 k) ∧ NU g J') by
    obtain ⟨J', e, q⟩ := key (Gn g) n 0 (gx_u J0 161 25 0) (by omega) (by omega) ⟨Fr.rf.wr (by simp), fun k hk => gu_at_ne hk, gu_same _ _ _ _, fun q hq => absurd hq (by omega)⟩
    refine ⟨J', ?_, q⟩
    rw [← e]
    simp (disch := omega) only [f_X12_numbers, ↓dhi_M, ↓dhG_M_0, ↓dhG_M_1, ↓dhG_M_2, ↓dhG_M_3, ↓dhG_M_4, ↓dhG_M_5, ↓dhG_M_6, ↓dhG_M_7, ↓dhG_M_8, ↓dhg_M_9, ↓dhq_M_9, ↓dhG_M_10, ↓dhG_M_11, ↓dhG_M_12, ↓dhg_M_13, ↓dhq_M_13, ↓dhG_M_14, ↓dhg_M_15, ↓dhq_M_15, ↓dhG_M_16, ↓dhg_M_17, ↓dhq_M_17, ↓dhg_M_18, ↓dhq_M_18, ↓dhG_M_19, ↓dhG_M_20, ↓dhG_M_21, ↓dhG_M_22, ↓dhG_M_23, ↓dhG_M_24, ↓dhg_M_25, ↓dhq_M_25, ↓dhG_M_26, ↓dhG_M_27, ↓dhG_M_28, ↓dhg_M_29, ↓dhq_M_29, ↓dhG_M_30, ↓dhG_M_31, ↓dhg_M_32, ↓dhq_M_32, ↓dhg_M_33, ↓dhq_M_33, ↓dhg_M_34, ↓dhq_M_34, ↓dhg_M_35, ↓dhq_M_35, ↓dhG_M_36, ↓dhG_M_37, ↓dhg_M_38, ↓dhq_M_38, ↓dhg_M_39, ↓dhq_M_39, ↓dhG_M_40, ↓dhG_M_41, ↓dhG_M_42, ↓dhG_M_43, ↓dhg_M_44, ↓dhq_M_44, Option.bind_some, ↓nm_eq, ↓sm_inl, ↓sm_inr, ↓dzo_0, ↓dzo_1, ↓drg_ok, ↓if_pos, ↓if_neg, if_pos, if_neg, if_true, if_false, Int.toNat_natCast, rg_ok]
    rfl
  refine zlp ?_ ?_
  · rintro f p J hp1 ⟨f1, f2, f3, f4⟩
    right
    have wJ : RE g J := w.fr f1 (f2 9 (by decide)) (by decide)
    have h9 := re_w wJ
    have hnn := re_n wJ
    have w1 : RE g (gx_u J 181 p (frm g p : Int)) := wJ.fr (l := [181]) (Fr.rf.wr (by simp)) (by rw [gu_ne (by decide)]) (by decide)
    have esz := re_size (u := u) (L := L) w1 hp1
    have ek : (p : Int) + 1 = ((p + 1 : Nat) : Int) := by omega
    have e25 : gx_u J 181 p (frm g p : Int) 161 25 = (frm g p : Int) := by rw [gu_ne (by decide)]; exact f3
    have hp24 : p < 26 := by omega
    refine ⟨gx_u (gx_u J 181 p (frm g p : Int)) 161 25 ((frm g p : Int) + ((Gl g p : Int) + 1)), ?_, (f1.wr (by simp)).wr (by simp), fun k hk => by rw [gu_at_ne hk, gu_ne (by decide)]; exact f2 k hk, ?_, fun q hq => ?_⟩
    · simp (disch := omega) only [l_X12_numbers_7, b_X12_numbers_7, ↓dhi_M, ↓dhG_M_0, ↓dhG_M_1, ↓dhG_M_2, ↓dhG_M_3, ↓dhG_M_4, ↓dhG_M_5, ↓dhG_M_6, ↓dhG_M_7, ↓dhG_M_8, ↓dhg_M_9, ↓dhq_M_9, ↓dhG_M_10, ↓dhG_M_11, ↓dhG_M_12, ↓dhg_M_13, ↓dhq_M_13, ↓dhG_M_14, ↓dhg_M_15, ↓dhq_M_15, ↓dhG_M_16, ↓dhg_M_17, ↓dhq_M_17, ↓dhg_M_18, ↓dhq_M_18, ↓dhG_M_19, ↓dhG_M_20, ↓dhG_M_21, ↓dhG_M_22, ↓dhG_M_23, ↓dhG_M_24, ↓dhg_M_25, ↓dhq_M_25, ↓dhG_M_26, ↓dhG_M_27, ↓dhG_M_28, ↓dhg_M_29, ↓dhq_M_29, ↓dhG_M_30, ↓dhG_M_31, ↓dhg_M_32, ↓dhq_M_32, ↓dhg_M_33, ↓dhq_M_33, ↓dhg_M_34, ↓dhq_M_34, ↓dhg_M_35, ↓dhq_M_35, ↓dhG_M_36, ↓dhG_M_37, ↓dhg_M_38, ↓dhq_M_38, ↓dhg_M_39, ↓dhq_M_39, ↓dhG_M_40, ↓dhG_M_41, ↓dhG_M_42, ↓dhG_M_43, ↓dhg_M_44, ↓dhq_M_44, ↓dha_165, ↓dhs_165, ↓dhl_165, ↓dha_181, ↓dhs_181, ↓dhl_181, Option.bind_some, ↓nm_eq, ↓sm_inl, ↓sm_inr, ↓dzo_0, ↓dzo_1, ↓drg_ok, ↓if_pos, ↓if_neg, if_pos, if_neg, if_true, if_false, Int.toNat_natCast, rg_ok, ↓bnd esz, h9.1, hnn, f3, e25, ek]
    · rw [gu_same]
      show _ = ((frm g p + (Gl g p + 1) : Nat) : Int)
      omega
    · rw [gu_ne (by decide)]
      by_cases e : q = p
      · rw [e, gu_at_eq rfl]
      · rw [gu_at_ne e]; exact f4 q (by omega)
  · rintro f J ⟨f1, f2, f3, f4⟩
    have wJ : RE g J := w.fr f1 (f2 9 (by decide)) (by decide)
    have h9 := re_w wJ
    have hnn := re_n wJ
    have e25 : gx_u J 181 24 (frm g (Gn g) : Int) 161 25 = (frm g (Gn g) : Int) := by rw [gu_ne (by decide)]; exact f3
    have t24 : Int.toNat 24 = 24 := rfl
    refine ⟨gx_u (gx_u J 181 24 (frm g (Gn g) : Int)) 161 25 ((frm g (Gn g) : Int) + 2), ?_, (f1.wr (by simp)).wr (by simp), fun k hk => by rw [gu_at_ne hk, gu_ne (by decide)]; exact f2 k hk, fun p hp1 => ?_, ?_, ?_⟩
    · simp (disch := omega) only [l_X12_numbers_7, b_X12_numbers_7, b_X12_numbers_52, ↓dhi_M, ↓dhG_M_0, ↓dhG_M_1, ↓dhG_M_2, ↓dhG_M_3, ↓dhG_M_4, ↓dhG_M_5, ↓dhG_M_6, ↓dhG_M_7, ↓dhG_M_8, ↓dhg_M_9, ↓dhq_M_9, ↓dhG_M_10, ↓dhG_M_11, ↓dhG_M_12, ↓dhg_M_13, ↓dhq_M_13, ↓dhG_M_14, ↓dhg_M_15, ↓dhq_M_15, ↓dhG_M_16, ↓dhg_M_17, ↓dhq_M_17, ↓dhg_M_18, ↓dhq_M_18, ↓dhG_M_19, ↓dhG_M_20, ↓dhG_M_21, ↓dhG_M_22, ↓dhG_M_23, ↓dhG_M_24, ↓dhg_M_25, ↓dhq_M_25, ↓dhG_M_26, ↓dhG_M_27, ↓dhG_M_28, ↓dhg_M_29, ↓dhq_M_29, ↓dhG_M_30, ↓dhG_M_31, ↓dhg_M_32, ↓dhq_M_32, ↓dhg_M_33, ↓dhq_M_33, ↓dhg_M_34, ↓dhq_M_34, ↓dhg_M_35, ↓dhq_M_35, ↓dhG_M_36, ↓dhG_M_37, ↓dhg_M_38, ↓dhq_M_38, ↓dhg_M_39, ↓dhq_M_39, ↓dhG_M_40, ↓dhG_M_41, ↓dhG_M_42, ↓dhG_M_43, ↓dhg_M_44, ↓dhq_M_44, ↓dha_165, ↓dhs_165, ↓dhl_165, ↓dha_181, ↓dhs_181, ↓dhl_181, Option.bind_some, ↓nm_eq, ↓sm_inl, ↓sm_inr, ↓dzo_0, ↓dzo_1, ↓drg_ok, ↓if_pos, ↓if_neg, if_pos, if_neg, if_true, if_false, Int.toNat_natCast, rg_ok, h9.1, hnn, f3, e25, t24]
    · rw [gu_ne (by decide), gu_at_ne (by omega)]; exact f4 p hp1
    · rw [gu_ne (by decide), gu_at_eq rfl]
    · rw [gu_same]; omega
end RN
