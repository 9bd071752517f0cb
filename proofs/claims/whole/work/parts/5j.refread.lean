/-! ===== the reference reads a rule ===== -/
def sw (x : Int) : Int := if x = -1 then -2 else if x = -2 then -1 else x
theorem sw_s {x : Int} (h : sgd x) : sw x = x := by unfold sw; unfold sgd at h; repeat' split
                                                    all_goals omega
def RR (J : Nat → Nat → Int) (r : Nat → Int) (H : Nat) : Prop := J 161 15 = (H : Int) ∧ ∀ i, i < H → J 174 i = sw (r i)
theorem RR.fr {J K : Nat → Nat → Int} {r : Nat → Int} {H : Nat} (h : RR J r H) (e1 : K 174 = J 174) (e2 : K 161 = J 161) : RR K r H := by unfold RR; rw [e1, e2]; exact h
theorem ch_1 {r : Nat → Int} {a : Nat} : ch r a (a + 1) = [(r a).toNat] := by rw [ch_s (Nat.le_refl _), ch_0]; rfl
theorem ch_2 {r : Nat → Int} {a : Nat} : ch r a (a + 2) = [(r a).toNat, (r (a + 1)).toNat] := by rw [ch_s (by omega), ch_1]; rfl
theorem ch_3 {r : Nat → Int} {a : Nat} : ch r a (a + 3) = [(r a).toNat, (r (a + 1)).toNat, (r (a + 2)).toNat] := by rw [ch_s (by omega), ch_2]; rfl
theorem FQ.same {w : Nat} {J K : Nat → Nat → Int} (h : FQ w J K) {a : Nat} (q : a ∉ [162, 163, 164, 165, 174, 161]) : K a = J a := h.1 a q
section QB
variable {u : Nat} {n : Nat} {L : Nat → Nat → Int}
theorem X12_addsAll (hn : 1000000000000000000000000000000 ≤ n) {w : Nat} {J0 : Nat → Nat → Int} {ps0 : List (Nat × List Nat)} (h : RQ w J0 ps0) (h9 : J0 161 9 = (w : Int)) {r : Nat → Int} {H : Nat} (hR : RR J0 r H) (hH : H ≤ 24) {a o : Nat} (ha : a ≤ H) (hs : ∀ i, a ≤ i → i < H → r i = -1 ∨ sgd (r i)) (ho : o < 16) :
    (∃ ps' J', aa o r (H - a) ps0 a a = some ps' ∧ f_X12_addsAll n 161 (o : Int) (a : Int) (hp u J0 L) = some (1, hp u J' L) ∧ RQ w J' ps' ∧ FQ w J0 J' ∧ J' 174 = J0 174 ∧ J' 161 = J0 161) ∨
    (aa o r (H - a) ps0 a a = none ∧ ∃ J' psx, f_X12_addsAll n 161 (o : Int) (a : Int) (hp u J0 L) = some (0, hp u J' L) ∧ PX ps0 psx ∧ RQ w J' psx ∧ FQ w J0 J' ∧ J' 174 = J0 174 ∧ J' 161 = J0 161) := by
  suffices key : ∀ R, zLP (H + 1) (fun f k (s : Int × Int × (Nat → Nat → Int)) => l_X12_addsAll_8 n f 161 (o : Int) s.1 s.2.1 (k : Int) (hp u s.2.2 L))
      (fun k s => FQ w J0 s.2.2 ∧ s.2.2 174 = J0 174 ∧ s.2.2 161 = J0 161 ∧ ((s.2.1 = 1 ∧ k ≤ H ∧ ∃ psc b, s.1 = ((b : Nat) : Int) ∧ a ≤ b ∧ b ≤ k ∧ PX ps0 psc ∧ RQ w s.2.2 psc ∧ (∀ i, b ≤ i → i < k → sgd (r i)) ∧ aa o r (H - k) psc b k = R) ∨ (s.2.1 = 1 ∧ k = H + 1 ∧ ∃ psc, R = some psc ∧ RQ w s.2.2 psc) ∨ (s.2.1 = 0 ∧ R = none ∧ ∃ psx, PX ps0 psx ∧ RQ w s.2.2 psx)))
      (fun res => (∃ ps' J', R = some ps' ∧ res = some (1, hp u J' L) ∧ RQ w J' ps' ∧ FQ w J0 J' ∧ J' 174 = J0 174 ∧ J' 161 = J0 161) ∨ (R = none ∧ ∃ J' psx, res = some (0, hp u J' L) ∧ PX ps0 psx ∧ RQ w J' psx ∧ FQ w J0 J' ∧ J' 174 = J0 174 ∧ J' 161 = J0 161)) by
    exact key (aa o r (H - a) ps0 a a) (H + 1 - a) n a ((a : Int), 1, J0) (by omega) (by omega) ⟨FQ.rf, rfl, rfl, Or.inl ⟨rfl, ha, ps0, a, rfl, Nat.le_refl _, Nat.le_refl _, PX.rf, h, fun i q1 q2 => absurd q2 (by omega), rfl⟩⟩
  intro R
  -- what ends a sequence
  have e43 : ∀ (r8 : Nat → Int → Int → Int → Int → gi_H → Option (Int × gi_H)) (J : Nat → Nat → Int) (psc : List (Nat × List Nat)) (b k : Nat), b ≤ k → k ≤ H → RQ w J psc → J 174 = J0 174 → J 161 = J0 161 → (∀ i, b ≤ i → i < k → sgd (r i)) →
      (∃ ps' J', ad psc o r b k = some ps' ∧ b_X12_addsAll_43 n r8 161 (o : Int) ((b : Nat) : Int) (k : Int) (hp u J L) = r8 161 (o : Int) ((k + 1 : Nat) : Int) 1 ((k + 1 : Nat) : Int) (hp u J' L) ∧ RQ w J' ps' ∧ FQ w J J' ∧ J' 174 = J0 174 ∧ J' 161 = J0 161) ∨ (ad psc o r b k = none ∧ b_X12_addsAll_43 n r8 161 (o : Int) ((b : Nat) : Int) (k : Int) (hp u J L) = r8 161 (o : Int) ((k + 1 : Nat) : Int) 0 ((k + 1 : Nat) : Int) (hp u J L)) := by
    intro r8 J psc b k hbk hkH hQ e1 e2 hsg
    have ek : (k : Int) + 1 = ((k + 1 : Nat) : Int) := by omega
    have ec : ad psc o (J 174) b k = ad psc o r b k := by
      unfold ad
      rw [ch_congr (r' := r) (fun i q1 q2 => by rw [e1, hR.2 i (by omega), sw_s (hsg i q1 q2)])]
    rcases X12_adds (u := u) (L := L) hn hQ (by rw [e2]; exact h9) ho hbk (by omega) (fun i q1 q2 => by rw [e1, hR.2 i (by omega), sw_s (hsg i q1 q2)]; exact hsg i q1 q2) with ⟨ps', J', z1, z2, z3, z4, z5, z6⟩ | ⟨z1, z2⟩
    · left
      refine ⟨ps', J', ec.symm.trans z1, ?_, z3, z4, z5.trans e1, z6.trans e2⟩
      simp (disch := omega) only [b_X12_addsAll_43, b_X12_addsAll_58, ↓dhi_M, ↓dhG_M_0, ↓dhG_M_1, ↓dhG_M_2, ↓dhG_M_3, ↓dhG_M_4, ↓dhG_M_5, ↓dhG_M_6, ↓dhG_M_7, ↓dhG_M_8, ↓dhg_M_9, ↓dhq_M_9, ↓dhG_M_10, ↓dhG_M_11, ↓dhG_M_12, ↓dhg_M_13, ↓dhq_M_13, ↓dhG_M_14, ↓dhg_M_15, ↓dhq_M_15, ↓dhG_M_16, ↓dhg_M_17, ↓dhq_M_17, ↓dhg_M_18, ↓dhq_M_18, ↓dhG_M_19, ↓dhG_M_20, ↓dhG_M_21, ↓dhG_M_22, ↓dhG_M_23, ↓dhG_M_24, ↓dhg_M_25, ↓dhq_M_25, ↓dhG_M_26, ↓dhG_M_27, ↓dhG_M_28, ↓dhg_M_29, ↓dhq_M_29, ↓dhG_M_30, ↓dhG_M_31, ↓dhg_M_32, ↓dhq_M_32, ↓dhg_M_33, ↓dhq_M_33, ↓dhg_M_34, ↓dhq_M_34, ↓dhg_M_35, ↓dhq_M_35, ↓dhG_M_36, ↓dhG_M_37, ↓dhg_M_38, ↓dhq_M_38, ↓dhg_M_39, ↓dhq_M_39, ↓dhG_M_40, ↓dhG_M_41, ↓dhG_M_42, ↓dhG_M_43, ↓dhg_M_44, ↓dhq_M_44, Option.bind_some, ↓nm_eq, ↓sm_inl, ↓sm_inr, ↓dzo_0, ↓dzo_1, ↓drg_ok, ↓if_pos, ↓if_neg, if_pos, if_neg, if_true, if_false, Int.toNat_natCast, rg_ok, ↓bnd z2, ek]
    · right
      refine ⟨ec.symm.trans z1, ?_⟩
      simp (disch := omega) only [b_X12_addsAll_43, b_X12_addsAll_58, ↓dhi_M, ↓dhG_M_0, ↓dhG_M_1, ↓dhG_M_2, ↓dhG_M_3, ↓dhG_M_4, ↓dhG_M_5, ↓dhG_M_6, ↓dhG_M_7, ↓dhG_M_8, ↓dhg_M_9, ↓dhq_M_9, ↓dhG_M_10, ↓dhG_M_11, ↓dhG_M_12, ↓dhg_M_13, ↓dhq_M_13, ↓dhG_M_14, ↓dhg_M_15, ↓dhq_M_15, ↓dhG_M_16, ↓dhg_M_17, ↓dhq_M_17, ↓dhg_M_18, ↓dhq_M_18, ↓dhG_M_19, ↓dhG_M_20, ↓dhG_M_21, ↓dhG_M_22, ↓dhG_M_23, ↓dhG_M_24, ↓dhg_M_25, ↓dhq_M_25, ↓dhG_M_26, ↓dhG_M_27, ↓dhG_M_28, ↓dhg_M_29, ↓dhq_M_29, ↓dhG_M_30, ↓dhG_M_31, ↓dhg_M_32, ↓dhq_M_32, ↓dhg_M_33, ↓dhq_M_33, ↓dhg_M_34, ↓dhq_M_34, ↓dhg_M_35, ↓dhq_M_35, ↓dhG_M_36, ↓dhG_M_37, ↓dhg_M_38, ↓dhq_M_38, ↓dhg_M_39, ↓dhq_M_39, ↓dhG_M_40, ↓dhG_M_41, ↓dhG_M_42, ↓dhG_M_43, ↓dhg_M_44, ↓dhq_M_44, Option.bind_some, ↓nm_eq, ↓sm_inl, ↓sm_inr, ↓dzo_0, ↓dzo_1, ↓drg_ok, ↓if_pos, ↓if_neg, if_pos, if_neg, if_true, if_false, Int.toNat_natCast, rg_ok, ↓bnd z2, ek]
  refine zlp ?_ ?_
  · rintro f k ⟨v3, v4, J⟩ hk ⟨hF, g1, g2, hc⟩
    dsimp only at hF g1 g2 hc ⊢
    have g15 : J 161 15 = (H : Int) := by rw [g2]; exact hR.1
    have ek : (k : Int) + 1 = ((k + 1 : Nat) : Int) := by omega
    rcases hc with ⟨c1, c0, psc, b, cb, c2, c3, c4, c5, c6, c7⟩ | ⟨c1, c2, -⟩ | ⟨c1, c2, psx, c3, c4⟩
    · right
      subst cb
      by_cases eH : k = H
      · subst eH
        rw [Nat.sub_self] at c7
        have c7' : ad psc o r b k = R := c7
        rcases e43 (l_X12_addsAll_8 n f) J psc b k c3 (Nat.le_refl _) c5 g1 g2 c6 with ⟨ps', J', z1, z2, z3, z4, z5, z6⟩ | ⟨z1, z2⟩
        · refine ⟨(((k + 1 : Nat) : Int), 1, J'), ?_, hF.tr z4, z5, z6, Or.inr (Or.inl ⟨rfl, rfl, ps', c7'.symm.trans z1, z3⟩)⟩
          simp (disch := omega) only [l_X12_addsAll_8, b_X12_addsAll_8, ↓dhi_M, ↓dhG_M_0, ↓dhG_M_1, ↓dhG_M_2, ↓dhG_M_3, ↓dhG_M_4, ↓dhG_M_5, ↓dhG_M_6, ↓dhG_M_7, ↓dhG_M_8, ↓dhg_M_9, ↓dhq_M_9, ↓dhG_M_10, ↓dhG_M_11, ↓dhG_M_12, ↓dhg_M_13, ↓dhq_M_13, ↓dhG_M_14, ↓dhg_M_15, ↓dhq_M_15, ↓dhG_M_16, ↓dhg_M_17, ↓dhq_M_17, ↓dhg_M_18, ↓dhq_M_18, ↓dhG_M_19, ↓dhG_M_20, ↓dhG_M_21, ↓dhG_M_22, ↓dhG_M_23, ↓dhG_M_24, ↓dhg_M_25, ↓dhq_M_25, ↓dhG_M_26, ↓dhG_M_27, ↓dhG_M_28, ↓dhg_M_29, ↓dhq_M_29, ↓dhG_M_30, ↓dhG_M_31, ↓dhg_M_32, ↓dhq_M_32, ↓dhg_M_33, ↓dhq_M_33, ↓dhg_M_34, ↓dhq_M_34, ↓dhg_M_35, ↓dhq_M_35, ↓dhG_M_36, ↓dhG_M_37, ↓dhg_M_38, ↓dhq_M_38, ↓dhg_M_39, ↓dhq_M_39, ↓dhG_M_40, ↓dhG_M_41, ↓dhG_M_42, ↓dhG_M_43, ↓dhg_M_44, ↓dhq_M_44, Option.bind_some, ↓nm_eq, ↓sm_inl, ↓sm_inr, ↓dzo_0, ↓dzo_1, ↓drg_ok, ↓if_pos, ↓if_neg, if_pos, if_neg, if_true, if_false, Int.toNat_natCast, rg_ok, g15, c1, z2]
        · refine ⟨(((k + 1 : Nat) : Int), 0, J), ?_, hF, g1, g2, Or.inr (Or.inr ⟨rfl, c7'.symm.trans z1, psc, c4, c5⟩)⟩
          simp (disch := omega) only [l_X12_addsAll_8, b_X12_addsAll_8, ↓dhi_M, ↓dhG_M_0, ↓dhG_M_1, ↓dhG_M_2, ↓dhG_M_3, ↓dhG_M_4, ↓dhG_M_5, ↓dhG_M_6, ↓dhG_M_7, ↓dhG_M_8, ↓dhg_M_9, ↓dhq_M_9, ↓dhG_M_10, ↓dhG_M_11, ↓dhG_M_12, ↓dhg_M_13, ↓dhq_M_13, ↓dhG_M_14, ↓dhg_M_15, ↓dhq_M_15, ↓dhG_M_16, ↓dhg_M_17, ↓dhq_M_17, ↓dhg_M_18, ↓dhq_M_18, ↓dhG_M_19, ↓dhG_M_20, ↓dhG_M_21, ↓dhG_M_22, ↓dhG_M_23, ↓dhG_M_24, ↓dhg_M_25, ↓dhq_M_25, ↓dhG_M_26, ↓dhG_M_27, ↓dhG_M_28, ↓dhg_M_29, ↓dhq_M_29, ↓dhG_M_30, ↓dhG_M_31, ↓dhg_M_32, ↓dhq_M_32, ↓dhg_M_33, ↓dhq_M_33, ↓dhg_M_34, ↓dhq_M_34, ↓dhg_M_35, ↓dhq_M_35, ↓dhG_M_36, ↓dhG_M_37, ↓dhg_M_38, ↓dhq_M_38, ↓dhg_M_39, ↓dhq_M_39, ↓dhG_M_40, ↓dhG_M_41, ↓dhG_M_42, ↓dhG_M_43, ↓dhg_M_44, ↓dhq_M_44, Option.bind_some, ↓nm_eq, ↓sm_inl, ↓sm_inr, ↓dzo_0, ↓dzo_1, ↓drg_ok, ↓if_pos, ↓if_neg, if_pos, if_neg, if_true, if_false, Int.toNat_natCast, rg_ok, g15, c1, z2]
      · obtain ⟨m, hm⟩ : ∃ m, H - k = m + 1 := ⟨H - k - 1, by omega⟩
        have hm' : H - (k + 1) = m := by omega
        rw [hm] at c7
        have c7' : (if r k = -1 then (match ad psc o r b k with | none => none | some ps' => aa o r m ps' (k + 1) (k + 1)) else aa o r m psc b (k + 1)) = R := c7
        have g174 : J 174 k = sw (r k) := by rw [g1]; exact hR.2 k (by omega)
        rcases hs k (by omega) (by omega) with hr1 | hr1
        · rw [if_pos hr1] at c7'
          have g174' : J 174 k = -2 := by rw [g174, hr1]; rfl
          rcases e43 (l_X12_addsAll_8 n f) J psc b k c3 (by omega) c5 g1 g2 c6 with ⟨ps', J', z1, z2, z3, z4, z5, z6⟩ | ⟨z1, z2⟩
          · rw [z1] at c7'
            have hpx : PX psc ps' := by
              unfold ad at z1; split at z1
              · simp only [Option.some.injEq] at z1; subst z1; exact PX.rf.ap _
              · exact absurd z1 (by simp)
            refine ⟨(((k + 1 : Nat) : Int), 1, J'), ?_, hF.tr z4, z5, z6, Or.inl ⟨rfl, by omega, ps', k + 1, rfl, by omega, Nat.le_refl _, c4.tr hpx, z3, fun i q1 q2 => absurd q2 (by omega), by rw [hm']; exact c7'⟩⟩
            simp (disch := omega) only [l_X12_addsAll_8, b_X12_addsAll_8, ↓dhi_M, ↓dhG_M_0, ↓dhG_M_1, ↓dhG_M_2, ↓dhG_M_3, ↓dhG_M_4, ↓dhG_M_5, ↓dhG_M_6, ↓dhG_M_7, ↓dhG_M_8, ↓dhg_M_9, ↓dhq_M_9, ↓dhG_M_10, ↓dhG_M_11, ↓dhG_M_12, ↓dhg_M_13, ↓dhq_M_13, ↓dhG_M_14, ↓dhg_M_15, ↓dhq_M_15, ↓dhG_M_16, ↓dhg_M_17, ↓dhq_M_17, ↓dhg_M_18, ↓dhq_M_18, ↓dhG_M_19, ↓dhG_M_20, ↓dhG_M_21, ↓dhG_M_22, ↓dhG_M_23, ↓dhG_M_24, ↓dhg_M_25, ↓dhq_M_25, ↓dhG_M_26, ↓dhG_M_27, ↓dhG_M_28, ↓dhg_M_29, ↓dhq_M_29, ↓dhG_M_30, ↓dhG_M_31, ↓dhg_M_32, ↓dhq_M_32, ↓dhg_M_33, ↓dhq_M_33, ↓dhg_M_34, ↓dhq_M_34, ↓dhg_M_35, ↓dhq_M_35, ↓dhG_M_36, ↓dhG_M_37, ↓dhg_M_38, ↓dhq_M_38, ↓dhg_M_39, ↓dhq_M_39, ↓dhG_M_40, ↓dhG_M_41, ↓dhG_M_42, ↓dhG_M_43, ↓dhg_M_44, ↓dhq_M_44, ↓dha_174, ↓dhs_174, ↓dhl_174, Option.bind_some, ↓nm_eq, ↓sm_inl, ↓sm_inr, ↓dzo_0, ↓dzo_1, ↓drg_ok, ↓if_pos, ↓if_neg, if_pos, if_neg, if_true, if_false, Int.toNat_natCast, rg_ok, g15, c1, z2, g174']
          · rw [z1] at c7'
            refine ⟨(((k + 1 : Nat) : Int), 0, J), ?_, hF, g1, g2, Or.inr (Or.inr ⟨rfl, c7'.symm, psc, c4, c5⟩)⟩
            simp (disch := omega) only [l_X12_addsAll_8, b_X12_addsAll_8, ↓dhi_M, ↓dhG_M_0, ↓dhG_M_1, ↓dhG_M_2, ↓dhG_M_3, ↓dhG_M_4, ↓dhG_M_5, ↓dhG_M_6, ↓dhG_M_7, ↓dhG_M_8, ↓dhg_M_9, ↓dhq_M_9, ↓dhG_M_10, ↓dhG_M_11, ↓dhG_M_12, ↓dhg_M_13, ↓dhq_M_13, ↓dhG_M_14, ↓dhg_M_15, ↓dhq_M_15, ↓dhG_M_16, ↓dhg_M_17, ↓dhq_M_17, ↓dhg_M_18, ↓dhq_M_18, ↓dhG_M_19, ↓dhG_M_20, ↓dhG_M_21, ↓dhG_M_22, ↓dhG_M_23, ↓dhG_M_24, ↓dhg_M_25, ↓dhq_M_25, ↓dhG_M_26, ↓dhG_M_27, ↓dhG_M_28, ↓dhg_M_29, ↓dhq_M_29, ↓dhG_M_30, ↓dhG_M_31, ↓dhg_M_32, ↓dhq_M_32, ↓dhg_M_33, ↓dhq_M_33, ↓dhg_M_34, ↓dhq_M_34, ↓dhg_M_35, ↓dhq_M_35, ↓dhG_M_36, ↓dhG_M_37, ↓dhg_M_38, ↓dhq_M_38, ↓dhg_M_39, ↓dhq_M_39, ↓dhG_M_40, ↓dhG_M_41, ↓dhG_M_42, ↓dhG_M_43, ↓dhg_M_44, ↓dhq_M_44, ↓dha_174, ↓dhs_174, ↓dhl_174, Option.bind_some, ↓nm_eq, ↓sm_inl, ↓sm_inr, ↓dzo_0, ↓dzo_1, ↓drg_ok, ↓if_pos, ↓if_neg, if_pos, if_neg, if_true, if_false, Int.toNat_natCast, rg_ok, g15, c1, z2, g174']
        · rw [if_neg (by unfold sgd at hr1; omega)] at c7'
          rw [sw_s hr1] at g174
          have hrg : 0 ≤ r k ∧ r k < 32 := by unfold sgd at hr1; omega
          refine ⟨((b : Int), 1, J), ?_, hF, g1, g2, Or.inl ⟨rfl, by omega, psc, b, rfl, c2, by omega, c4, c5, fun i q1 q2 => ?_, by rw [hm']; exact c7'⟩⟩
          · simp (disch := omega) only [l_X12_addsAll_8, b_X12_addsAll_8, b_X12_addsAll_58, ↓dhi_M, ↓dhG_M_0, ↓dhG_M_1, ↓dhG_M_2, ↓dhG_M_3, ↓dhG_M_4, ↓dhG_M_5, ↓dhG_M_6, ↓dhG_M_7, ↓dhG_M_8, ↓dhg_M_9, ↓dhq_M_9, ↓dhG_M_10, ↓dhG_M_11, ↓dhG_M_12, ↓dhg_M_13, ↓dhq_M_13, ↓dhG_M_14, ↓dhg_M_15, ↓dhq_M_15, ↓dhG_M_16, ↓dhg_M_17, ↓dhq_M_17, ↓dhg_M_18, ↓dhq_M_18, ↓dhG_M_19, ↓dhG_M_20, ↓dhG_M_21, ↓dhG_M_22, ↓dhG_M_23, ↓dhG_M_24, ↓dhg_M_25, ↓dhq_M_25, ↓dhG_M_26, ↓dhG_M_27, ↓dhG_M_28, ↓dhg_M_29, ↓dhq_M_29, ↓dhG_M_30, ↓dhG_M_31, ↓dhg_M_32, ↓dhq_M_32, ↓dhg_M_33, ↓dhq_M_33, ↓dhg_M_34, ↓dhq_M_34, ↓dhg_M_35, ↓dhq_M_35, ↓dhG_M_36, ↓dhG_M_37, ↓dhg_M_38, ↓dhq_M_38, ↓dhg_M_39, ↓dhq_M_39, ↓dhG_M_40, ↓dhG_M_41, ↓dhG_M_42, ↓dhG_M_43, ↓dhg_M_44, ↓dhq_M_44, ↓dha_174, ↓dhs_174, ↓dhl_174, Option.bind_some, ↓nm_eq, ↓sm_inl, ↓sm_inr, ↓dzo_0, ↓dzo_1, ↓drg_ok, ↓if_pos, ↓if_neg, if_pos, if_neg, if_true, if_false, Int.toNat_natCast, rg_ok, g15, c1, g174, ek]
          · by_cases e : i = k
            · rw [e]; exact hr1
            · exact c6 i q1 (by omega)
    · omega
    · left
      refine Or.inr ⟨c2, J, psx, ?_, c3, c4, hF, g1, g2⟩
      simp (disch := omega) only [l_X12_addsAll_8, b_X12_addsAll_8, ↓dhi_M, ↓dhG_M_0, ↓dhG_M_1, ↓dhG_M_2, ↓dhG_M_3, ↓dhG_M_4, ↓dhG_M_5, ↓dhG_M_6, ↓dhG_M_7, ↓dhG_M_8, ↓dhg_M_9, ↓dhq_M_9, ↓dhG_M_10, ↓dhG_M_11, ↓dhG_M_12, ↓dhg_M_13, ↓dhq_M_13, ↓dhG_M_14, ↓dhg_M_15, ↓dhq_M_15, ↓dhG_M_16, ↓dhg_M_17, ↓dhq_M_17, ↓dhg_M_18, ↓dhq_M_18, ↓dhG_M_19, ↓dhG_M_20, ↓dhG_M_21, ↓dhG_M_22, ↓dhG_M_23, ↓dhG_M_24, ↓dhg_M_25, ↓dhq_M_25, ↓dhG_M_26, ↓dhG_M_27, ↓dhG_M_28, ↓dhg_M_29, ↓dhq_M_29, ↓dhG_M_30, ↓dhG_M_31, ↓dhg_M_32, ↓dhq_M_32, ↓dhg_M_33, ↓dhq_M_33, ↓dhg_M_34, ↓dhq_M_34, ↓dhg_M_35, ↓dhq_M_35, ↓dhG_M_36, ↓dhG_M_37, ↓dhg_M_38, ↓dhq_M_38, ↓dhg_M_39, ↓dhq_M_39, ↓dhG_M_40, ↓dhG_M_41, ↓dhG_M_42, ↓dhG_M_43, ↓dhg_M_44, ↓dhq_M_44, Option.bind_some, ↓nm_eq, ↓sm_inl, ↓sm_inr, ↓dzo_0, ↓dzo_1, ↓drg_ok, ↓if_pos, ↓if_neg, if_pos, if_neg, if_true, if_false, Int.toNat_natCast, rg_ok, g15, c1]
  · rintro f ⟨v3, v4, J⟩ ⟨hF, g1, g2, hc⟩
    dsimp only at hF g1 g2 hc ⊢
    have g15 : J 161 15 = (H : Int) := by rw [g2]; exact hR.1
    rcases hc with ⟨c1, c0, -⟩ | ⟨c1, c2, psc, c3, c4⟩ | ⟨c1, c2, psx, c3, c4⟩
    · omega
    · refine Or.inl ⟨psc, J, c3, ?_, c4, hF, g1, g2⟩
      simp (disch := omega) only [l_X12_addsAll_8, b_X12_addsAll_8, ↓dhi_M, ↓dhG_M_0, ↓dhG_M_1, ↓dhG_M_2, ↓dhG_M_3, ↓dhG_M_4, ↓dhG_M_5, ↓dhG_M_6, ↓dhG_M_7, ↓dhG_M_8, ↓dhg_M_9, ↓dhq_M_9, ↓dhG_M_10, ↓dhG_M_11, ↓dhG_M_12, ↓dhg_M_13, ↓dhq_M_13, ↓dhG_M_14, ↓dhg_M_15, ↓dhq_M_15, ↓dhG_M_16, ↓dhg_M_17, ↓dhq_M_17, ↓dhg_M_18, ↓dhq_M_18, ↓dhG_M_19, ↓dhG_M_20, ↓dhG_M_21, ↓dhG_M_22, ↓dhG_M_23, ↓dhG_M_24, ↓dhg_M_25, ↓dhq_M_25, ↓dhG_M_26, ↓dhG_M_27, ↓dhG_M_28, ↓dhg_M_29, ↓dhq_M_29, ↓dhG_M_30, ↓dhG_M_31, ↓dhg_M_32, ↓dhq_M_32, ↓dhg_M_33, ↓dhq_M_33, ↓dhg_M_34, ↓dhq_M_34, ↓dhg_M_35, ↓dhq_M_35, ↓dhG_M_36, ↓dhG_M_37, ↓dhg_M_38, ↓dhq_M_38, ↓dhg_M_39, ↓dhq_M_39, ↓dhG_M_40, ↓dhG_M_41, ↓dhG_M_42, ↓dhG_M_43, ↓dhg_M_44, ↓dhq_M_44, Option.bind_some, ↓nm_eq, ↓sm_inl, ↓sm_inr, ↓dzo_0, ↓dzo_1, ↓drg_ok, ↓if_pos, ↓if_neg, if_pos, if_neg, if_true, if_false, Int.toNat_natCast, rg_ok, g15, c1]
    · refine Or.inr ⟨c2, J, psx, ?_, c3, c4, hF, g1, g2⟩
      simp (disch := omega) only [l_X12_addsAll_8, b_X12_addsAll_8, ↓dhi_M, ↓dhG_M_0, ↓dhG_M_1, ↓dhG_M_2, ↓dhG_M_3, ↓dhG_M_4, ↓dhG_M_5, ↓dhG_M_6, ↓dhG_M_7, ↓dhG_M_8, ↓dhg_M_9, ↓dhq_M_9, ↓dhG_M_10, ↓dhG_M_11, ↓dhG_M_12, ↓dhg_M_13, ↓dhq_M_13, ↓dhG_M_14, ↓dhg_M_15, ↓dhq_M_15, ↓dhG_M_16, ↓dhg_M_17, ↓dhq_M_17, ↓dhg_M_18, ↓dhq_M_18, ↓dhG_M_19, ↓dhG_M_20, ↓dhG_M_21, ↓dhG_M_22, ↓dhG_M_23, ↓dhG_M_24, ↓dhg_M_25, ↓dhq_M_25, ↓dhG_M_26, ↓dhG_M_27, ↓dhG_M_28, ↓dhg_M_29, ↓dhq_M_29, ↓dhG_M_30, ↓dhG_M_31, ↓dhg_M_32, ↓dhq_M_32, ↓dhg_M_33, ↓dhq_M_33, ↓dhg_M_34, ↓dhq_M_34, ↓dhg_M_35, ↓dhq_M_35, ↓dhG_M_36, ↓dhG_M_37, ↓dhg_M_38, ↓dhq_M_38, ↓dhg_M_39, ↓dhq_M_39, ↓dhG_M_40, ↓dhG_M_41, ↓dhG_M_42, ↓dhG_M_43, ↓dhg_M_44, ↓dhq_M_44, Option.bind_some, ↓nm_eq, ↓sm_inl, ↓sm_inr, ↓dzo_0, ↓dzo_1, ↓drg_ok, ↓if_pos, ↓if_neg, if_pos, if_neg, if_true, if_false, Int.toNat_natCast, rg_ok, g15, c1]
theorem RR.top {J : Nat → Nat → Int} {r : Nat → Int} {H i x : Nat} (h : RR J r H) (hx : 16 ≤ x) (hx2 : x < 32) : RR (gx_u J 174 i (x : Int)) (zup r i (x : Int)) H := by
  refine ⟨by rw [gu_ne (by decide)]; exact h.1, fun j hj => ?_⟩
  by_cases e : j = i
  · rw [e, zup_eq, gu_at_eq rfl, sw_s (by unfold sgd; omega)]
  · rw [zup_ne e, gu_at_ne e]; exact h.2 j hj
theorem X12_stands (hn : 1000000000000000000000000000000 ≤ n) {w : Nat} {J : Nat → Nat → Int} {ps : List (Nat × List Nat)} (h : RQ w J ps) (h9 : J 161 9 = (w : Int)) {r : Nat → Int} {H : Nat} (hR : RR J r H) (hH : H ≤ 24) (h1 : 1 ≤ H) (hs : sgd (r (H - 1))) {sg sep : Int} (hsg : sg = 63 ∨ sg = 42 ∨ sg = 43 ∨ sg = 37) (hse : sg = 37 → 0 ≤ sep ∧ sep < 8) {sp : Nat} (hsp : sg = 37 → sp = sep.toNat) :
    (∃ q J', wr ps r H sg sp = some q ∧ f_X12_stands n 161 sg sep (hp u J L) = some (1, hp u J' L) ∧ RQ w J' q.1 ∧ FQ w J J' ∧ RR J' q.2 H) ∨
    (wr ps r H sg sp = none ∧ ∃ J' psx, f_X12_stands n 161 sg sep (hp u J L) = some (0, hp u J' L) ∧ PX ps psx ∧ RQ w J' psx ∧ FQ w J J') := by
  have eh := X12_helper (u := u) (L := L) hn h h9
  have g1 := hR.1
  have g3 : J 174 (H - 1) = r (H - 1) := by rw [hR.2 (H - 1) (by omega), sw_s hs]
  have e1 : ((H : Int) - 1).toNat = H - 1 := by omega
  unfold wr
  cases hf : fH ps with
  | none =>
    rw [hf] at eh
    right
    refine ⟨rfl, J, ps, ?_, PX.rf, h, FQ.rf⟩
    simp (disch := omega) only [f_X12_stands, ↓dhi_M, ↓dhG_M_0, ↓dhG_M_1, ↓dhG_M_2, ↓dhG_M_3, ↓dhG_M_4, ↓dhG_M_5, ↓dhG_M_6, ↓dhG_M_7, ↓dhG_M_8, ↓dhg_M_9, ↓dhq_M_9, ↓dhG_M_10, ↓dhG_M_11, ↓dhG_M_12, ↓dhg_M_13, ↓dhq_M_13, ↓dhG_M_14, ↓dhg_M_15, ↓dhq_M_15, ↓dhG_M_16, ↓dhg_M_17, ↓dhq_M_17, ↓dhg_M_18, ↓dhq_M_18, ↓dhG_M_19, ↓dhG_M_20, ↓dhG_M_21, ↓dhG_M_22, ↓dhG_M_23, ↓dhG_M_24, ↓dhg_M_25, ↓dhq_M_25, ↓dhG_M_26, ↓dhG_M_27, ↓dhG_M_28, ↓dhg_M_29, ↓dhq_M_29, ↓dhG_M_30, ↓dhG_M_31, ↓dhg_M_32, ↓dhq_M_32, ↓dhg_M_33, ↓dhq_M_33, ↓dhg_M_34, ↓dhq_M_34, ↓dhg_M_35, ↓dhq_M_35, ↓dhG_M_36, ↓dhG_M_37, ↓dhg_M_38, ↓dhq_M_38, ↓dhg_M_39, ↓dhq_M_39, ↓dhG_M_40, ↓dhG_M_41, ↓dhG_M_42, ↓dhG_M_43, ↓dhg_M_44, ↓dhq_M_44, Option.bind_some, ↓nm_eq, ↓sm_inl, ↓sm_inr, ↓dzo_0, ↓dzo_1, ↓drg_ok, ↓if_pos, ↓if_neg, if_pos, if_neg, if_true, if_false, Int.toNat_natCast, rg_ok, ↓bnd eh]
  | some hh =>
    rw [hf] at eh
    have hh16 := fH_rg hf
    dsimp only at eh ⊢
    have e2 : (16 : Int) + (hh : Int) = ((16 + hh : Nat) : Int) := by omega
    have hp0 : (((r (H - 1)).toNat : Nat) : Int) = r (H - 1) := by unfold sgd at hs; omega
    -- the scratch behind the row
    have scr : ∃ (x1 : Int) (J1 : Nat → Nat → Int), J1 = gx_u (gx_u (gx_u (gx_u J 174 H ((16 + hh : Nat) : Int)) 174 (H + 1) x1) 174 (H + 2) (r (H - 1))) 174 (H + 3) (r (H - 1)) ∧ (sg = 37 → x1 = (sp : Int) ∧ 0 ≤ x1 ∧ x1 < 8) ∧ (sg ≠ 37 → x1 = r (H - 1)) ∧ f_X12_stands n 161 sg sep (hp u J L) = if sg = 63 ∨ sg = 42 then Option.bind (f_X12_adds n 161 (hh : Int) (H : Int) (H : Int) (hp u J1 L)) (fun q => b_X12_stands_122 n 161 sg (hh : Int) (H : Int) q.1 q.2) else Option.bind (f_X12_adds n 161 (hh : Int) ((H + 3 : Nat) : Int) ((H + 4 : Nat) : Int) (hp u J1 L)) (fun q => b_X12_stands_122 n 161 sg (hh : Int) (H : Int) q.1 q.2) := by
      have k1 : (H : Int) + 1 = ((H + 1 : Nat) : Int) := by omega
      have k2 : (H : Int) + 2 = ((H + 2 : Nat) : Int) := by omega
      have k3 : (H : Int) + 3 = ((H + 3 : Nat) : Int) := by omega
      have k4 : (H : Int) + 4 = ((H + 4 : Nat) : Int) := by omega
      by_cases c37 : sg = 37
      · have hsep := hse c37
        have hsp' := hsp c37
        refine ⟨sep, _, rfl, fun _ => by omega, fun z => absurd c37 z, ?_⟩
        rw [if_neg (by omega)]
        simp (disch := omega) only [f_X12_stands, b_X12_stands_62, ↓dhi_M, ↓dhG_M_0, ↓dhG_M_1, ↓dhG_M_2, ↓dhG_M_3, ↓dhG_M_4, ↓dhG_M_5, ↓dhG_M_6, ↓dhG_M_7, ↓dhG_M_8, ↓dhg_M_9, ↓dhq_M_9, ↓dhG_M_10, ↓dhG_M_11, ↓dhG_M_12, ↓dhg_M_13, ↓dhq_M_13, ↓dhG_M_14, ↓dhg_M_15, ↓dhq_M_15, ↓dhG_M_16, ↓dhg_M_17, ↓dhq_M_17, ↓dhg_M_18, ↓dhq_M_18, ↓dhG_M_19, ↓dhG_M_20, ↓dhG_M_21, ↓dhG_M_22, ↓dhG_M_23, ↓dhG_M_24, ↓dhg_M_25, ↓dhq_M_25, ↓dhG_M_26, ↓dhG_M_27, ↓dhG_M_28, ↓dhg_M_29, ↓dhq_M_29, ↓dhG_M_30, ↓dhG_M_31, ↓dhg_M_32, ↓dhq_M_32, ↓dhg_M_33, ↓dhq_M_33, ↓dhg_M_34, ↓dhq_M_34, ↓dhg_M_35, ↓dhq_M_35, ↓dhG_M_36, ↓dhG_M_37, ↓dhg_M_38, ↓dhq_M_38, ↓dhg_M_39, ↓dhq_M_39, ↓dhG_M_40, ↓dhG_M_41, ↓dhG_M_42, ↓dhG_M_43, ↓dhg_M_44, ↓dhq_M_44, ↓dha_174, ↓dhs_174, ↓dhl_174, Option.bind_some, ↓nm_eq, ↓sm_inl, ↓sm_inr, ↓dzo_0, ↓dzo_1, ↓drg_ok, ↓if_pos, ↓if_neg, if_pos, if_neg, if_true, if_false, Int.toNat_natCast, rg_ok, ↓bnd eh, g1, e1, e2, g3, k1, k2, k3, k4]
      · refine ⟨r (H - 1), _, rfl, fun z => absurd z c37, fun _ => rfl, ?_⟩
        by_cases c : sg = 63 ∨ sg = 42
        · rw [if_pos c]
          rcases c with c | c <;> simp (disch := omega) only [f_X12_stands, b_X12_stands_62, b_X12_stands_97, ↓dhi_M, ↓dhG_M_0, ↓dhG_M_1, ↓dhG_M_2, ↓dhG_M_3, ↓dhG_M_4, ↓dhG_M_5, ↓dhG_M_6, ↓dhG_M_7, ↓dhG_M_8, ↓dhg_M_9, ↓dhq_M_9, ↓dhG_M_10, ↓dhG_M_11, ↓dhG_M_12, ↓dhg_M_13, ↓dhq_M_13, ↓dhG_M_14, ↓dhg_M_15, ↓dhq_M_15, ↓dhG_M_16, ↓dhg_M_17, ↓dhq_M_17, ↓dhg_M_18, ↓dhq_M_18, ↓dhG_M_19, ↓dhG_M_20, ↓dhG_M_21, ↓dhG_M_22, ↓dhG_M_23, ↓dhG_M_24, ↓dhg_M_25, ↓dhq_M_25, ↓dhG_M_26, ↓dhG_M_27, ↓dhG_M_28, ↓dhg_M_29, ↓dhq_M_29, ↓dhG_M_30, ↓dhG_M_31, ↓dhg_M_32, ↓dhq_M_32, ↓dhg_M_33, ↓dhq_M_33, ↓dhg_M_34, ↓dhq_M_34, ↓dhg_M_35, ↓dhq_M_35, ↓dhG_M_36, ↓dhG_M_37, ↓dhg_M_38, ↓dhq_M_38, ↓dhg_M_39, ↓dhq_M_39, ↓dhG_M_40, ↓dhG_M_41, ↓dhG_M_42, ↓dhG_M_43, ↓dhg_M_44, ↓dhq_M_44, ↓dha_174, ↓dhs_174, ↓dhl_174, Option.bind_some, ↓nm_eq, ↓sm_inl, ↓sm_inr, ↓dzo_0, ↓dzo_1, ↓drg_ok, ↓if_pos, ↓if_neg, if_pos, if_neg, if_true, if_false, Int.toNat_natCast, rg_ok, ↓bnd eh, g1, e1, e2, g3, k1, k2, k3, k4]
        · rw [if_neg c]
          simp (disch := omega) only [f_X12_stands, b_X12_stands_62, ↓dhi_M, ↓dhG_M_0, ↓dhG_M_1, ↓dhG_M_2, ↓dhG_M_3, ↓dhG_M_4, ↓dhG_M_5, ↓dhG_M_6, ↓dhG_M_7, ↓dhG_M_8, ↓dhg_M_9, ↓dhq_M_9, ↓dhG_M_10, ↓dhG_M_11, ↓dhG_M_12, ↓dhg_M_13, ↓dhq_M_13, ↓dhG_M_14, ↓dhg_M_15, ↓dhq_M_15, ↓dhG_M_16, ↓dhg_M_17, ↓dhq_M_17, ↓dhg_M_18, ↓dhq_M_18, ↓dhG_M_19, ↓dhG_M_20, ↓dhG_M_21, ↓dhG_M_22, ↓dhG_M_23, ↓dhG_M_24, ↓dhg_M_25, ↓dhq_M_25, ↓dhG_M_26, ↓dhG_M_27, ↓dhG_M_28, ↓dhg_M_29, ↓dhq_M_29, ↓dhG_M_30, ↓dhG_M_31, ↓dhg_M_32, ↓dhq_M_32, ↓dhg_M_33, ↓dhq_M_33, ↓dhg_M_34, ↓dhq_M_34, ↓dhg_M_35, ↓dhq_M_35, ↓dhG_M_36, ↓dhG_M_37, ↓dhg_M_38, ↓dhq_M_38, ↓dhg_M_39, ↓dhq_M_39, ↓dhG_M_40, ↓dhG_M_41, ↓dhG_M_42, ↓dhG_M_43, ↓dhg_M_44, ↓dhq_M_44, ↓dha_174, ↓dhs_174, ↓dhl_174, Option.bind_some, ↓nm_eq, ↓sm_inl, ↓sm_inr, ↓dzo_0, ↓dzo_1, ↓drg_ok, ↓if_pos, ↓if_neg, if_pos, if_neg, if_true, if_false, Int.toNat_natCast, rg_ok, ↓bnd eh, g1, e1, e2, g3, k1, k2, k3, k4]
    obtain ⟨x1, J1, hJ1, hx37, hxn, e0⟩ := scr
    have f1 : FQ w J J1 := by rw [hJ1]; exact ((FQ.row.tr FQ.row).tr FQ.row).tr FQ.row
    have q1 : RQ w J1 ps := by rw [hJ1]; exact h.row.row.row.row
    have j161 : J1 161 = J 161 := by rw [hJ1, gu_ne (by decide), gu_ne (by decide), gu_ne (by decide), gu_ne (by decide)]
    have j0 : J1 174 H = ((16 + hh : Nat) : Int) := by rw [hJ1, gu_at_ne (by omega), gu_at_ne (by omega), gu_at_ne (by omega), gu_at_eq rfl]
    have j1 : J1 174 (H + 1) = x1 := by rw [hJ1, gu_at_ne (by omega), gu_at_ne (by omega), gu_at_eq rfl]
    have j2 : J1 174 (H + 2) = r (H - 1) := by rw [hJ1, gu_at_ne (by omega), gu_at_eq rfl]
    have j3 : J1 174 (H + 3) = r (H - 1) := by rw [hJ1, gu_at_eq rfl]
    have r1 : RR J1 r H := by
      refine ⟨by rw [j161]; exact g1, fun i hi => ?_⟩
      rw [hJ1, gu_at_ne (by omega), gu_at_ne (by omega), gu_at_ne (by omega), gu_at_ne (by omega)]; exact hR.2 i hi
    have hx1s : sgd x1 := by
      by_cases c : sg = 37
      · have := hx37 c; unfold sgd; omega
      · rw [hxn c]; exact hs
    have hx1n : x1.toNat = if sg = 37 then sp else (r (H - 1)).toNat := by
      by_cases c : sg = 37
      · rw [if_pos c]; have := hx37 c; omega
      · rw [if_neg c, hxn c]
    -- what is taken from the scratch
    have ta : ∀ (K : Nat → Nat → Int) (pk : List (Nat × List Nat)) (a b : Nat) (l : List Nat), RQ w K pk → K 174 = J1 174 → K 161 = J1 161 → H ≤ a → a ≤ b → b ≤ H + 4 → b - a ≤ 5 → ch (J1 174) a b = l →
        (pk.length < 24 ∧ ∃ K', f_X12_adds n 161 (hh : Int) (a : Int) (b : Int) (hp u K L) = some (1, hp u K' L) ∧ RQ w K' (pk ++ [(hh, l)]) ∧ FQ w K K' ∧ K' 174 = J1 174 ∧ K' 161 = J1 161) ∨ (24 ≤ pk.length ∧ f_X12_adds n 161 (hh : Int) (a : Int) (b : Int) (hp u K L) = some (0, hp u K L)) := by
      intro K pk a b l hK k1 k2 ha hab hb h5 hl
      have hsK : ∀ i, a ≤ i → i < b → sgd (K 174 i) := fun i z1 z2 => by
        rw [k1]
        have : i = H ∨ i = H + 1 ∨ i = H + 2 ∨ i = H + 3 := by omega
        rcases this with z | z | z | z
        · rw [z, j0]; unfold sgd; omega
        · rw [z, j1]; exact hx1s
        · rw [z, j2]; exact hs
        · rw [z, j3]; exact hs
      rcases X12_adds (u := u) (L := L) hn hK (by rw [k2, j161]; exact h9) (o := hh) (by omega) hab (by omega) hsK with ⟨ps', K', z1, z2, z3, z4, z5, z6⟩ | ⟨z1, z2⟩
      · left
        unfold ad at z1
        split at z1
        · next c =>
          simp only [Option.some.injEq] at z1
          rw [k1, hl] at z1
          subst z1
          exact ⟨c.1, K', z2, z3, z4, z5.trans k1, z6.trans k2⟩
        · exact absurd z1 (by simp)
      · right
        refine ⟨?_, z2⟩
        unfold ad at z1
        split at z1
        · exact absurd z1 (by simp)
        · next c => omega
    have b185 : ∀ K : Nat → Nat → Int, K 161 = J1 161 → b_X12_stands_185 n 161 (hh : Int) (hp u K L) = some (0, hp u (gx_u K 174 (H - 1) ((16 + hh : Nat) : Int)) L) ∧ b_X12_stands_181 n 161 (hh : Int) (hp u K L) = some (1, hp u (gx_u K 174 (H - 1) ((16 + hh : Nat) : Int)) L) := fun K hK => by
      have k15 : K 161 15 = (H : Int) := by rw [hK, j161]; exact g1
      constructor <;> simp (disch := omega) only [b_X12_stands_185, b_X12_stands_181, b_X12_stands_186, ↓dhi_M, ↓dhG_M_0, ↓dhG_M_1, ↓dhG_M_2, ↓dhG_M_3, ↓dhG_M_4, ↓dhG_M_5, ↓dhG_M_6, ↓dhG_M_7, ↓dhG_M_8, ↓dhg_M_9, ↓dhq_M_9, ↓dhG_M_10, ↓dhG_M_11, ↓dhG_M_12, ↓dhg_M_13, ↓dhq_M_13, ↓dhG_M_14, ↓dhg_M_15, ↓dhq_M_15, ↓dhG_M_16, ↓dhg_M_17, ↓dhq_M_17, ↓dhg_M_18, ↓dhq_M_18, ↓dhG_M_19, ↓dhG_M_20, ↓dhG_M_21, ↓dhG_M_22, ↓dhG_M_23, ↓dhG_M_24, ↓dhg_M_25, ↓dhq_M_25, ↓dhG_M_26, ↓dhG_M_27, ↓dhG_M_28, ↓dhg_M_29, ↓dhq_M_29, ↓dhG_M_30, ↓dhG_M_31, ↓dhg_M_32, ↓dhq_M_32, ↓dhg_M_33, ↓dhq_M_33, ↓dhg_M_34, ↓dhq_M_34, ↓dhg_M_35, ↓dhq_M_35, ↓dhG_M_36, ↓dhG_M_37, ↓dhg_M_38, ↓dhq_M_38, ↓dhg_M_39, ↓dhq_M_39, ↓dhG_M_40, ↓dhG_M_41, ↓dhG_M_42, ↓dhG_M_43, ↓dhg_M_44, ↓dhq_M_44, ↓dha_174, ↓dhs_174, ↓dhl_174, Option.bind_some, ↓nm_eq, ↓sm_inl, ↓sm_inr, ↓dzo_0, ↓dzo_1, ↓drg_ok, ↓if_pos, ↓if_neg, if_pos, if_neg, if_true, if_false, Int.toNat_natCast, rg_ok, k15, e1, e2]
    -- the first production
    have fst : ∃ (s0 : Int) (J2 : Nat → Nat → Int) (pk : List (Nat × List Nat)), f_X12_stands n 161 sg sep (hp u J L) = b_X12_stands_122 n 161 sg (hh : Int) (H : Int) s0 (hp u J2 L) ∧ FQ w J1 J2 ∧ J2 174 = J1 174 ∧ J2 161 = J1 161 ∧ RQ w J2 pk ∧ ((s0 = 1 ∧ ps.length < 24 ∧ pk = ps ++ [(hh, if sg = 43 ∨ sg = 37 then [(r (H - 1)).toNat] else [])]) ∨ (s0 = 0 ∧ 24 ≤ ps.length ∧ pk = ps)) := by
      by_cases c : sg = 63 ∨ sg = 42
      · rw [e0, if_pos c, if_neg (by omega)]
        rcases ta J1 ps H H [] q1 rfl rfl (Nat.le_refl _) (Nat.le_refl _) (by omega) (by omega) ch_0 with ⟨z0, K', z1, z2, z3, z4, z5⟩ | ⟨z0, z1⟩
        · exact ⟨1, K', _, by simp only [z1, Option.bind_some], z3, z4, z5, z2, Or.inl ⟨rfl, z0, rfl⟩⟩
        · exact ⟨0, J1, ps, by simp only [z1, Option.bind_some], FQ.rf, rfl, rfl, q1, Or.inr ⟨rfl, z0, rfl⟩⟩
      · rw [e0, if_neg c, if_pos (by omega)]
        rcases ta J1 ps (H + 3) (H + 4) [(r (H - 1)).toNat] q1 rfl rfl (by omega) (by omega) (by omega) (by omega) (by rw [ch_1, j3]) with ⟨z0, K', z1, z2, z3, z4, z5⟩ | ⟨z0, z1⟩
        · exact ⟨1, K', _, by simp only [z1, Option.bind_some], z3, z4, z5, z2, Or.inl ⟨rfl, z0, rfl⟩⟩
        · exact ⟨0, J1, ps, by simp only [z1, Option.bind_some], FQ.rf, rfl, rfl, q1, Or.inr ⟨rfl, z0, rfl⟩⟩
    obtain ⟨s0, J2, pk, e3, f2, y1, y2, q2, hc⟩ := fst
    rw [e3]
    have rr2 : RR J2 r H := r1.fr y1 y2
    rcases hc with ⟨c1, c2, c3⟩ | ⟨c1, c2, c3⟩
    · have k2 : (H : Int) + 2 = ((H + 2 : Nat) : Int) := by omega
      have k3 : (H : Int) + 3 = ((H + 3 : Nat) : Int) := by omega
      have k4 : (H : Int) + 4 = ((H + 4 : Nat) : Int) := by omega
      have snd : (pk.length < 24 ∧ ∃ J', b_X12_stands_122 n 161 sg (hh : Int) (H : Int) s0 (hp u J2 L) = some (1, hp u (gx_u J' 174 (H - 1) ((16 + hh : Nat) : Int)) L) ∧ RQ w J' (pk ++ [(hh, if sg = 63 then [(r (H - 1)).toNat] else if sg = 37 then [16 + hh, sp, (r (H - 1)).toNat] else [16 + hh, (r (H - 1)).toNat])]) ∧ FQ w J2 J' ∧ J' 174 = J1 174 ∧ J' 161 = J1 161) ∨ (24 ≤ pk.length ∧ b_X12_stands_122 n 161 sg (hh : Int) (H : Int) s0 (hp u J2 L) = some (0, hp u (gx_u J2 174 (H - 1) ((16 + hh : Nat) : Int)) L)) := by
        rw [c1]
        by_cases c63 : sg = 63
        · rw [if_pos c63]
          rcases ta J2 pk (H + 3) (H + 4) [(r (H - 1)).toNat] q2 y1 y2 (by omega) (by omega) (by omega) (by omega) (by rw [ch_1, j3]) with ⟨z0, K', z1, z2, z3, z4, z5⟩ | ⟨z0, z1⟩
          · exact Or.inl ⟨z0, K', by simp (disch := omega) only [b_X12_stands_122, ↓dhi_M, ↓dhG_M_0, ↓dhG_M_1, ↓dhG_M_2, ↓dhG_M_3, ↓dhG_M_4, ↓dhG_M_5, ↓dhG_M_6, ↓dhG_M_7, ↓dhG_M_8, ↓dhg_M_9, ↓dhq_M_9, ↓dhG_M_10, ↓dhG_M_11, ↓dhG_M_12, ↓dhg_M_13, ↓dhq_M_13, ↓dhG_M_14, ↓dhg_M_15, ↓dhq_M_15, ↓dhG_M_16, ↓dhg_M_17, ↓dhq_M_17, ↓dhg_M_18, ↓dhq_M_18, ↓dhG_M_19, ↓dhG_M_20, ↓dhG_M_21, ↓dhG_M_22, ↓dhG_M_23, ↓dhG_M_24, ↓dhg_M_25, ↓dhq_M_25, ↓dhG_M_26, ↓dhG_M_27, ↓dhG_M_28, ↓dhg_M_29, ↓dhq_M_29, ↓dhG_M_30, ↓dhG_M_31, ↓dhg_M_32, ↓dhq_M_32, ↓dhg_M_33, ↓dhq_M_33, ↓dhg_M_34, ↓dhq_M_34, ↓dhg_M_35, ↓dhq_M_35, ↓dhG_M_36, ↓dhG_M_37, ↓dhg_M_38, ↓dhq_M_38, ↓dhg_M_39, ↓dhq_M_39, ↓dhG_M_40, ↓dhG_M_41, ↓dhG_M_42, ↓dhG_M_43, ↓dhg_M_44, ↓dhq_M_44, Option.bind_some, ↓nm_eq, ↓sm_inl, ↓sm_inr, ↓dzo_0, ↓dzo_1, ↓drg_ok, ↓if_pos, ↓if_neg, if_pos, if_neg, if_true, if_false, Int.toNat_natCast, rg_ok, ↓bnd z1, k3, k4, (b185 K' z5).2], z2, z3, z4, z5⟩
          · exact Or.inr ⟨z0, by simp (disch := omega) only [b_X12_stands_122, ↓dhi_M, ↓dhG_M_0, ↓dhG_M_1, ↓dhG_M_2, ↓dhG_M_3, ↓dhG_M_4, ↓dhG_M_5, ↓dhG_M_6, ↓dhG_M_7, ↓dhG_M_8, ↓dhg_M_9, ↓dhq_M_9, ↓dhG_M_10, ↓dhG_M_11, ↓dhG_M_12, ↓dhg_M_13, ↓dhq_M_13, ↓dhG_M_14, ↓dhg_M_15, ↓dhq_M_15, ↓dhG_M_16, ↓dhg_M_17, ↓dhq_M_17, ↓dhg_M_18, ↓dhq_M_18, ↓dhG_M_19, ↓dhG_M_20, ↓dhG_M_21, ↓dhG_M_22, ↓dhG_M_23, ↓dhG_M_24, ↓dhg_M_25, ↓dhq_M_25, ↓dhG_M_26, ↓dhG_M_27, ↓dhG_M_28, ↓dhg_M_29, ↓dhq_M_29, ↓dhG_M_30, ↓dhG_M_31, ↓dhg_M_32, ↓dhq_M_32, ↓dhg_M_33, ↓dhq_M_33, ↓dhg_M_34, ↓dhq_M_34, ↓dhg_M_35, ↓dhq_M_35, ↓dhG_M_36, ↓dhG_M_37, ↓dhg_M_38, ↓dhq_M_38, ↓dhg_M_39, ↓dhq_M_39, ↓dhG_M_40, ↓dhG_M_41, ↓dhG_M_42, ↓dhG_M_43, ↓dhg_M_44, ↓dhq_M_44, Option.bind_some, ↓nm_eq, ↓sm_inl, ↓sm_inr, ↓dzo_0, ↓dzo_1, ↓drg_ok, ↓if_pos, ↓if_neg, if_pos, if_neg, if_true, if_false, Int.toNat_natCast, rg_ok, ↓bnd z1, k3, k4, (b185 J2 y2).1]⟩
        · rw [if_neg c63]
          by_cases c37 : sg = 37
          · rw [if_pos c37]
            rcases ta J2 pk H (H + 3) [16 + hh, sp, (r (H - 1)).toNat] q2 y1 y2 (by omega) (by omega) (by omega) (by omega) (by rw [ch_3, j0, j1, j2, hx1n, if_pos c37]; rfl) with ⟨z0, K', z1, z2, z3, z4, z5⟩ | ⟨z0, z1⟩
            · exact Or.inl ⟨z0, K', by simp (disch := omega) only [b_X12_stands_122, b_X12_stands_175, ↓dhi_M, ↓dhG_M_0, ↓dhG_M_1, ↓dhG_M_2, ↓dhG_M_3, ↓dhG_M_4, ↓dhG_M_5, ↓dhG_M_6, ↓dhG_M_7, ↓dhG_M_8, ↓dhg_M_9, ↓dhq_M_9, ↓dhG_M_10, ↓dhG_M_11, ↓dhG_M_12, ↓dhg_M_13, ↓dhq_M_13, ↓dhG_M_14, ↓dhg_M_15, ↓dhq_M_15, ↓dhG_M_16, ↓dhg_M_17, ↓dhq_M_17, ↓dhg_M_18, ↓dhq_M_18, ↓dhG_M_19, ↓dhG_M_20, ↓dhG_M_21, ↓dhG_M_22, ↓dhG_M_23, ↓dhG_M_24, ↓dhg_M_25, ↓dhq_M_25, ↓dhG_M_26, ↓dhG_M_27, ↓dhG_M_28, ↓dhg_M_29, ↓dhq_M_29, ↓dhG_M_30, ↓dhG_M_31, ↓dhg_M_32, ↓dhq_M_32, ↓dhg_M_33, ↓dhq_M_33, ↓dhg_M_34, ↓dhq_M_34, ↓dhg_M_35, ↓dhq_M_35, ↓dhG_M_36, ↓dhG_M_37, ↓dhg_M_38, ↓dhq_M_38, ↓dhg_M_39, ↓dhq_M_39, ↓dhG_M_40, ↓dhG_M_41, ↓dhG_M_42, ↓dhG_M_43, ↓dhg_M_44, ↓dhq_M_44, Option.bind_some, ↓nm_eq, ↓sm_inl, ↓sm_inr, ↓dzo_0, ↓dzo_1, ↓drg_ok, ↓if_pos, ↓if_neg, if_pos, if_neg, if_true, if_false, Int.toNat_natCast, rg_ok, ↓bnd z1, k3, (b185 K' z5).2], z2, z3, z4, z5⟩
            · exact Or.inr ⟨z0, by simp (disch := omega) only [b_X12_stands_122, b_X12_stands_175, ↓dhi_M, ↓dhG_M_0, ↓dhG_M_1, ↓dhG_M_2, ↓dhG_M_3, ↓dhG_M_4, ↓dhG_M_5, ↓dhG_M_6, ↓dhG_M_7, ↓dhG_M_8, ↓dhg_M_9, ↓dhq_M_9, ↓dhG_M_10, ↓dhG_M_11, ↓dhG_M_12, ↓dhg_M_13, ↓dhq_M_13, ↓dhG_M_14, ↓dhg_M_15, ↓dhq_M_15, ↓dhG_M_16, ↓dhg_M_17, ↓dhq_M_17, ↓dhg_M_18, ↓dhq_M_18, ↓dhG_M_19, ↓dhG_M_20, ↓dhG_M_21, ↓dhG_M_22, ↓dhG_M_23, ↓dhG_M_24, ↓dhg_M_25, ↓dhq_M_25, ↓dhG_M_26, ↓dhG_M_27, ↓dhG_M_28, ↓dhg_M_29, ↓dhq_M_29, ↓dhG_M_30, ↓dhG_M_31, ↓dhg_M_32, ↓dhq_M_32, ↓dhg_M_33, ↓dhq_M_33, ↓dhg_M_34, ↓dhq_M_34, ↓dhg_M_35, ↓dhq_M_35, ↓dhG_M_36, ↓dhG_M_37, ↓dhg_M_38, ↓dhq_M_38, ↓dhg_M_39, ↓dhq_M_39, ↓dhG_M_40, ↓dhG_M_41, ↓dhG_M_42, ↓dhG_M_43, ↓dhg_M_44, ↓dhq_M_44, Option.bind_some, ↓nm_eq, ↓sm_inl, ↓sm_inr, ↓dzo_0, ↓dzo_1, ↓drg_ok, ↓if_pos, ↓if_neg, if_pos, if_neg, if_true, if_false, Int.toNat_natCast, rg_ok, ↓bnd z1, k3, (b185 J2 y2).1]⟩
          · rw [if_neg c37]
            rcases ta J2 pk H (H + 2) [16 + hh, (r (H - 1)).toNat] q2 y1 y2 (by omega) (by omega) (by omega) (by omega) (by rw [ch_2, j0, j1, hx1n, if_neg c37]; rfl) with ⟨z0, K', z1, z2, z3, z4, z5⟩ | ⟨z0, z1⟩
            · exact Or.inl ⟨z0, K', by simp (disch := omega) only [b_X12_stands_122, b_X12_stands_175, ↓dhi_M, ↓dhG_M_0, ↓dhG_M_1, ↓dhG_M_2, ↓dhG_M_3, ↓dhG_M_4, ↓dhG_M_5, ↓dhG_M_6, ↓dhG_M_7, ↓dhG_M_8, ↓dhg_M_9, ↓dhq_M_9, ↓dhG_M_10, ↓dhG_M_11, ↓dhG_M_12, ↓dhg_M_13, ↓dhq_M_13, ↓dhG_M_14, ↓dhg_M_15, ↓dhq_M_15, ↓dhG_M_16, ↓dhg_M_17, ↓dhq_M_17, ↓dhg_M_18, ↓dhq_M_18, ↓dhG_M_19, ↓dhG_M_20, ↓dhG_M_21, ↓dhG_M_22, ↓dhG_M_23, ↓dhG_M_24, ↓dhg_M_25, ↓dhq_M_25, ↓dhG_M_26, ↓dhG_M_27, ↓dhG_M_28, ↓dhg_M_29, ↓dhq_M_29, ↓dhG_M_30, ↓dhG_M_31, ↓dhg_M_32, ↓dhq_M_32, ↓dhg_M_33, ↓dhq_M_33, ↓dhg_M_34, ↓dhq_M_34, ↓dhg_M_35, ↓dhq_M_35, ↓dhG_M_36, ↓dhG_M_37, ↓dhg_M_38, ↓dhq_M_38, ↓dhg_M_39, ↓dhq_M_39, ↓dhG_M_40, ↓dhG_M_41, ↓dhG_M_42, ↓dhG_M_43, ↓dhg_M_44, ↓dhq_M_44, Option.bind_some, ↓nm_eq, ↓sm_inl, ↓sm_inr, ↓dzo_0, ↓dzo_1, ↓drg_ok, ↓if_pos, ↓if_neg, if_pos, if_neg, if_true, if_false, Int.toNat_natCast, rg_ok, ↓bnd z1, k2, (b185 K' z5).2], z2, z3, z4, z5⟩
            · exact Or.inr ⟨z0, by simp (disch := omega) only [b_X12_stands_122, b_X12_stands_175, ↓dhi_M, ↓dhG_M_0, ↓dhG_M_1, ↓dhG_M_2, ↓dhG_M_3, ↓dhG_M_4, ↓dhG_M_5, ↓dhG_M_6, ↓dhG_M_7, ↓dhG_M_8, ↓dhg_M_9, ↓dhq_M_9, ↓dhG_M_10, ↓dhG_M_11, ↓dhG_M_12, ↓dhg_M_13, ↓dhq_M_13, ↓dhG_M_14, ↓dhg_M_15, ↓dhq_M_15, ↓dhG_M_16, ↓dhg_M_17, ↓dhq_M_17, ↓dhg_M_18, ↓dhq_M_18, ↓dhG_M_19, ↓dhG_M_20, ↓dhG_M_21, ↓dhG_M_22, ↓dhG_M_23, ↓dhG_M_24, ↓dhg_M_25, ↓dhq_M_25, ↓dhG_M_26, ↓dhG_M_27, ↓dhG_M_28, ↓dhg_M_29, ↓dhq_M_29, ↓dhG_M_30, ↓dhG_M_31, ↓dhg_M_32, ↓dhq_M_32, ↓dhg_M_33, ↓dhq_M_33, ↓dhg_M_34, ↓dhq_M_34, ↓dhg_M_35, ↓dhq_M_35, ↓dhG_M_36, ↓dhG_M_37, ↓dhg_M_38, ↓dhq_M_38, ↓dhg_M_39, ↓dhq_M_39, ↓dhG_M_40, ↓dhG_M_41, ↓dhG_M_42, ↓dhG_M_43, ↓dhg_M_44, ↓dhq_M_44, Option.bind_some, ↓nm_eq, ↓sm_inl, ↓sm_inr, ↓dzo_0, ↓dzo_1, ↓drg_ok, ↓if_pos, ↓if_neg, if_pos, if_neg, if_true, if_false, Int.toNat_natCast, rg_ok, ↓bnd z1, k2, (b185 J2 y2).1]⟩
      have hlen : pk.length = ps.length + 1 := by rw [c3]; simp
      rcases snd with ⟨z0, K', z1, z2, z3, z4, z5⟩ | ⟨z0, z1⟩
      · left
        rw [z1]
        have rr3 : RR K' r H := r1.fr z4 z5
        refine ⟨_, _, if_pos (by omega), rfl, ?_, ((f1.tr f2).tr z3).tr FQ.row, rr3.top (by omega) (by omega)⟩
        dsimp only
        rw [← c3]; exact z2.row
      · right
        rw [z1]
        exact ⟨if_neg (by omega), _, pk, rfl, by rw [c3]; exact PX.rf.ap _, q2.row, (f1.tr f2).tr FQ.row⟩
    · right
      refine ⟨if_neg (by omega), gx_u J2 174 (H - 1) ((16 + hh : Nat) : Int), ps, ?_, PX.rf, by rw [← c3]; exact q2.row, (f1.tr f2).tr FQ.row⟩
      rw [c1]
      simp (disch := omega) only [b_X12_stands_122, Option.bind_some, ↓nm_eq, ↓sm_inl, ↓sm_inr, ↓dzo_0, ↓dzo_1, ↓drg_ok, ↓if_pos, ↓if_neg, if_pos, if_neg, if_true, if_false, Int.toNat_natCast, rg_ok, (b185 J2 y2).1]
theorem X12_closes (hn : 1000000000000000000000000000000 ≤ n) {w : Nat} {J : Nat → Nat → Int} {ps : List (Nat × List Nat)} (h : RQ w J ps) (h9 : J 161 9 = (w : Int)) {r : Nat → Int} {H : Nat} (hR : RR J r H) (hH : H ≤ 24) (hs : ∀ i, i < H → r i = -1 ∨ r i = -2 ∨ sgd (r i)) {b : Nat} (hl : lo r H = some b) :
    (∃ q J', cls ps r H = some q ∧ f_X12_closes n 161 (hp u J L) = some (1, hp u J' L) ∧ RQ w J' q.1 ∧ FQ w J J' ∧ RR J' q.2.1 q.2.2) ∨
    (cls ps r H = none ∧ ∃ J' psx, f_X12_closes n 161 (hp u J L) = some (0, hp u J' L) ∧ PX ps psx ∧ RQ w J' psx ∧ FQ w J J') := by
  have eh := X12_helper (u := u) (L := L) hn h h9
  have g1 := hR.1
  obtain ⟨l1, l2, l3⟩ := lo_spec hl
  have e1 : f_X12_closes n 161 (hp u J L) = b_X12_closes_23 n 161 ((b + 1 : Nat) : Int) (hp u J L) := by
    have key : zWL (fun f (k : Nat) => l_X12_closes_5 n f 161 (k : Int) (hp u J L)) (fun k => k) (fun k => b + 1 ≤ k ∧ k ≤ H) (fun res => res = b_X12_closes_23 n 161 ((b + 1 : Nat) : Int) (hp u J L)) := by
      refine zwl ?_
      rintro f k ⟨hk1, hk2⟩
      have ek : ((k : Int) - 1).toNat = k - 1 := by omega
      have g3 : J 174 (k - 1) = sw (r (k - 1)) := hR.2 (k - 1) (by omega)
      by_cases e : k = b + 1
      · left
        have g4 : J 174 (k - 1) = -1 := by rw [g3, show k - 1 = b by omega, l2]; rfl
        rw [← e]
        simp (disch := omega) only [l_X12_closes_5, b_X12_closes_5, ↓dhi_M, ↓dhG_M_0, ↓dhG_M_1, ↓dhG_M_2, ↓dhG_M_3, ↓dhG_M_4, ↓dhG_M_5, ↓dhG_M_6, ↓dhG_M_7, ↓dhG_M_8, ↓dhg_M_9, ↓dhq_M_9, ↓dhG_M_10, ↓dhG_M_11, ↓dhG_M_12, ↓dhg_M_13, ↓dhq_M_13, ↓dhG_M_14, ↓dhg_M_15, ↓dhq_M_15, ↓dhG_M_16, ↓dhg_M_17, ↓dhq_M_17, ↓dhg_M_18, ↓dhq_M_18, ↓dhG_M_19, ↓dhG_M_20, ↓dhG_M_21, ↓dhG_M_22, ↓dhG_M_23, ↓dhG_M_24, ↓dhg_M_25, ↓dhq_M_25, ↓dhG_M_26, ↓dhG_M_27, ↓dhG_M_28, ↓dhg_M_29, ↓dhq_M_29, ↓dhG_M_30, ↓dhG_M_31, ↓dhg_M_32, ↓dhq_M_32, ↓dhg_M_33, ↓dhq_M_33, ↓dhg_M_34, ↓dhq_M_34, ↓dhg_M_35, ↓dhq_M_35, ↓dhG_M_36, ↓dhG_M_37, ↓dhg_M_38, ↓dhq_M_38, ↓dhg_M_39, ↓dhq_M_39, ↓dhG_M_40, ↓dhG_M_41, ↓dhG_M_42, ↓dhG_M_43, ↓dhg_M_44, ↓dhq_M_44, ↓dha_174, ↓dhs_174, ↓dhl_174, Option.bind_some, ↓nm_eq, ↓sm_inl, ↓sm_inr, ↓dzo_0, ↓dzo_1, ↓drg_ok, ↓if_pos, ↓if_neg, if_pos, if_neg, if_true, if_false, Int.toNat_natCast, rg_ok, ek, g4]
      · right
        have h5 := l3 (k - 1) (by omega) (by omega)
        have h6 := hs (k - 1) (by omega)
        have g4 : J 174 (k - 1) ≠ -1 ∧ -2 ≤ J 174 (k - 1) ∧ J 174 (k - 1) < 32 := by
          rw [g3]
          rcases h6 with z | z | z
          · rw [z]; decide
          · exact absurd z h5
          · rw [sw_s z]; unfold sgd at z; omega
        refine ⟨k - 1, ?_, ⟨by omega, by omega⟩, by omega⟩
        simp (disch := omega) only [l_X12_closes_5, b_X12_closes_5, ↓dhi_M, ↓dhG_M_0, ↓dhG_M_1, ↓dhG_M_2, ↓dhG_M_3, ↓dhG_M_4, ↓dhG_M_5, ↓dhG_M_6, ↓dhG_M_7, ↓dhG_M_8, ↓dhg_M_9, ↓dhq_M_9, ↓dhG_M_10, ↓dhG_M_11, ↓dhG_M_12, ↓dhg_M_13, ↓dhq_M_13, ↓dhG_M_14, ↓dhg_M_15, ↓dhq_M_15, ↓dhG_M_16, ↓dhg_M_17, ↓dhq_M_17, ↓dhg_M_18, ↓dhq_M_18, ↓dhG_M_19, ↓dhG_M_20, ↓dhG_M_21, ↓dhG_M_22, ↓dhG_M_23, ↓dhG_M_24, ↓dhg_M_25, ↓dhq_M_25, ↓dhG_M_26, ↓dhG_M_27, ↓dhG_M_28, ↓dhg_M_29, ↓dhq_M_29, ↓dhG_M_30, ↓dhG_M_31, ↓dhg_M_32, ↓dhq_M_32, ↓dhg_M_33, ↓dhq_M_33, ↓dhg_M_34, ↓dhq_M_34, ↓dhg_M_35, ↓dhq_M_35, ↓dhG_M_36, ↓dhG_M_37, ↓dhg_M_38, ↓dhq_M_38, ↓dhg_M_39, ↓dhq_M_39, ↓dhG_M_40, ↓dhG_M_41, ↓dhG_M_42, ↓dhG_M_43, ↓dhg_M_44, ↓dhq_M_44, ↓dha_174, ↓dhs_174, ↓dhl_174, Option.bind_some, ↓nm_eq, ↓sm_inl, ↓sm_inr, ↓dzo_0, ↓dzo_1, ↓drg_ok, ↓if_pos, ↓if_neg, if_pos, if_neg, if_true, if_false, Int.toNat_natCast, rg_ok, ek]
        rw [show (k : Int) + -1 = ((k - 1 : Nat) : Int) by omega]
    have e := key H n H (Nat.le_refl _) (by omega) ⟨by omega, Nat.le_refl _⟩
    rw [← e]
    simp (disch := omega) only [f_X12_closes, ↓dhi_M, ↓dhG_M_0, ↓dhG_M_1, ↓dhG_M_2, ↓dhG_M_3, ↓dhG_M_4, ↓dhG_M_5, ↓dhG_M_6, ↓dhG_M_7, ↓dhG_M_8, ↓dhg_M_9, ↓dhq_M_9, ↓dhG_M_10, ↓dhG_M_11, ↓dhG_M_12, ↓dhg_M_13, ↓dhq_M_13, ↓dhG_M_14, ↓dhg_M_15, ↓dhq_M_15, ↓dhG_M_16, ↓dhg_M_17, ↓dhq_M_17, ↓dhg_M_18, ↓dhq_M_18, ↓dhG_M_19, ↓dhG_M_20, ↓dhG_M_21, ↓dhG_M_22, ↓dhG_M_23, ↓dhG_M_24, ↓dhg_M_25, ↓dhq_M_25, ↓dhG_M_26, ↓dhG_M_27, ↓dhG_M_28, ↓dhg_M_29, ↓dhq_M_29, ↓dhG_M_30, ↓dhG_M_31, ↓dhg_M_32, ↓dhq_M_32, ↓dhg_M_33, ↓dhq_M_33, ↓dhg_M_34, ↓dhq_M_34, ↓dhg_M_35, ↓dhq_M_35, ↓dhG_M_36, ↓dhG_M_37, ↓dhg_M_38, ↓dhq_M_38, ↓dhg_M_39, ↓dhq_M_39, ↓dhG_M_40, ↓dhG_M_41, ↓dhG_M_42, ↓dhG_M_43, ↓dhg_M_44, ↓dhq_M_44, Option.bind_some, ↓nm_eq, ↓sm_inl, ↓sm_inr, ↓dzo_0, ↓dzo_1, ↓drg_ok, ↓if_pos, ↓if_neg, if_pos, if_neg, if_true, if_false, Int.toNat_natCast, rg_ok, g1]
  rw [e1]
  unfold cls
  rw [hl]
  dsimp only
  cases hf : fH ps with
  | none =>
    rw [hf] at eh
    right
    refine ⟨rfl, J, ps, ?_, PX.rf, h, FQ.rf⟩
    simp (disch := omega) only [b_X12_closes_23, ↓dhi_M, ↓dhG_M_0, ↓dhG_M_1, ↓dhG_M_2, ↓dhG_M_3, ↓dhG_M_4, ↓dhG_M_5, ↓dhG_M_6, ↓dhG_M_7, ↓dhG_M_8, ↓dhg_M_9, ↓dhq_M_9, ↓dhG_M_10, ↓dhG_M_11, ↓dhG_M_12, ↓dhg_M_13, ↓dhq_M_13, ↓dhG_M_14, ↓dhg_M_15, ↓dhq_M_15, ↓dhG_M_16, ↓dhg_M_17, ↓dhq_M_17, ↓dhg_M_18, ↓dhq_M_18, ↓dhG_M_19, ↓dhG_M_20, ↓dhG_M_21, ↓dhG_M_22, ↓dhG_M_23, ↓dhG_M_24, ↓dhg_M_25, ↓dhq_M_25, ↓dhG_M_26, ↓dhG_M_27, ↓dhG_M_28, ↓dhg_M_29, ↓dhq_M_29, ↓dhG_M_30, ↓dhG_M_31, ↓dhg_M_32, ↓dhq_M_32, ↓dhg_M_33, ↓dhq_M_33, ↓dhg_M_34, ↓dhq_M_34, ↓dhg_M_35, ↓dhq_M_35, ↓dhG_M_36, ↓dhG_M_37, ↓dhg_M_38, ↓dhq_M_38, ↓dhg_M_39, ↓dhq_M_39, ↓dhG_M_40, ↓dhG_M_41, ↓dhG_M_42, ↓dhG_M_43, ↓dhg_M_44, ↓dhq_M_44, Option.bind_some, ↓nm_eq, ↓sm_inl, ↓sm_inr, ↓dzo_0, ↓dzo_1, ↓drg_ok, ↓if_pos, ↓if_neg, if_pos, if_neg, if_true, if_false, Int.toNat_natCast, rg_ok, ↓bnd eh]
  | some hh =>
    rw [hf] at eh
    have hh16 := fH_rg hf
    have e2 : (16 : Int) + (hh : Int) = ((16 + hh : Nat) : Int) := by omega
    dsimp only at eh ⊢
    rcases X12_addsAll (u := u) (L := L) hn h h9 hR hH (a := b + 1) (o := hh) (by omega) (fun i q1 q2 => by
      rcases hs i q2 with z | z | z
      · exact Or.inl z
      · exact absurd z (l3 i (by omega) q2)
      · exact Or.inr z) (by omega) with ⟨ps', J1, a1, a2, a3, a4, a5, a6⟩ | ⟨a1, J1, psx, a2, a3, a4, a5, a6, a7⟩
    · left
      rw [a1]
      dsimp only
      have k15 : gx_u J1 161 15 ((b + 1 : Nat) : Int) 161 15 = ((b + 1 : Nat) : Int) := gu_same _ _ _ _
      have ek : (((b + 1 : Nat) : Int) - 1).toNat = b := by omega
      refine ⟨_, gx_u (gx_u J1 161 15 ((b + 1 : Nat) : Int)) 174 b ((16 + hh : Nat) : Int), rfl, ?_, (a3.ht).row, (a4.tr FQ.ht).tr FQ.row, ?_⟩
      · simp (disch := omega) only [b_X12_closes_23, ↓dhi_M, ↓dhG_M_0, ↓dhG_M_1, ↓dhG_M_2, ↓dhG_M_3, ↓dhG_M_4, ↓dhG_M_5, ↓dhG_M_6, ↓dhG_M_7, ↓dhG_M_8, ↓dhg_M_9, ↓dhq_M_9, ↓dhG_M_10, ↓dhG_M_11, ↓dhG_M_12, ↓dhg_M_13, ↓dhq_M_13, ↓dhG_M_14, ↓dhg_M_15, ↓dhq_M_15, ↓dhG_M_16, ↓dhg_M_17, ↓dhq_M_17, ↓dhg_M_18, ↓dhq_M_18, ↓dhG_M_19, ↓dhG_M_20, ↓dhG_M_21, ↓dhG_M_22, ↓dhG_M_23, ↓dhG_M_24, ↓dhg_M_25, ↓dhq_M_25, ↓dhG_M_26, ↓dhG_M_27, ↓dhG_M_28, ↓dhg_M_29, ↓dhq_M_29, ↓dhG_M_30, ↓dhG_M_31, ↓dhg_M_32, ↓dhq_M_32, ↓dhg_M_33, ↓dhq_M_33, ↓dhg_M_34, ↓dhq_M_34, ↓dhg_M_35, ↓dhq_M_35, ↓dhG_M_36, ↓dhG_M_37, ↓dhg_M_38, ↓dhq_M_38, ↓dhg_M_39, ↓dhq_M_39, ↓dhG_M_40, ↓dhG_M_41, ↓dhG_M_42, ↓dhG_M_43, ↓dhg_M_44, ↓dhq_M_44, ↓dha_174, ↓dhs_174, ↓dhl_174, Option.bind_some, ↓nm_eq, ↓sm_inl, ↓sm_inr, ↓dzo_0, ↓dzo_1, ↓drg_ok, ↓if_pos, ↓if_neg, if_pos, if_neg, if_true, if_false, Int.toNat_natCast, rg_ok, ↓bnd eh, ↓bnd a2, k15, ek, e2]
      · refine ⟨by rw [gu_ne (by decide)]; exact gu_same _ _ _ _, fun i hi => ?_⟩
        dsimp only at hi ⊢
        by_cases e : i = b
        · rw [e, zup_eq, gu_at_eq rfl, sw_s (by unfold sgd; omega)]
        · rw [zup_ne e, gu_at_ne e, gu_ne (by decide), a5]; exact hR.2 i (by omega)
    · right
      rw [a1]
      refine ⟨rfl, J1, psx, ?_, a3, a4, a5⟩
      simp (disch := omega) only [b_X12_closes_23, ↓dhi_M, ↓dhG_M_0, ↓dhG_M_1, ↓dhG_M_2, ↓dhG_M_3, ↓dhG_M_4, ↓dhG_M_5, ↓dhG_M_6, ↓dhG_M_7, ↓dhG_M_8, ↓dhg_M_9, ↓dhq_M_9, ↓dhG_M_10, ↓dhG_M_11, ↓dhG_M_12, ↓dhg_M_13, ↓dhq_M_13, ↓dhG_M_14, ↓dhg_M_15, ↓dhq_M_15, ↓dhG_M_16, ↓dhg_M_17, ↓dhq_M_17, ↓dhg_M_18, ↓dhq_M_18, ↓dhG_M_19, ↓dhG_M_20, ↓dhG_M_21, ↓dhG_M_22, ↓dhG_M_23, ↓dhG_M_24, ↓dhg_M_25, ↓dhq_M_25, ↓dhG_M_26, ↓dhG_M_27, ↓dhG_M_28, ↓dhg_M_29, ↓dhq_M_29, ↓dhG_M_30, ↓dhG_M_31, ↓dhg_M_32, ↓dhq_M_32, ↓dhg_M_33, ↓dhq_M_33, ↓dhg_M_34, ↓dhq_M_34, ↓dhg_M_35, ↓dhq_M_35, ↓dhG_M_36, ↓dhG_M_37, ↓dhg_M_38, ↓dhq_M_38, ↓dhg_M_39, ↓dhq_M_39, ↓dhG_M_40, ↓dhG_M_41, ↓dhG_M_42, ↓dhG_M_43, ↓dhg_M_44, ↓dhq_M_44, ↓dha_174, ↓dhs_174, ↓dhl_174, Option.bind_some, ↓nm_eq, ↓sm_inl, ↓sm_inr, ↓dzo_0, ↓dzo_1, ↓drg_ok, ↓if_pos, ↓if_neg, if_pos, if_neg, if_true, if_false, Int.toNat_natCast, rg_ok, ↓bnd eh, ↓bnd a2]
end QB
