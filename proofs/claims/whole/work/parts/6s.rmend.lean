/-! ===== the reference: repair ===== -/
section RMD
variable {u : Nat} {n : Nat} {nw : Nat} {L : Nat → Nat → Int} {g : GT} {w : Nat → Nat}
theorem X12_editsOf (hn : 1000000000000000000000000000000 ≤ n) {J0 : Nat → Nat → Int} (hE : RE g J0) (hs : WSE w nw J0) (hsw : SW w nw) {v : CV} (hv : ∀ a x y, v a x y ≤ 100) {p x y : Nat} (hp1 : p < Gn g) (hxy : x ≤ y) (hy : y ≤ nw)
    (hW : ∀ a, a < 16 → ∀ m m', x ≤ m → m ≤ m' → m' ≤ y → J0 190 (169 * a + 13 * m + m') = (v a m m' : Int)) :
    ∃ J, f_X12_editsOf n 161 (p : Int) (x : Int) (y : Int) (hp u J0 L) = some ((qE g w v p x y : Int), hp u J L) ∧ Fr [191, 192] J0 J := by
  have hg := hE.gr
  have h12 := hsw.1
  have h5 := hg.2.2.2.1 p
  have esz := re_size (u := u) (L := L) hE hp1
  unfold qE
  by_cases c : Gl g p = 0
  · rw [if_pos c]
    have e2 : (y : Int) - (x : Int) = ((y - x : Nat) : Int) := by omega
    refine ⟨J0, ?_, Fr.rf⟩
    simp (disch := omega) only [f_X12_editsOf, ↓dhi_M, ↓dhG_M_0, ↓dhG_M_1, ↓dhG_M_2, ↓dhG_M_3, ↓dhG_M_4, ↓dhG_M_5, ↓dhG_M_6, ↓dhG_M_7, ↓dhG_M_8, ↓dhg_M_9, ↓dhq_M_9, ↓dhG_M_10, ↓dhG_M_11, ↓dhG_M_12, ↓dhg_M_13, ↓dhq_M_13, ↓dhG_M_14, ↓dhg_M_15, ↓dhq_M_15, ↓dhG_M_16, ↓dhg_M_17, ↓dhq_M_17, ↓dhg_M_18, ↓dhq_M_18, ↓dhG_M_19, ↓dhG_M_20, ↓dhG_M_21, ↓dhG_M_22, ↓dhG_M_23, ↓dhG_M_24, ↓dhg_M_25, ↓dhq_M_25, ↓dhG_M_26, ↓dhG_M_27, ↓dhG_M_28, ↓dhg_M_29, ↓dhq_M_29, ↓dhG_M_30, ↓dhG_M_31, ↓dhg_M_32, ↓dhq_M_32, ↓dhg_M_33, ↓dhq_M_33, ↓dhg_M_34, ↓dhq_M_34, ↓dhg_M_35, ↓dhq_M_35, ↓dhG_M_36, ↓dhG_M_37, ↓dhg_M_38, ↓dhq_M_38, ↓dhg_M_39, ↓dhq_M_39, ↓dhG_M_40, ↓dhG_M_41, ↓dhG_M_42, ↓dhG_M_43, ↓dhg_M_44, ↓dhq_M_44, Option.bind_some, ↓nm_eq, ↓sm_inl, ↓sm_inr, ↓dzo_0, ↓dzo_1, ↓drg_ok, ↓if_pos, ↓if_neg, if_pos, if_neg, if_true, if_false, Int.toNat_natCast, rg_ok, ↓bnd esz, e2]
  · rw [if_neg c]
    obtain ⟨J, e, f⟩ := X12_editsOf_all (u := u) (L := L) hn hE hs hsw hv hp1 hxy hy hW
    refine ⟨J, ?_, f⟩
    rw [← e]
    simp (disch := omega) only [f_X12_editsOf, ↓dhi_M, ↓dhG_M_0, ↓dhG_M_1, ↓dhG_M_2, ↓dhG_M_3, ↓dhG_M_4, ↓dhG_M_5, ↓dhG_M_6, ↓dhG_M_7, ↓dhG_M_8, ↓dhg_M_9, ↓dhq_M_9, ↓dhG_M_10, ↓dhG_M_11, ↓dhG_M_12, ↓dhg_M_13, ↓dhq_M_13, ↓dhG_M_14, ↓dhg_M_15, ↓dhq_M_15, ↓dhG_M_16, ↓dhg_M_17, ↓dhq_M_17, ↓dhg_M_18, ↓dhq_M_18, ↓dhG_M_19, ↓dhG_M_20, ↓dhG_M_21, ↓dhG_M_22, ↓dhG_M_23, ↓dhG_M_24, ↓dhg_M_25, ↓dhq_M_25, ↓dhG_M_26, ↓dhG_M_27, ↓dhG_M_28, ↓dhg_M_29, ↓dhq_M_29, ↓dhG_M_30, ↓dhG_M_31, ↓dhg_M_32, ↓dhq_M_32, ↓dhg_M_33, ↓dhq_M_33, ↓dhg_M_34, ↓dhq_M_34, ↓dhg_M_35, ↓dhq_M_35, ↓dhG_M_36, ↓dhG_M_37, ↓dhg_M_38, ↓dhq_M_38, ↓dhg_M_39, ↓dhq_M_39, ↓dhG_M_40, ↓dhG_M_41, ↓dhG_M_42, ↓dhG_M_43, ↓dhg_M_44, ↓dhq_M_44, Option.bind_some, ↓nm_eq, ↓sm_inl, ↓sm_inr, ↓dzo_0, ↓dzo_1, ↓drg_ok, ↓if_pos, ↓if_neg, if_pos, if_neg, if_true, if_false, Int.toNat_natCast, rg_ok, ↓bnd esz]
theorem KQ.step (hg : GR g) {v : CV} (hv : ∀ a x y, v a x y ≤ 100) {x y : Nat} (hxy : x ≤ y) (hy : y ≤ 12) {z : Nat → Nat} (h : KQ g w v x y z) {p : Nat} (hp1 : p < Gn g) : KQ g w v x y (zu z (Go g p) (mn (z (Go g p)) (qE g w (vs v x y z) p x y))) := by
  have hvz : ∀ a x' y', vs v x y z a x' y' ≤ 100 := fun a x' y' => by
    unfold vs; split
    · exact h.1 a
    · exact hv a x' y'
  refine ⟨fun b => ?_, fun t ht hc a ha => ?_⟩
  · unfold zu; split
    · exact Nat.le_trans (mn_le _ _).1 (h.1 _)
    · exact h.1 b
  · have h1 := h.2 t ht hc
    by_cases e : a = Go g p
    · rw [e, zu_eq]
      have h2 := h1 (Go g p) (hg.2.2.1 p)
      have h3 := Nat.le_trans (hc p hp1) (qE_mono (w := w) (p := p) hg hvz hxy hy (vs_le h1))
      unfold mn; split <;> omega
    · rw [zu_ne e]; exact h1 a ha
theorem X12_mended (hn : 1000000000000000000000000000000 ≤ n) {J0 : Nat → Nat → Int} (hE : RE g J0) (hs : WSE w nw J0) (hsw : SW w nw) {v : CV} (hv : ∀ a x y, v a x y ≤ 100) {x y : Nat} (hxy : x ≤ y) (hy : y ≤ nw) {z : Nat → Nat} (hz : KQ g w v x y z)
    (hW : ∀ a, a < 16 → ∀ m m', m ≤ 12 → m' ≤ 12 → J0 190 (169 * a + 13 * m + m') = (vs v x y z a m m' : Int)) :
    ∃ (r : Int) (J : Nat → Nat → Int) (z' : Nat → Nat), f_X12_mended n 161 (x : Int) (y : Int) (hp u J0 L) = some (r, hp u J L) ∧ Fr [190, 191, 192] J0 J ∧ KQ g w v x y z' ∧
      (∀ a, a < 16 → ∀ m m', m ≤ 12 → m' ≤ 12 → J 190 (169 * a + 13 * m + m') = (vs v x y z' a m m' : Int)) ∧ ((r = 0 ∧ z' = z ∧ ∀ p, p < Gn g → z (Go g p) ≤ qE g w (vs v x y z) p x y) ∨ (r = 1 ∧ sD z' 16 < sD z 16)) := by
  have hg := hE.gr
  have h24 := hg.1
  have h12 := hsw.1
  have key : zLP (Gn g) (fun f p (s : Bool × (Nat → Nat → Int) × (Nat → Nat)) => l_X12_mended_5 n f 161 (x : Int) (y : Int) (b01 s.1) (p : Int) (hp u s.2.1 L))
      (fun p s => Fr [190, 191, 192] J0 s.2.1 ∧ KQ g w v x y s.2.2 ∧ (∀ a, a < 16 → ∀ m m', m ≤ 12 → m' ≤ 12 → s.2.1 190 (169 * a + 13 * m + m') = (vs v x y s.2.2 a m m' : Int)) ∧ ((s.1 = false ∧ s.2.2 = z ∧ ∀ q, q < p → z (Go g q) ≤ qE g w (vs v x y z) q x y) ∨ (s.1 = true ∧ sD s.2.2 16 < sD z 16)))
      (fun res => ∃ (r : Int) (J : Nat → Nat → Int) (z' : Nat → Nat), res = some (r, hp u J L) ∧ Fr [190, 191, 192] J0 J ∧ KQ g w v x y z' ∧ (∀ a, a < 16 → ∀ m m', m ≤ 12 → m' ≤ 12 → J 190 (169 * a + 13 * m + m') = (vs v x y z' a m m' : Int)) ∧ ((r = 0 ∧ z' = z ∧ ∀ p, p < Gn g → z (Go g p) ≤ qE g w (vs v x y z) p x y) ∨ (r = 1 ∧ sD z' 16 < sD z 16))) := by
    refine zlp ?_ ?_
    · rintro f p ⟨b, J, zc⟩ hp1 ⟨f1, f2, f3, f4⟩
      dsimp only at f1 f2 f3 f4 ⊢
      right
      have hvz : ∀ a x' y', vs v x y zc a x' y' ≤ 100 := fun a x' y' => by
        unfold vs; split
        · exact f2.1 a
        · exact hv a x' y'
      have hEJ : RE g J := hE.fr f1 (by rw [f1 161 (by decide)]) (by decide)
      have hsJ : WSE w nw J := ⟨by rw [f1 161 (by decide)]; exact hs.1, fun i hi => by rw [f1 175 (by decide)]; exact hs.2 i hi⟩
      have h9 := re_w hEJ
      have hnn := re_n hEJ
      obtain ⟨J2, e2, g2⟩ := X12_editsOf (u := u) (L := L) hn hEJ hsJ hsw hvz hp1 hxy hy (fun a ha m m' q1 q2 q3 => f3 a ha m m' (by omega) (by omega))
      have hEJ2 : RE g J2 := hEJ.fr g2 (by rw [g2 161 (by decide)]) (by decide)
      have el := re_lead (u := u) (L := L) hEJ2 hp1
      have ho := hg.2.2.1 p
      have hq := qE_100 (w := w) hg hvz (p := p) hxy (show y ≤ 12 by omega)
      have hz100 := f2.1 (Go g p)
      have hbb := b01_rg b
      have ek : (p : Int) + 1 = ((p + 1 : Nat) : Int) := rfl
      have eat : 169 * (Go g p : Int) + 13 * (x : Int) + (y : Int) = ((169 * Go g p + 13 * x + y : Nat) : Int) := by omega
      have e190 : J2 190 (169 * Go g p + 13 * x + y) = (zc (Go g p) : Int) := by rw [g2 190 (by decide), f3 _ ho x y (by omega) (by omega), vs_eq]
      generalize hqq : qE g w (vs v x y zc) p x y = Q at *
      have hK1 : KQ g w v x y (zu zc (Go g p) (mn (zc (Go g p)) Q)) := by rw [← hqq]; exact KQ.step hg hv hxy (by omega) f2 hp1
      have emem : ∀ a', a' < 16 → ∀ m m', m ≤ 12 → m' ≤ 12 → gx_u J2 190 (169 * Go g p + 13 * x + y) (mn (zc (Go g p)) Q : Int) 190 (169 * a' + 13 * m + m') = (vs v x y (zu zc (Go g p) (mn (zc (Go g p)) Q)) a' m m' : Int) := fun a' ha' m m' h1 h2 => by
        by_cases e : a' = Go g p ∧ m = x ∧ m' = y
        · obtain ⟨q1, q2, q3⟩ := e
          rw [q1, q2, q3, gu_at_eq rfl, vs_eq, zu_eq]
        · rw [gu_at_ne (by omega), g2 190 (by decide), f3 a' ha' m m' h1 h2]
          by_cases e2 : m = x ∧ m' = y
          · rw [e2.1, e2.2, vs_eq, vs_eq, zu_ne (fun q => e ⟨q, e2.1, e2.2⟩)]
          · rw [vs_ne e2, vs_ne e2]
      refine ⟨(b || decide (Q < zc (Go g p)), gx_u J2 190 (169 * Go g p + 13 * x + y) (mn (zc (Go g p)) Q : Int), zu zc (Go g p) (mn (zc (Go g p)) Q)), ?_, (f1.tr (g2.up (fun a z => by simp at z; simp; omega))).wr (by simp), hK1, emem, ?_⟩
      · by_cases c : Q < zc (Go g p)
        · have em : mn (zc (Go g p)) Q = Q := if_pos c
          rw [em, decide_eq_true c, Bool.or_true, b01_t]
          cases b with
          | true =>
            rw [b01_t]
            simp (disch := omega) only [l_X12_mended_5, b_X12_mended_5, b_X12_mended_58, b_X12_mended_63, b_X12_mended_94, f_X12_at, ↓dhi_M, ↓dhG_M_0, ↓dhG_M_1, ↓dhG_M_2, ↓dhG_M_3, ↓dhG_M_4, ↓dhG_M_5, ↓dhG_M_6, ↓dhG_M_7, ↓dhG_M_8, ↓dhg_M_9, ↓dhq_M_9, ↓dhG_M_10, ↓dhG_M_11, ↓dhG_M_12, ↓dhg_M_13, ↓dhq_M_13, ↓dhG_M_14, ↓dhg_M_15, ↓dhq_M_15, ↓dhG_M_16, ↓dhg_M_17, ↓dhq_M_17, ↓dhg_M_18, ↓dhq_M_18, ↓dhG_M_19, ↓dhG_M_20, ↓dhG_M_21, ↓dhG_M_22, ↓dhG_M_23, ↓dhG_M_24, ↓dhg_M_25, ↓dhq_M_25, ↓dhG_M_26, ↓dhG_M_27, ↓dhG_M_28, ↓dhg_M_29, ↓dhq_M_29, ↓dhG_M_30, ↓dhG_M_31, ↓dhg_M_32, ↓dhq_M_32, ↓dhg_M_33, ↓dhq_M_33, ↓dhg_M_34, ↓dhq_M_34, ↓dhg_M_35, ↓dhq_M_35, ↓dhG_M_36, ↓dhG_M_37, ↓dhg_M_38, ↓dhq_M_38, ↓dhg_M_39, ↓dhq_M_39, ↓dhG_M_40, ↓dhG_M_41, ↓dhG_M_42, ↓dhG_M_43, ↓dhg_M_44, ↓dhq_M_44, ↓dha_165, ↓dhs_165, ↓dhl_165, ↓dha_190, ↓dhs_190, ↓dhl_190, Option.bind_some, ↓nm_eq, ↓sm_inl, ↓sm_inr, ↓dzo_0, ↓dzo_1, ↓drg_ok, ↓if_pos, ↓if_neg, if_pos, if_neg, if_true, if_false, Int.toNat_natCast, rg_ok, ↓bnd e2, ↓bnd el, h9.1, Int.toNat_natCast, hnn, eat, e190, ek]
          | false =>
            rw [b01_f]
            simp (disch := omega) only [l_X12_mended_5, b_X12_mended_5, b_X12_mended_58, b_X12_mended_63, b_X12_mended_94, f_X12_at, ↓dhi_M, ↓dhG_M_0, ↓dhG_M_1, ↓dhG_M_2, ↓dhG_M_3, ↓dhG_M_4, ↓dhG_M_5, ↓dhG_M_6, ↓dhG_M_7, ↓dhG_M_8, ↓dhg_M_9, ↓dhq_M_9, ↓dhG_M_10, ↓dhG_M_11, ↓dhG_M_12, ↓dhg_M_13, ↓dhq_M_13, ↓dhG_M_14, ↓dhg_M_15, ↓dhq_M_15, ↓dhG_M_16, ↓dhg_M_17, ↓dhq_M_17, ↓dhg_M_18, ↓dhq_M_18, ↓dhG_M_19, ↓dhG_M_20, ↓dhG_M_21, ↓dhG_M_22, ↓dhG_M_23, ↓dhG_M_24, ↓dhg_M_25, ↓dhq_M_25, ↓dhG_M_26, ↓dhG_M_27, ↓dhG_M_28, ↓dhg_M_29, ↓dhq_M_29, ↓dhG_M_30, ↓dhG_M_31, ↓dhg_M_32, ↓dhq_M_32, ↓dhg_M_33, ↓dhq_M_33, ↓dhg_M_34, ↓dhq_M_34, ↓dhg_M_35, ↓dhq_M_35, ↓dhG_M_36, ↓dhG_M_37, ↓dhg_M_38, ↓dhq_M_38, ↓dhg_M_39, ↓dhq_M_39, ↓dhG_M_40, ↓dhG_M_41, ↓dhG_M_42, ↓dhG_M_43, ↓dhg_M_44, ↓dhq_M_44, ↓dha_165, ↓dhs_165, ↓dhl_165, ↓dha_190, ↓dhs_190, ↓dhl_190, Option.bind_some, ↓nm_eq, ↓sm_inl, ↓sm_inr, ↓dzo_0, ↓dzo_1, ↓drg_ok, ↓if_pos, ↓if_neg, if_pos, if_neg, if_true, if_false, Int.toNat_natCast, rg_ok, ↓bnd e2, ↓bnd el, h9.1, Int.toNat_natCast, hnn, eat, e190, ek]
        · have em : mn (zc (Go g p)) Q = zc (Go g p) := if_neg c
          rw [em, decide_eq_false c, Bool.or_false]
          cases b with
          | true =>
            rw [b01_t]
            simp (disch := omega) only [l_X12_mended_5, b_X12_mended_5, b_X12_mended_58, b_X12_mended_63, b_X12_mended_94, f_X12_at, ↓dhi_M, ↓dhG_M_0, ↓dhG_M_1, ↓dhG_M_2, ↓dhG_M_3, ↓dhG_M_4, ↓dhG_M_5, ↓dhG_M_6, ↓dhG_M_7, ↓dhG_M_8, ↓dhg_M_9, ↓dhq_M_9, ↓dhG_M_10, ↓dhG_M_11, ↓dhG_M_12, ↓dhg_M_13, ↓dhq_M_13, ↓dhG_M_14, ↓dhg_M_15, ↓dhq_M_15, ↓dhG_M_16, ↓dhg_M_17, ↓dhq_M_17, ↓dhg_M_18, ↓dhq_M_18, ↓dhG_M_19, ↓dhG_M_20, ↓dhG_M_21, ↓dhG_M_22, ↓dhG_M_23, ↓dhG_M_24, ↓dhg_M_25, ↓dhq_M_25, ↓dhG_M_26, ↓dhG_M_27, ↓dhG_M_28, ↓dhg_M_29, ↓dhq_M_29, ↓dhG_M_30, ↓dhG_M_31, ↓dhg_M_32, ↓dhq_M_32, ↓dhg_M_33, ↓dhq_M_33, ↓dhg_M_34, ↓dhq_M_34, ↓dhg_M_35, ↓dhq_M_35, ↓dhG_M_36, ↓dhG_M_37, ↓dhg_M_38, ↓dhq_M_38, ↓dhg_M_39, ↓dhq_M_39, ↓dhG_M_40, ↓dhG_M_41, ↓dhG_M_42, ↓dhG_M_43, ↓dhg_M_44, ↓dhq_M_44, ↓dha_165, ↓dhs_165, ↓dhl_165, ↓dha_190, ↓dhs_190, ↓dhl_190, Option.bind_some, ↓nm_eq, ↓sm_inl, ↓sm_inr, ↓dzo_0, ↓dzo_1, ↓drg_ok, ↓if_pos, ↓if_neg, if_pos, if_neg, if_true, if_false, Int.toNat_natCast, rg_ok, ↓bnd e2, ↓bnd el, h9.1, Int.toNat_natCast, hnn, eat, e190, ek]
          | false =>
            rw [b01_f]
            simp (disch := omega) only [l_X12_mended_5, b_X12_mended_5, b_X12_mended_58, b_X12_mended_63, b_X12_mended_94, f_X12_at, ↓dhi_M, ↓dhG_M_0, ↓dhG_M_1, ↓dhG_M_2, ↓dhG_M_3, ↓dhG_M_4, ↓dhG_M_5, ↓dhG_M_6, ↓dhG_M_7, ↓dhG_M_8, ↓dhg_M_9, ↓dhq_M_9, ↓dhG_M_10, ↓dhG_M_11, ↓dhG_M_12, ↓dhg_M_13, ↓dhq_M_13, ↓dhG_M_14, ↓dhg_M_15, ↓dhq_M_15, ↓dhG_M_16, ↓dhg_M_17, ↓dhq_M_17, ↓dhg_M_18, ↓dhq_M_18, ↓dhG_M_19, ↓dhG_M_20, ↓dhG_M_21, ↓dhG_M_22, ↓dhG_M_23, ↓dhG_M_24, ↓dhg_M_25, ↓dhq_M_25, ↓dhG_M_26, ↓dhG_M_27, ↓dhG_M_28, ↓dhg_M_29, ↓dhq_M_29, ↓dhG_M_30, ↓dhG_M_31, ↓dhg_M_32, ↓dhq_M_32, ↓dhg_M_33, ↓dhq_M_33, ↓dhg_M_34, ↓dhq_M_34, ↓dhg_M_35, ↓dhq_M_35, ↓dhG_M_36, ↓dhG_M_37, ↓dhg_M_38, ↓dhq_M_38, ↓dhg_M_39, ↓dhq_M_39, ↓dhG_M_40, ↓dhG_M_41, ↓dhG_M_42, ↓dhG_M_43, ↓dhg_M_44, ↓dhq_M_44, ↓dha_165, ↓dhs_165, ↓dhl_165, ↓dha_190, ↓dhs_190, ↓dhl_190, Option.bind_some, ↓nm_eq, ↓sm_inl, ↓sm_inr, ↓dzo_0, ↓dzo_1, ↓drg_ok, ↓if_pos, ↓if_neg, if_pos, if_neg, if_true, if_false, Int.toNat_natCast, rg_ok, ↓bnd e2, ↓bnd el, h9.1, Int.toNat_natCast, hnn, eat, e190, ek]
      · dsimp only
        have hle2 : ∀ b, b < 16 → zu zc (Go g p) (mn (zc (Go g p)) Q) b ≤ zc b := fun b hb => by
          unfold zu; split
          · next e => rw [e]; exact (mn_le _ _).1
          · exact Nat.le_refl _
        rcases f4 with ⟨q1, q2, q3⟩ | ⟨q1, q2⟩
        · by_cases c : Q < zc (Go g p)
          · right
            refine ⟨by rw [decide_eq_true c, Bool.or_true], ?_⟩
            rw [← q2]
            exact sD_lt 16 hle2 ⟨Go g p, ho, by rw [zu_eq, mn_i, if_pos c]; exact c⟩
          · left
            have em : mn (zc (Go g p)) Q = zc (Go g p) := if_neg c
            refine ⟨by rw [q1, decide_eq_false c]; rfl, by rw [em, zu_id]; exact q2, fun q hq' => ?_⟩
            by_cases e : q = p
            · rw [e, ← q2, hqq]; omega
            · exact q3 q (by omega)
        · right
          exact ⟨by rw [q1, Bool.true_or], Nat.lt_of_le_of_lt (sD_mono 16 hle2) q2⟩
    · rintro f ⟨b, J, zc⟩ ⟨f1, f2, f3, f4⟩
      dsimp only at f1 f2 f3 f4 ⊢
      have hEJ : RE g J := hE.fr f1 (by rw [f1 161 (by decide)]) (by decide)
      have h9 := re_w hEJ
      have hnn := re_n hEJ
      have hzo : gi_zo (b01 b) = some () := zo_ok (b01_rg b)
      refine ⟨b01 b, J, zc, ?_, f1, f2, f3, ?_⟩
      · simp (disch := omega) only [l_X12_mended_5, b_X12_mended_5, ↓dhi_M, ↓dhG_M_0, ↓dhG_M_1, ↓dhG_M_2, ↓dhG_M_3, ↓dhG_M_4, ↓dhG_M_5, ↓dhG_M_6, ↓dhG_M_7, ↓dhG_M_8, ↓dhg_M_9, ↓dhq_M_9, ↓dhG_M_10, ↓dhG_M_11, ↓dhG_M_12, ↓dhg_M_13, ↓dhq_M_13, ↓dhG_M_14, ↓dhg_M_15, ↓dhq_M_15, ↓dhG_M_16, ↓dhg_M_17, ↓dhq_M_17, ↓dhg_M_18, ↓dhq_M_18, ↓dhG_M_19, ↓dhG_M_20, ↓dhG_M_21, ↓dhG_M_22, ↓dhG_M_23, ↓dhG_M_24, ↓dhg_M_25, ↓dhq_M_25, ↓dhG_M_26, ↓dhG_M_27, ↓dhG_M_28, ↓dhg_M_29, ↓dhq_M_29, ↓dhG_M_30, ↓dhG_M_31, ↓dhg_M_32, ↓dhq_M_32, ↓dhg_M_33, ↓dhq_M_33, ↓dhg_M_34, ↓dhq_M_34, ↓dhg_M_35, ↓dhq_M_35, ↓dhG_M_36, ↓dhG_M_37, ↓dhg_M_38, ↓dhq_M_38, ↓dhg_M_39, ↓dhq_M_39, ↓dhG_M_40, ↓dhG_M_41, ↓dhG_M_42, ↓dhG_M_43, ↓dhg_M_44, ↓dhq_M_44, ↓dha_165, ↓dhs_165, ↓dhl_165, Option.bind_some, ↓nm_eq, ↓sm_inl, ↓sm_inr, ↓dzo_0, ↓dzo_1, ↓drg_ok, ↓if_pos, ↓if_neg, if_pos, if_neg, if_true, if_false, Int.toNat_natCast, rg_ok, ↓bnd hzo, h9.1, Int.toNat_natCast, hnn]
      · rcases f4 with ⟨q1, q2, q3⟩ | ⟨q1, q2⟩
        · exact Or.inl ⟨by rw [q1]; rfl, q2, q3⟩
        · exact Or.inr ⟨by rw [q1]; rfl, q2⟩
  exact key (Gn g) n 0 (false, J0, z) (by omega) (by omega) ⟨Fr.rf, hz, hW, Or.inl ⟨rfl, rfl, fun j hj => absurd hj (by omega)⟩⟩
theorem X12_erounds (hn : 1000000000000000000000000000000 ≤ n) {J0 : Nat → Nat → Int} (hE : RE g J0) (hs : WSE w nw J0) (hsw : SW w nw) {v : CV} (hv : ∀ a x y, v a x y ≤ 100) {X W : Nat} (hy : X + W ≤ nw) (r29 : Nat → Int → gi_H → Option (Int × gi_H)) (r39 : Nat → Int → Int → gi_H → Option (Int × gi_H)) :
    ∀ (m f : Nat) (J : Nat → Nat → Int) (z : Nat → Nat), sD z 16 ≤ m → m + 2 < f → Fr [190, 191, 192] J0 J → KQ g w v X (X + W) z → (∀ a, a < 16 → ∀ m m', m ≤ 12 → m' ≤ 12 → J 190 (169 * a + 13 * m + m') = (vs v X (X + W) z a m m' : Int)) →
      ∃ (J' : Nat → Nat → Int) (z' : Nat → Nat), l_X12_repair_56 n r29 r39 f 161 (W : Int) (X : Int) 1 (hp u J L) = r39 161 (W : Int) ((X + 1 : Nat) : Int) (hp u J' L) ∧ Fr [190, 191, 192] J0 J' ∧ KQ g w v X (X + W) z' ∧ (∀ p, p < Gn g → z' (Go g p) ≤ qE g w (vs v X (X + W) z') p X (X + W)) ∧ (∀ a, a < 16 → ∀ m m', m ≤ 12 → m' ≤ 12 → J' 190 (169 * a + 13 * m + m') = (vs v X (X + W) z' a m m' : Int)) := by
  have h12 := hsw.1
  intro m
  induction m with
  | zero =>
    intro f J z hm hf f1 hK hW
    obtain ⟨f', rfl⟩ : ∃ f', f = f' + 1 + 1 := ⟨f - 2, by omega⟩
    have hEJ : RE g J := hE.fr f1 (by rw [f1 161 (by decide)]) (by decide)
    have hsJ : WSE w nw J := ⟨by rw [f1 161 (by decide)]; exact hs.1, fun i hi => by rw [f1 175 (by decide)]; exact hs.2 i hi⟩
    obtain ⟨r, J1, z1, e1, g1, g2, g3, g4⟩ := X12_mended (u := u) (L := L) hn hEJ hsJ hsw hv (x := X) (y := X + W) (by omega) hy hK hW
    have exw : (X : Int) + (W : Int) = ((X + W : Nat) : Int) := rfl
    have ek : (X : Int) + 1 = ((X + 1 : Nat) : Int) := rfl
    rcases g4 with ⟨r0, r1, r2⟩ | ⟨r0, r1⟩
    · refine ⟨J1, z1, ?_, f1.tr g1, g2, fun p hp1 => by rw [r1]; exact r2 p hp1, g3⟩
      rw [r0] at e1
      simp (disch := omega) only [l_X12_repair_56, b_X12_repair_56, b_X12_repair_72, ↓dhi_M, ↓dhG_M_0, ↓dhG_M_1, ↓dhG_M_2, ↓dhG_M_3, ↓dhG_M_4, ↓dhG_M_5, ↓dhG_M_6, ↓dhG_M_7, ↓dhG_M_8, ↓dhg_M_9, ↓dhq_M_9, ↓dhG_M_10, ↓dhG_M_11, ↓dhG_M_12, ↓dhg_M_13, ↓dhq_M_13, ↓dhG_M_14, ↓dhg_M_15, ↓dhq_M_15, ↓dhG_M_16, ↓dhg_M_17, ↓dhq_M_17, ↓dhg_M_18, ↓dhq_M_18, ↓dhG_M_19, ↓dhG_M_20, ↓dhG_M_21, ↓dhG_M_22, ↓dhG_M_23, ↓dhG_M_24, ↓dhg_M_25, ↓dhq_M_25, ↓dhG_M_26, ↓dhG_M_27, ↓dhG_M_28, ↓dhg_M_29, ↓dhq_M_29, ↓dhG_M_30, ↓dhG_M_31, ↓dhg_M_32, ↓dhq_M_32, ↓dhg_M_33, ↓dhq_M_33, ↓dhg_M_34, ↓dhq_M_34, ↓dhg_M_35, ↓dhq_M_35, ↓dhG_M_36, ↓dhG_M_37, ↓dhg_M_38, ↓dhq_M_38, ↓dhg_M_39, ↓dhq_M_39, ↓dhG_M_40, ↓dhG_M_41, ↓dhG_M_42, ↓dhG_M_43, ↓dhg_M_44, ↓dhq_M_44, Option.bind_some, ↓nm_eq, ↓sm_inl, ↓sm_inr, ↓dzo_0, ↓dzo_1, ↓drg_ok, ↓if_pos, ↓if_neg, if_pos, if_neg, if_true, if_false, Int.toNat_natCast, rg_ok, exw, ↓bnd e1, ek]
    · omega
  | succ m ih =>
    intro f J z hm hf f1 hK hW
    obtain ⟨f', rfl⟩ : ∃ f', f = f' + 1 + 1 := ⟨f - 2, by omega⟩
    have hEJ : RE g J := hE.fr f1 (by rw [f1 161 (by decide)]) (by decide)
    have hsJ : WSE w nw J := ⟨by rw [f1 161 (by decide)]; exact hs.1, fun i hi => by rw [f1 175 (by decide)]; exact hs.2 i hi⟩
    obtain ⟨r, J1, z1, e1, g1, g2, g3, g4⟩ := X12_mended (u := u) (L := L) hn hEJ hsJ hsw hv (x := X) (y := X + W) (by omega) hy hK hW
    have exw : (X : Int) + (W : Int) = ((X + W : Nat) : Int) := rfl
    have ek : (X : Int) + 1 = ((X + 1 : Nat) : Int) := rfl
    rcases g4 with ⟨r0, r1, r2⟩ | ⟨r0, r1⟩
    · refine ⟨J1, z1, ?_, f1.tr g1, g2, fun p hp1 => by rw [r1]; exact r2 p hp1, g3⟩
      rw [r0] at e1
      simp (disch := omega) only [l_X12_repair_56, b_X12_repair_56, b_X12_repair_72, ↓dhi_M, ↓dhG_M_0, ↓dhG_M_1, ↓dhG_M_2, ↓dhG_M_3, ↓dhG_M_4, ↓dhG_M_5, ↓dhG_M_6, ↓dhG_M_7, ↓dhG_M_8, ↓dhg_M_9, ↓dhq_M_9, ↓dhG_M_10, ↓dhG_M_11, ↓dhG_M_12, ↓dhg_M_13, ↓dhq_M_13, ↓dhG_M_14, ↓dhg_M_15, ↓dhq_M_15, ↓dhG_M_16, ↓dhg_M_17, ↓dhq_M_17, ↓dhg_M_18, ↓dhq_M_18, ↓dhG_M_19, ↓dhG_M_20, ↓dhG_M_21, ↓dhG_M_22, ↓dhG_M_23, ↓dhG_M_24, ↓dhg_M_25, ↓dhq_M_25, ↓dhG_M_26, ↓dhG_M_27, ↓dhG_M_28, ↓dhg_M_29, ↓dhq_M_29, ↓dhG_M_30, ↓dhG_M_31, ↓dhg_M_32, ↓dhq_M_32, ↓dhg_M_33, ↓dhq_M_33, ↓dhg_M_34, ↓dhq_M_34, ↓dhg_M_35, ↓dhq_M_35, ↓dhG_M_36, ↓dhG_M_37, ↓dhg_M_38, ↓dhq_M_38, ↓dhg_M_39, ↓dhq_M_39, ↓dhG_M_40, ↓dhG_M_41, ↓dhG_M_42, ↓dhG_M_43, ↓dhg_M_44, ↓dhq_M_44, Option.bind_some, ↓nm_eq, ↓sm_inl, ↓sm_inr, ↓dzo_0, ↓dzo_1, ↓drg_ok, ↓if_pos, ↓if_neg, if_pos, if_neg, if_true, if_false, Int.toNat_natCast, rg_ok, exw, ↓bnd e1, ek]
    · obtain ⟨J', z', i1, i2⟩ := ih (f' + 1) J1 z1 (by omega) (by omega) (f1.tr g1) g2 g3
      refine ⟨J', z', ?_, i2⟩
      rw [← i1]
      rw [r0] at e1
      have e51 : l_X12_repair_56 n r29 r39 (f' + 1 + 1) 161 (W : Int) (X : Int) 1 (hp u J L) = b_X12_repair_56 n r29 r39 (l_X12_repair_56 n r29 r39 (f' + 1)) 161 (W : Int) (X : Int) 1 (hp u J L) := rfl
      rw [e51]
      simp (disch := omega) only [b_X12_repair_56, ↓dhi_M, ↓dhG_M_0, ↓dhG_M_1, ↓dhG_M_2, ↓dhG_M_3, ↓dhG_M_4, ↓dhG_M_5, ↓dhG_M_6, ↓dhG_M_7, ↓dhG_M_8, ↓dhg_M_9, ↓dhq_M_9, ↓dhG_M_10, ↓dhG_M_11, ↓dhG_M_12, ↓dhg_M_13, ↓dhq_M_13, ↓dhG_M_14, ↓dhg_M_15, ↓dhq_M_15, ↓dhG_M_16, ↓dhg_M_17, ↓dhq_M_17, ↓dhg_M_18, ↓dhq_M_18, ↓dhG_M_19, ↓dhG_M_20, ↓dhG_M_21, ↓dhG_M_22, ↓dhG_M_23, ↓dhG_M_24, ↓dhg_M_25, ↓dhq_M_25, ↓dhG_M_26, ↓dhG_M_27, ↓dhG_M_28, ↓dhg_M_29, ↓dhq_M_29, ↓dhG_M_30, ↓dhG_M_31, ↓dhg_M_32, ↓dhq_M_32, ↓dhg_M_33, ↓dhq_M_33, ↓dhg_M_34, ↓dhq_M_34, ↓dhg_M_35, ↓dhq_M_35, ↓dhG_M_36, ↓dhG_M_37, ↓dhg_M_38, ↓dhq_M_38, ↓dhg_M_39, ↓dhq_M_39, ↓dhG_M_40, ↓dhG_M_41, ↓dhG_M_42, ↓dhG_M_43, ↓dhg_M_44, ↓dhq_M_44, Option.bind_some, ↓nm_eq, ↓sm_inl, ↓sm_inr, ↓dzo_0, ↓dzo_1, ↓drg_ok, ↓if_pos, ↓if_neg, if_pos, if_neg, if_true, if_false, Int.toNat_natCast, rg_ok, exw, ↓bnd e1]
def RCQ (g : GT) (w : Nat → Nat) (nw W X : Nat) (J0 J : Nat → Nat → Int) (v : CV) : Prop := Fr [190, 191, 192] J0 J ∧ (∀ a x y, v a x y ≤ 100) ∧ (∀ a, a < 16 → ∀ m m', m ≤ 12 → m' ≤ 12 → J 190 (169 * a + 13 * m + m') = (v a m m' : Int)) ∧ (∀ a x y, ¬ fb nw W X x y → v a x y = 100) ∧ QFX g w v (fb nw W X)
theorem KQ.top {v : CV} {x y : Nat} : KQ g w v x y (fun _ => 100) := ⟨fun _ => Nat.le_refl _, fun _ ht _ a _ => ht a⟩
theorem qE_congr (hg : GR g) {v v' : CV} {p x y : Nat} (h : vEq v v' x y) : qE g w v p x y = qE g w v' p x y := by
  unfold qE
  split
  · rfl
  · exact gD_congr hg _ _ (Nat.le_refl _) h
theorem KQ_congr (hg : GR g) {v v' : CV} {x y : Nat} {z : Nat → Nat} (hv : ∀ a x' y', a < 16 → x ≤ x' → x' ≤ y' → y' ≤ y → ¬ (x' = x ∧ y' = y) → v a x' y' = v' a x' y') (h : KQ g w v x y z) : KQ g w v' x y z :=
  ⟨h.1, fun t ht hc a ha => h.2 t ht (fun p hp1 => by
    rw [qE_congr hg (v' := vs v' x y t) (fun b x' y' q1 q2 q3 q4 => by
      by_cases c : x' = x ∧ y' = y
      · rw [c.1, c.2, vs_eq, vs_eq]
      · rw [vs_ne c, vs_ne c]; exact hv b x' y' q1 q2 q3 q4 c)]
    exact hc p hp1) a ha⟩
theorem X12_repairB (hn : 1000000000000000000000000000000 ≤ n) {J0 : Nat → Nat → Int} (hE : RE g J0) (hF : rF g J0 L) (hs : WSE w nw J0) (hsw : SW w nw) :
    ∃ (J : Nat → Nat → Int) (v : CV), l_X12_repair_11 n n 161 0 (hp u J0 L) = some ((if rLn J0 (Gt g) = 1000 then -1 else (mn 99 (v (Gt g) 0 nw) : Int)), hp u J L) ∧ Fr [190, 191, 192] J0 J ∧ QFX g w v (fun x y => x ≤ y ∧ y ≤ nw) := by
  have hg := hE.gr
  have h12 := hsw.1
  have ht7 := hg.2.1
  have ini : zLP 2704 (fun f k (J : Nat → Nat → Int) => l_X12_repair_11 n f 161 (k : Int) (hp u J L)) (fun k J => Fr [190] J0 J ∧ ∀ j, j < k → J 190 j = 100)
      (fun res => ∃ J, res = b_X12_repair_32 n 161 (hp u J L) ∧ Fr [190] J0 J ∧ ∀ j, j < 2704 → J 190 j = 100) := by
    refine zlp ?_ ?_
    · rintro f k J hk ⟨g1, g2⟩
      right
      have ek : (k : Int) + 1 = ((k + 1 : Nat) : Int) := rfl
      refine ⟨gx_u J 190 k 100, ?_, g1.wr (by simp), fun j hj => ?_⟩
      · simp (disch := omega) only [l_X12_repair_11, b_X12_repair_11, ↓dhi_M, ↓dhG_M_0, ↓dhG_M_1, ↓dhG_M_2, ↓dhG_M_3, ↓dhG_M_4, ↓dhG_M_5, ↓dhG_M_6, ↓dhG_M_7, ↓dhG_M_8, ↓dhg_M_9, ↓dhq_M_9, ↓dhG_M_10, ↓dhG_M_11, ↓dhG_M_12, ↓dhg_M_13, ↓dhq_M_13, ↓dhG_M_14, ↓dhg_M_15, ↓dhq_M_15, ↓dhG_M_16, ↓dhg_M_17, ↓dhq_M_17, ↓dhg_M_18, ↓dhq_M_18, ↓dhG_M_19, ↓dhG_M_20, ↓dhG_M_21, ↓dhG_M_22, ↓dhG_M_23, ↓dhG_M_24, ↓dhg_M_25, ↓dhq_M_25, ↓dhG_M_26, ↓dhG_M_27, ↓dhG_M_28, ↓dhg_M_29, ↓dhq_M_29, ↓dhG_M_30, ↓dhG_M_31, ↓dhg_M_32, ↓dhq_M_32, ↓dhg_M_33, ↓dhq_M_33, ↓dhg_M_34, ↓dhq_M_34, ↓dhg_M_35, ↓dhq_M_35, ↓dhG_M_36, ↓dhG_M_37, ↓dhg_M_38, ↓dhq_M_38, ↓dhg_M_39, ↓dhq_M_39, ↓dhG_M_40, ↓dhG_M_41, ↓dhG_M_42, ↓dhG_M_43, ↓dhg_M_44, ↓dhq_M_44, ↓dha_190, ↓dhs_190, ↓dhl_190, Option.bind_some, ↓nm_eq, ↓sm_inl, ↓sm_inr, ↓dzo_0, ↓dzo_1, ↓drg_ok, ↓if_pos, ↓if_neg, if_pos, if_neg, if_true, if_false, Int.toNat_natCast, rg_ok, Int.toNat_natCast, ek]
      · by_cases e : j = k
        · rw [e, gu_at_eq rfl]
        · rw [gu_at_ne e]; exact g2 j (by omega)
    · rintro f J ⟨g1, g2⟩
      refine ⟨J, ?_, g1, g2⟩
      simp (disch := omega) only [l_X12_repair_11, b_X12_repair_11, Option.bind_some, ↓nm_eq, ↓sm_inl, ↓sm_inr, ↓dzo_0, ↓dzo_1, ↓drg_ok, ↓if_pos, ↓if_neg, if_pos, if_neg, if_true, if_false, Int.toNat_natCast, rg_ok] <;> rfl
  obtain ⟨J1, e1, g1, g2⟩ := ini 2704 n 0 J0 (by omega) (by omega) ⟨Fr.rf, fun j hj => absurd hj (by omega)⟩
  have hE1 : RE g J1 := hE.fr g1 (by rw [g1 161 (by decide)]) (by decide)
  have hs1 : WSE w nw J1 := ⟨by rw [g1 161 (by decide)]; exact hs.1, fun i hi => by rw [g1 175 (by decide)]; exact hs.2 i hi⟩
  have hEs : ∀ J, Fr [190, 191, 192] J1 J → RE g J ∧ WSE w nw J := fun J f => ⟨hE1.fr f (by rw [f 161 (by decide)]) (by decide), by rw [f 161 (by decide)]; exact hs1.1, fun i hi => by rw [f 175 (by decide)]; exact hs1.2 i hi⟩
  have inn : ∀ (r29 : Nat → Int → gi_H → Option (Int × gi_H)) (W : Nat), W ≤ nw → zLP (nw + 1 - W) (fun f X (s : (Nat → Nat → Int) × CV) => l_X12_repair_44 n r29 f 161 (W : Int) (X : Int) (hp u s.1 L))
      (fun X s => RCQ g w nw W X J1 s.1 s.2)
      (fun res => ∃ (J : Nat → Nat → Int) (v : CV), res = r29 161 ((W + 1 : Nat) : Int) (hp u J L) ∧ RCQ g w nw (W + 1) 0 J1 J v) := by
    intro r29 W hW
    refine zlp ?_ ?_
    · rintro f X ⟨J, v⟩ hX ⟨k1, k2, k3, k4, k5⟩
      dsimp only at k1 k2 k3 k4 k5 ⊢
      right
      obtain ⟨hEJ, hsJ⟩ := hEs J k1
      have hz0 : vs v X (X + W) (fun _ => 100) = v := by
        have : (fun _ => 100 : Nat → Nat) = fun a => v a X (X + W) := by
          funext a; exact (k4 a X (X + W) (fun ⟨a1, a2, a3⟩ => by omega)).symm
        rw [this, vs_self]
      obtain ⟨J', z', i1, i2, i3, i4, i5⟩ := X12_erounds (u := u) (L := L) hn hEJ hsJ hsw k2 (X := X) (W := W) (by omega) r29 (l_X12_repair_44 n r29 f) 1600 n J (fun _ => 100) (by decide) (by omega) Fr.rf KQ.top (fun a ha m m' h1 h2 => by rw [hz0]; exact k3 a ha m m' h1 h2)
      have hsub : ∀ x y, fb nw W X x y → vEq v (vs v X (X + W) z') x y := fun x y hf a x' y' q1 q2 q3 q4 => by
        obtain ⟨b1, b2, b3⟩ := hf
        exact (vs_ne (by omega)).symm
      refine ⟨(J', vs v X (X + W) z'), ?_, k1.tr i2, fun a x y => ?_, i5, fun a x y hf => ?_, fun x y hf => ?_⟩
      · have e17 := hsJ.1
        have exw : (X : Int) + (W : Int) = ((X + W : Nat) : Int) := rfl
        dsimp only
        rw [← i1]
        simp (disch := omega) only [l_X12_repair_44, b_X12_repair_44, ↓dhi_M, ↓dhG_M_0, ↓dhG_M_1, ↓dhG_M_2, ↓dhG_M_3, ↓dhG_M_4, ↓dhG_M_5, ↓dhG_M_6, ↓dhG_M_7, ↓dhG_M_8, ↓dhg_M_9, ↓dhq_M_9, ↓dhG_M_10, ↓dhG_M_11, ↓dhG_M_12, ↓dhg_M_13, ↓dhq_M_13, ↓dhG_M_14, ↓dhg_M_15, ↓dhq_M_15, ↓dhG_M_16, ↓dhg_M_17, ↓dhq_M_17, ↓dhg_M_18, ↓dhq_M_18, ↓dhG_M_19, ↓dhG_M_20, ↓dhG_M_21, ↓dhG_M_22, ↓dhG_M_23, ↓dhG_M_24, ↓dhg_M_25, ↓dhq_M_25, ↓dhG_M_26, ↓dhG_M_27, ↓dhG_M_28, ↓dhg_M_29, ↓dhq_M_29, ↓dhG_M_30, ↓dhG_M_31, ↓dhg_M_32, ↓dhq_M_32, ↓dhg_M_33, ↓dhq_M_33, ↓dhg_M_34, ↓dhq_M_34, ↓dhg_M_35, ↓dhq_M_35, ↓dhG_M_36, ↓dhG_M_37, ↓dhg_M_38, ↓dhq_M_38, ↓dhg_M_39, ↓dhq_M_39, ↓dhG_M_40, ↓dhG_M_41, ↓dhG_M_42, ↓dhG_M_43, ↓dhg_M_44, ↓dhq_M_44, Option.bind_some, ↓nm_eq, ↓sm_inl, ↓sm_inr, ↓dzo_0, ↓dzo_1, ↓drg_ok, ↓if_pos, ↓if_neg, if_pos, if_neg, if_true, if_false, Int.toNat_natCast, rg_ok, e17, exw]
      · dsimp only
        unfold vs; split
        · exact i3.1 a
        · exact k2 a x y
      · dsimp only
        have hne : ¬ (x = X ∧ y = X + W) := fun ⟨q1, q2⟩ => hf ⟨by omega, by omega, by omega⟩
        rw [vs_ne hne]
        exact k4 a x y (fun ⟨a1, a2, a3⟩ => hf ⟨a1, a2, by omega⟩)
      · dsimp only
        rcases fb_next hf with ⟨rfl, rfl⟩ | ⟨e, hf'⟩
        · refine ⟨fun p hp1 => by rw [vs_eq]; exact i4 p hp1, ?_⟩
          have ez : (fun b => vs v x (x + W) z' b x (x + W)) = z' := by funext b; exact vs_eq
          rw [ez]
          exact KQ_congr hg (fun b x' y' q1 q2 q3 q4 q5 => (vs_ne q5).symm) i3
        · obtain ⟨c1, c2⟩ := k5 x y hf'
          refine ⟨fun p hp1 => by rw [vs_ne e, ← qE_congr hg (hsub x y hf')]; exact c1 p hp1, ?_⟩
          have ez : (fun b => vs v X (X + W) z' b x y) = fun b => v b x y := by funext b; exact vs_ne e
          rw [ez]
          exact KQ_congr hg (fun b x' y' q1 q2 q3 q4 _ => hsub x y hf' b x' y' q1 q2 q3 q4) c2
    · rintro f ⟨J, v⟩ ⟨k1, k2, k3, k4, k5⟩
      dsimp only at k1 k2 k3 k4 k5 ⊢
      have hfb : ∀ x y, fb nw (W + 1) 0 x y ↔ fb nw W (nw + 1 - W) x y := fun x y => ⟨fun ⟨a1, a2, a3⟩ => ⟨a1, a2, by omega⟩, fun ⟨a1, a2, a3⟩ => ⟨a1, a2, by omega⟩⟩
      obtain ⟨hEJ, hsJ⟩ := hEs J k1
      have e17 := hsJ.1
      have ex : ((nw + 1 - W : Nat) : Int) + (W : Int) = (nw : Int) + 1 := by omega
      have ek : (W : Int) + 1 = ((W + 1 : Nat) : Int) := rfl
      refine ⟨J, v, ?_, k1, k2, k3, fun a x y hf => k4 a x y (fun q => hf ((hfb x y).mpr q)), fun x y hf => k5 x y ((hfb x y).mp hf)⟩
      simp (disch := omega) only [l_X12_repair_44, b_X12_repair_44, b_X12_repair_78, ↓dhi_M, ↓dhG_M_0, ↓dhG_M_1, ↓dhG_M_2, ↓dhG_M_3, ↓dhG_M_4, ↓dhG_M_5, ↓dhG_M_6, ↓dhG_M_7, ↓dhG_M_8, ↓dhg_M_9, ↓dhq_M_9, ↓dhG_M_10, ↓dhG_M_11, ↓dhG_M_12, ↓dhg_M_13, ↓dhq_M_13, ↓dhG_M_14, ↓dhg_M_15, ↓dhq_M_15, ↓dhG_M_16, ↓dhg_M_17, ↓dhq_M_17, ↓dhg_M_18, ↓dhq_M_18, ↓dhG_M_19, ↓dhG_M_20, ↓dhG_M_21, ↓dhG_M_22, ↓dhG_M_23, ↓dhG_M_24, ↓dhg_M_25, ↓dhq_M_25, ↓dhG_M_26, ↓dhG_M_27, ↓dhG_M_28, ↓dhg_M_29, ↓dhq_M_29, ↓dhG_M_30, ↓dhG_M_31, ↓dhg_M_32, ↓dhq_M_32, ↓dhg_M_33, ↓dhq_M_33, ↓dhg_M_34, ↓dhq_M_34, ↓dhg_M_35, ↓dhq_M_35, ↓dhG_M_36, ↓dhG_M_37, ↓dhg_M_38, ↓dhq_M_38, ↓dhg_M_39, ↓dhq_M_39, ↓dhG_M_40, ↓dhG_M_41, ↓dhG_M_42, ↓dhG_M_43, ↓dhg_M_44, ↓dhq_M_44, Option.bind_some, ↓nm_eq, ↓sm_inl, ↓sm_inr, ↓dzo_0, ↓dzo_1, ↓drg_ok, ↓if_pos, ↓if_neg, if_pos, if_neg, if_true, if_false, Int.toNat_natCast, rg_ok, e17, ex, ek]
  have out : zLP (nw + 1) (fun f W (s : (Nat → Nat → Int) × CV) => l_X12_repair_34 n f 161 (W : Int) (hp u s.1 L))
      (fun W s => RCQ g w nw W 0 J1 s.1 s.2)
      (fun res => ∃ (J : Nat → Nat → Int) (v : CV), res = some ((if rLn J0 (Gt g) = 1000 then -1 else (mn 99 (v (Gt g) 0 nw) : Int)), hp u J L) ∧ Fr [190, 191, 192] J1 J ∧ QFX g w v (fun x y => x ≤ y ∧ y ≤ nw)) := by
    refine zlp ?_ ?_
    · rintro f W ⟨J, v⟩ hW hI
      dsimp only at hI ⊢
      right
      obtain ⟨J', v', e, hI'⟩ := inn (l_X12_repair_34 n f) W (by omega) (nw + 1 - W) n 0 (J, v) (by omega) (by omega) hI
      refine ⟨(J', v'), ?_, hI'⟩
      have e' : l_X12_repair_44 n (l_X12_repair_34 n f) n 161 (W : Int) 0 (hp u J L) = l_X12_repair_34 n f 161 ((W + 1 : Nat) : Int) (hp u J' L) := e
      obtain ⟨hEJ, hsJ⟩ := hEs J hI.1
      have e17 := hsJ.1
      dsimp only
      rw [← e']
      simp (disch := omega) only [l_X12_repair_34, b_X12_repair_34, ↓dhi_M, ↓dhG_M_0, ↓dhG_M_1, ↓dhG_M_2, ↓dhG_M_3, ↓dhG_M_4, ↓dhG_M_5, ↓dhG_M_6, ↓dhG_M_7, ↓dhG_M_8, ↓dhg_M_9, ↓dhq_M_9, ↓dhG_M_10, ↓dhG_M_11, ↓dhG_M_12, ↓dhg_M_13, ↓dhq_M_13, ↓dhG_M_14, ↓dhg_M_15, ↓dhq_M_15, ↓dhG_M_16, ↓dhg_M_17, ↓dhq_M_17, ↓dhg_M_18, ↓dhq_M_18, ↓dhG_M_19, ↓dhG_M_20, ↓dhG_M_21, ↓dhG_M_22, ↓dhG_M_23, ↓dhG_M_24, ↓dhg_M_25, ↓dhq_M_25, ↓dhG_M_26, ↓dhG_M_27, ↓dhG_M_28, ↓dhg_M_29, ↓dhq_M_29, ↓dhG_M_30, ↓dhG_M_31, ↓dhg_M_32, ↓dhq_M_32, ↓dhg_M_33, ↓dhq_M_33, ↓dhg_M_34, ↓dhq_M_34, ↓dhg_M_35, ↓dhq_M_35, ↓dhG_M_36, ↓dhG_M_37, ↓dhg_M_38, ↓dhq_M_38, ↓dhg_M_39, ↓dhq_M_39, ↓dhG_M_40, ↓dhG_M_41, ↓dhG_M_42, ↓dhG_M_43, ↓dhg_M_44, ↓dhq_M_44, Option.bind_some, ↓nm_eq, ↓sm_inl, ↓sm_inr, ↓dzo_0, ↓dzo_1, ↓drg_ok, ↓if_pos, ↓if_neg, if_pos, if_neg, if_true, if_false, Int.toNat_natCast, rg_ok, e17]
    · rintro f ⟨J, v⟩ ⟨k1, k2, k3, k4, k5⟩
      dsimp only at k1 k2 k3 k4 k5 ⊢
      have hfb : ∀ x y, x ≤ y ∧ y ≤ nw → fb nw (nw + 1) 0 x y := fun x y ⟨a1, a2⟩ => ⟨a1, a2, by omega⟩
      obtain ⟨hEJ, hsJ⟩ := hEs J k1
      have e17 := hsJ.1
      have h9 := re_w hEJ
      have hnt := re_t hEJ
      have e0 := k3 (Gt g) (by omega) 0 nw (by omega) h12
      have ei : (169 * (Gt g : Int) + 13 * 0 + (nw : Int)).toNat = 169 * Gt g + 13 * 0 + nw := by omega
      have e178 : J 178 (Gt g) = J0 178 (Gt g) := by rw [k1 178 (by decide), g1 178 (by decide)]
      have hrO := hF.2.2.2.2.1 (Gt g) (by omega)
      have hv100 := k2 (Gt g) 0 nw
      refine ⟨J, v, ?_, k1, fun x y hf => k5 x y (hfb x y hf)⟩
      by_cases c : rLn J0 (Gt g) = 1000
      · rw [if_pos c]
        have c' : ¬ J0 178 (Gt g) ≤ 100 := fun z => by
          unfold rLn at c; split at c <;> omega
        simp (disch := omega) only [l_X12_repair_34, b_X12_repair_34, b_X12_repair_84, f_X12_at, ↓dhi_M, ↓dhG_M_0, ↓dhG_M_1, ↓dhG_M_2, ↓dhG_M_3, ↓dhG_M_4, ↓dhG_M_5, ↓dhG_M_6, ↓dhG_M_7, ↓dhG_M_8, ↓dhg_M_9, ↓dhq_M_9, ↓dhG_M_10, ↓dhG_M_11, ↓dhG_M_12, ↓dhg_M_13, ↓dhq_M_13, ↓dhG_M_14, ↓dhg_M_15, ↓dhq_M_15, ↓dhG_M_16, ↓dhg_M_17, ↓dhq_M_17, ↓dhg_M_18, ↓dhq_M_18, ↓dhG_M_19, ↓dhG_M_20, ↓dhG_M_21, ↓dhG_M_22, ↓dhG_M_23, ↓dhG_M_24, ↓dhg_M_25, ↓dhq_M_25, ↓dhG_M_26, ↓dhG_M_27, ↓dhG_M_28, ↓dhg_M_29, ↓dhq_M_29, ↓dhG_M_30, ↓dhG_M_31, ↓dhg_M_32, ↓dhq_M_32, ↓dhg_M_33, ↓dhq_M_33, ↓dhg_M_34, ↓dhq_M_34, ↓dhg_M_35, ↓dhq_M_35, ↓dhG_M_36, ↓dhG_M_37, ↓dhg_M_38, ↓dhq_M_38, ↓dhg_M_39, ↓dhq_M_39, ↓dhG_M_40, ↓dhG_M_41, ↓dhG_M_42, ↓dhG_M_43, ↓dhg_M_44, ↓dhq_M_44, ↓dha_170, ↓dhs_170, ↓dhl_170, ↓dha_178, ↓dhs_178, ↓dhl_178, ↓dha_190, ↓dhs_190, ↓dhl_190, Option.bind_some, ↓nm_eq, ↓sm_inl, ↓sm_inr, ↓dzo_0, ↓dzo_1, ↓drg_ok, ↓if_pos, ↓if_neg, if_pos, if_neg, if_true, if_false, Int.toNat_natCast, rg_ok, e17, h9.1, Int.toNat_natCast, hnt, ei, e0, e178]
      · rw [if_neg c]
        have c' : J0 178 (Gt g) ≤ 100 := by
          apply Classical.byContradiction; intro z
          unfold rLn at c; split at c <;> omega
        by_cases c2 : v (Gt g) 0 nw ≤ 99
        · rw [mn_id c2]
          simp (disch := omega) only [l_X12_repair_34, b_X12_repair_34, b_X12_repair_84, f_X12_at, ↓dhi_M, ↓dhG_M_0, ↓dhG_M_1, ↓dhG_M_2, ↓dhG_M_3, ↓dhG_M_4, ↓dhG_M_5, ↓dhG_M_6, ↓dhG_M_7, ↓dhG_M_8, ↓dhg_M_9, ↓dhq_M_9, ↓dhG_M_10, ↓dhG_M_11, ↓dhG_M_12, ↓dhg_M_13, ↓dhq_M_13, ↓dhG_M_14, ↓dhg_M_15, ↓dhq_M_15, ↓dhG_M_16, ↓dhg_M_17, ↓dhq_M_17, ↓dhg_M_18, ↓dhq_M_18, ↓dhG_M_19, ↓dhG_M_20, ↓dhG_M_21, ↓dhG_M_22, ↓dhG_M_23, ↓dhG_M_24, ↓dhg_M_25, ↓dhq_M_25, ↓dhG_M_26, ↓dhG_M_27, ↓dhG_M_28, ↓dhg_M_29, ↓dhq_M_29, ↓dhG_M_30, ↓dhG_M_31, ↓dhg_M_32, ↓dhq_M_32, ↓dhg_M_33, ↓dhq_M_33, ↓dhg_M_34, ↓dhq_M_34, ↓dhg_M_35, ↓dhq_M_35, ↓dhG_M_36, ↓dhG_M_37, ↓dhg_M_38, ↓dhq_M_38, ↓dhg_M_39, ↓dhq_M_39, ↓dhG_M_40, ↓dhG_M_41, ↓dhG_M_42, ↓dhG_M_43, ↓dhg_M_44, ↓dhq_M_44, ↓dha_170, ↓dhs_170, ↓dhl_170, ↓dha_178, ↓dhs_178, ↓dhl_178, ↓dha_190, ↓dhs_190, ↓dhl_190, Option.bind_some, ↓nm_eq, ↓sm_inl, ↓sm_inr, ↓dzo_0, ↓dzo_1, ↓drg_ok, ↓if_pos, ↓if_neg, if_pos, if_neg, if_true, if_false, Int.toNat_natCast, rg_ok, e17, h9.1, Int.toNat_natCast, hnt, ei, e0, e178]
        · have em : mn 99 (v (Gt g) 0 nw) = 99 := if_neg (by omega)
          rw [em]
          simp (disch := omega) only [l_X12_repair_34, b_X12_repair_34, b_X12_repair_84, f_X12_at, ↓dhi_M, ↓dhG_M_0, ↓dhG_M_1, ↓dhG_M_2, ↓dhG_M_3, ↓dhG_M_4, ↓dhG_M_5, ↓dhG_M_6, ↓dhG_M_7, ↓dhG_M_8, ↓dhg_M_9, ↓dhq_M_9, ↓dhG_M_10, ↓dhG_M_11, ↓dhG_M_12, ↓dhg_M_13, ↓dhq_M_13, ↓dhG_M_14, ↓dhg_M_15, ↓dhq_M_15, ↓dhG_M_16, ↓dhg_M_17, ↓dhq_M_17, ↓dhg_M_18, ↓dhq_M_18, ↓dhG_M_19, ↓dhG_M_20, ↓dhG_M_21, ↓dhG_M_22, ↓dhG_M_23, ↓dhG_M_24, ↓dhg_M_25, ↓dhq_M_25, ↓dhG_M_26, ↓dhG_M_27, ↓dhG_M_28, ↓dhg_M_29, ↓dhq_M_29, ↓dhG_M_30, ↓dhG_M_31, ↓dhg_M_32, ↓dhq_M_32, ↓dhg_M_33, ↓dhq_M_33, ↓dhg_M_34, ↓dhq_M_34, ↓dhg_M_35, ↓dhq_M_35, ↓dhG_M_36, ↓dhG_M_37, ↓dhg_M_38, ↓dhq_M_38, ↓dhg_M_39, ↓dhq_M_39, ↓dhG_M_40, ↓dhG_M_41, ↓dhG_M_42, ↓dhG_M_43, ↓dhg_M_44, ↓dhq_M_44, ↓dha_170, ↓dhs_170, ↓dhl_170, ↓dha_178, ↓dhs_178, ↓dhl_178, ↓dha_190, ↓dhs_190, ↓dhl_190, Option.bind_some, ↓nm_eq, ↓sm_inl, ↓sm_inr, ↓dzo_0, ↓dzo_1, ↓drg_ok, ↓if_pos, ↓if_neg, if_pos, if_neg, if_true, if_false, Int.toNat_natCast, rg_ok, e17, h9.1, Int.toNat_natCast, hnt, ei, e0, e178] <;> rfl
  obtain ⟨J, v, e, k1, k2⟩ := out (nw + 1) n 0 (J1, fun _ _ _ => 100) (by omega) (by omega) ⟨Fr.rf, fun _ _ _ => Nat.le_refl _, fun a ha m m' h1 h2 => by dsimp only; rw [g2 _ (by omega)]; rfl, fun _ _ _ _ => rfl, fun x y ⟨a1, a2, a3⟩ => by omega⟩
  refine ⟨J, v, ?_, (g1.up (fun a z => by simp at z; simp [z])).tr k1, k2⟩
  have e1' : l_X12_repair_11 n n 161 0 (hp u J0 L) = b_X12_repair_32 n 161 (hp u J1 L) := e1
  have e' : l_X12_repair_34 n n 161 0 (hp u J1 L) = some ((if rLn J0 (Gt g) = 1000 then -1 else (mn 99 (v (Gt g) 0 nw) : Int)), hp u J L) := e
  have e27 : b_X12_repair_32 n 161 (hp u J1 L) = l_X12_repair_34 n n 161 0 (hp u J1 L) := rfl
  rw [← e', ← e27, ← e1']
end RMD
