/-! ===== the reference: readings ===== -/
noncomputable def rS (g : GT) (w : Nat → Nat) (v : CV) (a x y : Nat) : Nat → Nat
  | 0 => 0
  | p + 1 => rS g w v a x y p + (if Go g p = a then gD (opC g w) g v p (Gl g p) x y else 0)
theorem rS_s {g : GT} {w : Nat → Nat} {v : CV} {a x y p : Nat} : rS g w v a x y (p + 1) = rS g w v a x y p + (if Go g p = a then gD (opC g w) g v p (Gl g p) x y else 0) := rfl
theorem rS_F {g : GT} {w : Nat → Nat} {v : CV} {a x y : Nat} : ∀ N, m100 (rS g w v a x y N) = gF (opC g w) g v a x y N
  | 0 => rfl
  | N + 1 => by
    rw [rS_s, gF_s, ← rS_F N]
    split
    · show _ = m100 (m100 (rS g w v a x y N) + gD (opC g w) g v N (Gl g N) x y)
      rw [Nat.add_comm (m100 _), m100_add, Nat.add_comm]
    · rw [Nat.add_zero]
theorem rS_le {g : GT} {w : Nat → Nat} {v : CV} {a x y : Nat} : ∀ N, rS g w v a x y N ≤ 100 * N
  | 0 => Nat.le_refl _
  | N + 1 => by
    have ih := rS_le (g := g) (w := w) (v := v) (a := a) (x := x) (y := y) N
    have h1 : gD (opC g w) g v N (Gl g N) x y ≤ 100 := by rw [gD_cD]; exact m100_le _
    rw [rS_s]
    split <;> omega
section RCN
variable {u : Nat} {n : Nat} {nw : Nat} {L : Nat → Nat → Int} {g : GT} {w : Nat → Nat}
theorem X12_counted (hn : 1000000000000000000000000000000 ≤ n) {J0 : Nat → Nat → Int} (hE : RE g J0) (hs : WSE w nw J0) (hsw : SW w nw) {v : CV} (hv : ∀ a x y, v a x y ≤ 100) {x y : Nat} (hxy : x ≤ y) (hy : y ≤ nw) {z : Nat → Nat} (hz : KL (PhR g w v x y) z)
    (hW : ∀ a, a < 16 → ∀ m m', m ≤ 12 → m' ≤ 12 → J0 190 (169 * a + 13 * m + m') = (vs v x y z a m m' : Int)) :
    ∃ (r : Int) (J : Nat → Nat → Int) (z' : Nat → Nat), f_X12_counted n 161 (x : Int) (y : Int) (hp u J0 L) = some (r, hp u J L) ∧ Fr [190, 191, 192] J0 J ∧ KL (PhR g w v x y) z' ∧
      (∀ a, a < 16 → ∀ m m', m ≤ 12 → m' ≤ 12 → J 190 (169 * a + 13 * m + m') = (vs v x y z' a m m' : Int)) ∧ ((r = 0 ∧ z' = z ∧ ∀ a, a < 16 → PhR g w v x y z a = z a) ∨ (r = 1 ∧ sD z 16 < sD z' 16)) := by
  have hg := hE.gr
  have h24 := hg.1
  have h12 := hsw.1
  -- the productions of one
  have inn : ∀ (r5 : Nat → Int → Int → Int → Int → gi_H → Option (Int × gi_H)) (J1 : Nat → Nat → Int) (zc : Nat → Nat) (a : Nat) (b : Bool), a < 16 → Fr [190, 191, 192] J0 J1 → (∀ b, zc b ≤ 100) → (∀ a, a < 16 → ∀ m m', m ≤ 12 → m' ≤ 12 → J1 190 (169 * a + 13 * m + m') = (vs v x y zc a m m' : Int)) →
      zLP (Gn g) (fun f p (J : Nat → Nat → Int) => l_X12_counted_18 n r5 f 161 (x : Int) (y : Int) (b01 b) (a : Int) (rS g w (vs v x y zc) a x y p : Int) (p : Int) (hp u J L)) (fun _ J => Fr [191, 192] J1 J)
        (fun res => ∃ J, res = b_X12_counted_66 n r5 161 (x : Int) (y : Int) (b01 b) (a : Int) (rS g w (vs v x y zc) a x y (Gn g) : Int) (hp u J L) ∧ Fr [191, 192] J1 J) := by
    intro r5 J1 zc a b ha f1 hzc hW1
    have hvz : ∀ a x' y', vs v x y zc a x' y' ≤ 100 := fun a x' y' => by
      unfold vs; split
      · exact hzc a
      · exact hv a x' y'
    refine zlp ?_ ?_
    · rintro f p J hp1 g1
      right
      have hEJ : RE g J := hE.fr (f1.tr (g1.up (fun a z => by simp at z; simp; omega))) (by rw [g1 161 (by decide), f1 161 (by decide)]) (by decide)
      have h9 := re_w hEJ
      have hnn := re_n hEJ
      have el := re_lead (u := u) (L := L) hEJ hp1
      have ho := hg.2.2.1 p
      have ek : (p : Int) + 1 = ((p + 1 : Nat) : Int) := rfl
      have hle := rS_le (g := g) (w := w) (v := vs v x y zc) (a := a) (x := x) (y := y) p
      by_cases c : Go g p = a
      · have hsJ : WSE w nw J := ⟨by rw [g1 161 (by decide), f1 161 (by decide)]; exact hs.1, fun i hi => by rw [g1 175 (by decide), f1 175 (by decide)]; exact hs.2 i hi⟩
        obtain ⟨J2, e2, g2⟩ := X12_waysOf_all (u := u) (L := L) hn hEJ hsJ hsw hvz hp1 hxy hy (fun a ha m m' q1 q2 q3 => by rw [g1 190 (by decide)]; exact hW1 a ha m m' (by omega) (by omega))
        have e2' : f_X12_waysOf n 161 (p : Int) (x : Int) (y : Int) (hp u J L) = some ((gD (opC g w) g (vs v x y zc) p (Gl g p) x y : Int), hp u J2 L) := e2
        have ea : (rS g w (vs v x y zc) a x y p : Int) + (gD (opC g w) g (vs v x y zc) p (Gl g p) x y : Int) = (rS g w (vs v x y zc) a x y (p + 1) : Int) := by rw [rS_s, if_pos c]; rfl
        refine ⟨J2, ?_, g1.tr g2⟩
        simp (disch := omega) only [l_X12_counted_18, b_X12_counted_18, b_X12_counted_57, ↓dhi_M, ↓dhG_M_0, ↓dhG_M_1, ↓dhG_M_2, ↓dhG_M_3, ↓dhG_M_4, ↓dhG_M_5, ↓dhG_M_6, ↓dhG_M_7, ↓dhG_M_8, ↓dhg_M_9, ↓dhq_M_9, ↓dhG_M_10, ↓dhG_M_11, ↓dhG_M_12, ↓dhg_M_13, ↓dhq_M_13, ↓dhG_M_14, ↓dhg_M_15, ↓dhq_M_15, ↓dhG_M_16, ↓dhg_M_17, ↓dhq_M_17, ↓dhg_M_18, ↓dhq_M_18, ↓dhG_M_19, ↓dhG_M_20, ↓dhG_M_21, ↓dhG_M_22, ↓dhG_M_23, ↓dhG_M_24, ↓dhg_M_25, ↓dhq_M_25, ↓dhG_M_26, ↓dhG_M_27, ↓dhG_M_28, ↓dhg_M_29, ↓dhq_M_29, ↓dhG_M_30, ↓dhG_M_31, ↓dhg_M_32, ↓dhq_M_32, ↓dhg_M_33, ↓dhq_M_33, ↓dhg_M_34, ↓dhq_M_34, ↓dhg_M_35, ↓dhq_M_35, ↓dhG_M_36, ↓dhG_M_37, ↓dhg_M_38, ↓dhq_M_38, ↓dhg_M_39, ↓dhq_M_39, ↓dhG_M_40, ↓dhG_M_41, ↓dhG_M_42, ↓dhG_M_43, ↓dhg_M_44, ↓dhq_M_44, ↓dha_165, ↓dhs_165, ↓dhl_165, Option.bind_some, ↓nm_eq, ↓sm_inl, ↓sm_inr, ↓dzo_0, ↓dzo_1, ↓drg_ok, ↓if_pos, ↓if_neg, if_pos, if_neg, if_true, if_false, Int.toNat_natCast, rg_ok, ↓bnd el, ↓bnd e2', h9.1, Int.toNat_natCast, hnn, ea, ek]
      · have ea : (rS g w (vs v x y zc) a x y p : Int) + 0 = (rS g w (vs v x y zc) a x y (p + 1) : Int) := by rw [rS_s, if_neg c]; rfl
        refine ⟨J, ?_, g1⟩
        simp (disch := omega) only [l_X12_counted_18, b_X12_counted_18, b_X12_counted_57, ↓dhi_M, ↓dhG_M_0, ↓dhG_M_1, ↓dhG_M_2, ↓dhG_M_3, ↓dhG_M_4, ↓dhG_M_5, ↓dhG_M_6, ↓dhG_M_7, ↓dhG_M_8, ↓dhg_M_9, ↓dhq_M_9, ↓dhG_M_10, ↓dhG_M_11, ↓dhG_M_12, ↓dhg_M_13, ↓dhq_M_13, ↓dhG_M_14, ↓dhg_M_15, ↓dhq_M_15, ↓dhG_M_16, ↓dhg_M_17, ↓dhq_M_17, ↓dhg_M_18, ↓dhq_M_18, ↓dhG_M_19, ↓dhG_M_20, ↓dhG_M_21, ↓dhG_M_22, ↓dhG_M_23, ↓dhG_M_24, ↓dhg_M_25, ↓dhq_M_25, ↓dhG_M_26, ↓dhG_M_27, ↓dhG_M_28, ↓dhg_M_29, ↓dhq_M_29, ↓dhG_M_30, ↓dhG_M_31, ↓dhg_M_32, ↓dhq_M_32, ↓dhg_M_33, ↓dhq_M_33, ↓dhg_M_34, ↓dhq_M_34, ↓dhg_M_35, ↓dhq_M_35, ↓dhG_M_36, ↓dhG_M_37, ↓dhg_M_38, ↓dhq_M_38, ↓dhg_M_39, ↓dhq_M_39, ↓dhG_M_40, ↓dhG_M_41, ↓dhG_M_42, ↓dhG_M_43, ↓dhg_M_44, ↓dhq_M_44, ↓dha_165, ↓dhs_165, ↓dhl_165, Option.bind_some, ↓nm_eq, ↓sm_inl, ↓sm_inr, ↓dzo_0, ↓dzo_1, ↓drg_ok, ↓if_pos, ↓if_neg, if_pos, if_neg, if_true, if_false, Int.toNat_natCast, rg_ok, ↓bnd el, h9.1, Int.toNat_natCast, hnn, ea, ek]
    · rintro f J g1
      have hEJ : RE g J := hE.fr (f1.tr (g1.up (fun a z => by simp at z; simp; omega))) (by rw [g1 161 (by decide), f1 161 (by decide)]) (by decide)
      have h9 := re_w hEJ
      have hnn := re_n hEJ
      refine ⟨J, ?_, g1⟩
      simp (disch := omega) only [l_X12_counted_18, b_X12_counted_18, ↓dhi_M, ↓dhG_M_0, ↓dhG_M_1, ↓dhG_M_2, ↓dhG_M_3, ↓dhG_M_4, ↓dhG_M_5, ↓dhG_M_6, ↓dhG_M_7, ↓dhG_M_8, ↓dhg_M_9, ↓dhq_M_9, ↓dhG_M_10, ↓dhG_M_11, ↓dhG_M_12, ↓dhg_M_13, ↓dhq_M_13, ↓dhG_M_14, ↓dhg_M_15, ↓dhq_M_15, ↓dhG_M_16, ↓dhg_M_17, ↓dhq_M_17, ↓dhg_M_18, ↓dhq_M_18, ↓dhG_M_19, ↓dhG_M_20, ↓dhG_M_21, ↓dhG_M_22, ↓dhG_M_23, ↓dhG_M_24, ↓dhg_M_25, ↓dhq_M_25, ↓dhG_M_26, ↓dhG_M_27, ↓dhG_M_28, ↓dhg_M_29, ↓dhq_M_29, ↓dhG_M_30, ↓dhG_M_31, ↓dhg_M_32, ↓dhq_M_32, ↓dhg_M_33, ↓dhq_M_33, ↓dhg_M_34, ↓dhq_M_34, ↓dhg_M_35, ↓dhq_M_35, ↓dhG_M_36, ↓dhG_M_37, ↓dhg_M_38, ↓dhq_M_38, ↓dhg_M_39, ↓dhq_M_39, ↓dhG_M_40, ↓dhG_M_41, ↓dhG_M_42, ↓dhG_M_43, ↓dhg_M_44, ↓dhq_M_44, ↓dha_165, ↓dhs_165, ↓dhl_165, Option.bind_some, ↓nm_eq, ↓sm_inl, ↓sm_inr, ↓dzo_0, ↓dzo_1, ↓drg_ok, ↓if_pos, ↓if_neg, if_pos, if_neg, if_true, if_false, Int.toNat_natCast, rg_ok, h9.1, Int.toNat_natCast, hnn]
  have key : zLP 16 (fun f a (s : Bool × (Nat → Nat → Int) × (Nat → Nat)) => l_X12_counted_5 n f 161 (x : Int) (y : Int) (b01 s.1) (a : Int) (hp u s.2.1 L))
      (fun a s => Fr [190, 191, 192] J0 s.2.1 ∧ KL (PhR g w v x y) s.2.2 ∧ (∀ a, a < 16 → ∀ m m', m ≤ 12 → m' ≤ 12 → s.2.1 190 (169 * a + 13 * m + m') = (vs v x y s.2.2 a m m' : Int)) ∧ ((s.1 = false ∧ s.2.2 = z ∧ ∀ j, j < a → PhR g w v x y z j = z j) ∨ (s.1 = true ∧ sD z 16 < sD s.2.2 16)))
      (fun res => ∃ (r : Int) (J : Nat → Nat → Int) (z' : Nat → Nat), res = some (r, hp u J L) ∧ Fr [190, 191, 192] J0 J ∧ KL (PhR g w v x y) z' ∧ (∀ a, a < 16 → ∀ m m', m ≤ 12 → m' ≤ 12 → J 190 (169 * a + 13 * m + m') = (vs v x y z' a m m' : Int)) ∧ ((r = 0 ∧ z' = z ∧ ∀ a, a < 16 → PhR g w v x y z a = z a) ∨ (r = 1 ∧ sD z 16 < sD z' 16))) := by
    refine zlp ?_ ?_
    · rintro f a ⟨b, J, zc⟩ ha ⟨f1, f2, f3, f4⟩
      dsimp only at f1 f2 f3 f4 ⊢
      right
      obtain ⟨J2, e2, g2⟩ := inn (l_X12_counted_5 n f) J zc a b ha f1 f2.1 f3 (Gn g) n 0 J (by omega) (by omega) Fr.rf
      have e2' : l_X12_counted_18 n (l_X12_counted_5 n f) n 161 (x : Int) (y : Int) (b01 b) (a : Int) 0 0 (hp u J L) = b_X12_counted_66 n (l_X12_counted_5 n f) 161 (x : Int) (y : Int) (b01 b) (a : Int) (rS g w (vs v x y zc) a x y (Gn g) : Int) (hp u J2 L) := e2
      have hS := rS_F (g := g) (w := w) (v := vs v x y zc) (a := a) (x := x) (y := y) (Gn g)
      have hle := rS_le (g := g) (w := w) (v := vs v x y zc) (a := a) (x := x) (y := y) (Gn g)
      have hP : gF (opC g w) g (vs v x y zc) a x y (Gn g) = PhR g w v x y zc a := rfl
      rw [hP] at hS
      have h100 : PhR g w v x y zc a ≤ 100 := gF_100 _
      have hbb := b01_rg b
      have hK1 := KL.one (PhR_fm hg) (fun t _ z _ h a _ => PhR_mono hg h a) f2 ha
      have ek : (a : Int) + 1 = ((a + 1 : Nat) : Int) := rfl
      have eat : (169 * (a : Int) + 13 * (x : Int) + (y : Int)).toNat = 169 * a + 13 * x + y := by omega
      have e190 : J2 190 (169 * a + 13 * x + y) = (zc a : Int) := by rw [g2 190 (by decide), f3 a ha x y (by omega) (by omega), vs_eq]
      have hz100 := f2.1 a
      have e66 : b_X12_counted_66 n (l_X12_counted_5 n f) 161 (x : Int) (y : Int) (b01 b) (a : Int) (rS g w (vs v x y zc) a x y (Gn g) : Int) (hp u J2 L) = b_X12_counted_80 n (l_X12_counted_5 n f) 161 (x : Int) (y : Int) (b01 b) (a : Int) (PhR g w v x y zc a : Int) (hp u J2 L) := by
        rw [← hS]
        by_cases c : rS g w (vs v x y zc) a x y (Gn g) ≤ 100
        · have em : m100 (rS g w (vs v x y zc) a x y (Gn g)) = rS g w (vs v x y zc) a x y (Gn g) := if_pos c
          rw [em]
          simp (disch := omega) only [b_X12_counted_66, Option.bind_some, ↓nm_eq, ↓sm_inl, ↓sm_inr, ↓dzo_0, ↓dzo_1, ↓drg_ok, ↓if_pos, ↓if_neg, if_pos, if_neg, if_true, if_false, Int.toNat_natCast, rg_ok]
        · have em : m100 (rS g w (vs v x y zc) a x y (Gn g)) = 100 := if_neg c
          rw [em]
          simp (disch := omega) only [b_X12_counted_66, Option.bind_some, ↓nm_eq, ↓sm_inl, ↓sm_inr, ↓dzo_0, ↓dzo_1, ↓drg_ok, ↓if_pos, ↓if_neg, if_pos, if_neg, if_true, if_false, Int.toNat_natCast, rg_ok] <;> rfl
      have emem : ∀ a', a' < 16 → ∀ m m', m ≤ 12 → m' ≤ 12 → gx_u J2 190 (169 * a + 13 * x + y) (PhR g w v x y zc a : Int) 190 (169 * a' + 13 * m + m') = (vs v x y (zu zc a (PhR g w v x y zc a)) a' m m' : Int) := fun a' ha' m m' h1 h2 => by
        by_cases e : a' = a ∧ m = x ∧ m' = y
        · obtain ⟨q1, q2, q3⟩ := e
          rw [q1, q2, q3, gu_at_eq rfl, vs_eq, zu_eq]
        · rw [gu_at_ne (by omega), g2 190 (by decide), f3 a' ha' m m' h1 h2]
          by_cases e2 : m = x ∧ m' = y
          · rw [e2.1, e2.2, vs_eq, vs_eq, zu_ne (fun q => e ⟨q, e2.1, e2.2⟩)]
          · rw [vs_ne e2, vs_ne e2]
      refine ⟨(b || decide (PhR g w v x y zc a ≠ zc a), gx_u J2 190 (169 * a + 13 * x + y) (PhR g w v x y zc a : Int), zu zc a (PhR g w v x y zc a)), ?_, (f1.tr (g2.up (fun a z => by simp at z; simp; omega))).wr (by simp), hK1, emem, ?_⟩
      · have e5 : l_X12_counted_5 n (f + 1) 161 (x : Int) (y : Int) (b01 b) (a : Int) (hp u J L) = l_X12_counted_18 n (l_X12_counted_5 n f) n 161 (x : Int) (y : Int) (b01 b) (a : Int) 0 0 (hp u J L) := by
          simp (disch := omega) only [l_X12_counted_5, b_X12_counted_5, Option.bind_some, ↓nm_eq, ↓sm_inl, ↓sm_inr, ↓dzo_0, ↓dzo_1, ↓drg_ok, ↓if_pos, ↓if_neg, if_pos, if_neg, if_true, if_false, Int.toNat_natCast, rg_ok]
        rw [e5, e2', e66]
        cases b with
        | true =>
          rw [Bool.true_or, b01_t]
          simp (disch := omega) only [b_X12_counted_80, b_X12_counted_103, b_X12_counted_108, f_X12_at, ↓dhi_M, ↓dhG_M_0, ↓dhG_M_1, ↓dhG_M_2, ↓dhG_M_3, ↓dhG_M_4, ↓dhG_M_5, ↓dhG_M_6, ↓dhG_M_7, ↓dhG_M_8, ↓dhg_M_9, ↓dhq_M_9, ↓dhG_M_10, ↓dhG_M_11, ↓dhG_M_12, ↓dhg_M_13, ↓dhq_M_13, ↓dhG_M_14, ↓dhg_M_15, ↓dhq_M_15, ↓dhG_M_16, ↓dhg_M_17, ↓dhq_M_17, ↓dhg_M_18, ↓dhq_M_18, ↓dhG_M_19, ↓dhG_M_20, ↓dhG_M_21, ↓dhG_M_22, ↓dhG_M_23, ↓dhG_M_24, ↓dhg_M_25, ↓dhq_M_25, ↓dhG_M_26, ↓dhG_M_27, ↓dhG_M_28, ↓dhg_M_29, ↓dhq_M_29, ↓dhG_M_30, ↓dhG_M_31, ↓dhg_M_32, ↓dhq_M_32, ↓dhg_M_33, ↓dhq_M_33, ↓dhg_M_34, ↓dhq_M_34, ↓dhg_M_35, ↓dhq_M_35, ↓dhG_M_36, ↓dhG_M_37, ↓dhg_M_38, ↓dhq_M_38, ↓dhg_M_39, ↓dhq_M_39, ↓dhG_M_40, ↓dhG_M_41, ↓dhG_M_42, ↓dhG_M_43, ↓dhg_M_44, ↓dhq_M_44, ↓dha_190, ↓dhs_190, ↓dhl_190, Option.bind_some, ↓nm_eq, ↓sm_inl, ↓sm_inr, ↓dzo_0, ↓dzo_1, ↓drg_ok, ↓if_pos, ↓if_neg, if_pos, if_neg, if_true, if_false, Int.toNat_natCast, rg_ok, eat, ek]
        | false =>
          rw [Bool.false_or]
          by_cases c : PhR g w v x y zc a = zc a
          · rw [decide_eq_false (by omega), b01_f]
            simp (disch := omega) only [b_X12_counted_80, b_X12_counted_103, b_X12_counted_108, f_X12_at, ↓dhi_M, ↓dhG_M_0, ↓dhG_M_1, ↓dhG_M_2, ↓dhG_M_3, ↓dhG_M_4, ↓dhG_M_5, ↓dhG_M_6, ↓dhG_M_7, ↓dhG_M_8, ↓dhg_M_9, ↓dhq_M_9, ↓dhG_M_10, ↓dhG_M_11, ↓dhG_M_12, ↓dhg_M_13, ↓dhq_M_13, ↓dhG_M_14, ↓dhg_M_15, ↓dhq_M_15, ↓dhG_M_16, ↓dhg_M_17, ↓dhq_M_17, ↓dhg_M_18, ↓dhq_M_18, ↓dhG_M_19, ↓dhG_M_20, ↓dhG_M_21, ↓dhG_M_22, ↓dhG_M_23, ↓dhG_M_24, ↓dhg_M_25, ↓dhq_M_25, ↓dhG_M_26, ↓dhG_M_27, ↓dhG_M_28, ↓dhg_M_29, ↓dhq_M_29, ↓dhG_M_30, ↓dhG_M_31, ↓dhg_M_32, ↓dhq_M_32, ↓dhg_M_33, ↓dhq_M_33, ↓dhg_M_34, ↓dhq_M_34, ↓dhg_M_35, ↓dhq_M_35, ↓dhG_M_36, ↓dhG_M_37, ↓dhg_M_38, ↓dhq_M_38, ↓dhg_M_39, ↓dhq_M_39, ↓dhG_M_40, ↓dhG_M_41, ↓dhG_M_42, ↓dhG_M_43, ↓dhg_M_44, ↓dhq_M_44, ↓dha_190, ↓dhs_190, ↓dhl_190, Option.bind_some, ↓nm_eq, ↓sm_inl, ↓sm_inr, ↓dzo_0, ↓dzo_1, ↓drg_ok, ↓if_pos, ↓if_neg, if_pos, if_neg, if_true, if_false, Int.toNat_natCast, rg_ok, eat, e190, ek]
          · rw [decide_eq_true c, b01_t, b01_f]
            simp (disch := omega) only [b_X12_counted_80, b_X12_counted_103, b_X12_counted_108, f_X12_at, ↓dhi_M, ↓dhG_M_0, ↓dhG_M_1, ↓dhG_M_2, ↓dhG_M_3, ↓dhG_M_4, ↓dhG_M_5, ↓dhG_M_6, ↓dhG_M_7, ↓dhG_M_8, ↓dhg_M_9, ↓dhq_M_9, ↓dhG_M_10, ↓dhG_M_11, ↓dhG_M_12, ↓dhg_M_13, ↓dhq_M_13, ↓dhG_M_14, ↓dhg_M_15, ↓dhq_M_15, ↓dhG_M_16, ↓dhg_M_17, ↓dhq_M_17, ↓dhg_M_18, ↓dhq_M_18, ↓dhG_M_19, ↓dhG_M_20, ↓dhG_M_21, ↓dhG_M_22, ↓dhG_M_23, ↓dhG_M_24, ↓dhg_M_25, ↓dhq_M_25, ↓dhG_M_26, ↓dhG_M_27, ↓dhG_M_28, ↓dhg_M_29, ↓dhq_M_29, ↓dhG_M_30, ↓dhG_M_31, ↓dhg_M_32, ↓dhq_M_32, ↓dhg_M_33, ↓dhq_M_33, ↓dhg_M_34, ↓dhq_M_34, ↓dhg_M_35, ↓dhq_M_35, ↓dhG_M_36, ↓dhG_M_37, ↓dhg_M_38, ↓dhq_M_38, ↓dhg_M_39, ↓dhq_M_39, ↓dhG_M_40, ↓dhG_M_41, ↓dhG_M_42, ↓dhG_M_43, ↓dhg_M_44, ↓dhq_M_44, ↓dha_190, ↓dhs_190, ↓dhl_190, Option.bind_some, ↓nm_eq, ↓sm_inl, ↓sm_inr, ↓dzo_0, ↓dzo_1, ↓drg_ok, ↓if_pos, ↓if_neg, if_pos, if_neg, if_true, if_false, Int.toNat_natCast, rg_ok, eat, e190, ek]
      · dsimp only
        have hle2 : ∀ b, b < 16 → zc b ≤ zu zc a (PhR g w v x y zc a) b := fun b hb => by
          unfold zu; split
          · next e => rw [e]; exact f2.2.1 a ha
          · exact Nat.le_refl _
        rcases f4 with ⟨q1, q2, q3⟩ | ⟨q1, q2⟩
        · by_cases c : PhR g w v x y zc a = zc a
          · left
            refine ⟨by rw [q1, decide_eq_false (by omega)]; rfl, by rw [c, zu_id]; exact q2, fun j hj => ?_⟩
            by_cases e : j = a
            · rw [e, ← q2]; exact c
            · exact q3 j (by omega)
          · right
            refine ⟨by rw [decide_eq_true c, Bool.or_true], ?_⟩
            rw [← q2]
            have := f2.2.1 a ha
            exact sD_lt 16 hle2 ⟨a, ha, by rw [zu_eq]; omega⟩
        · right
          exact ⟨by rw [q1, Bool.true_or], Nat.lt_of_lt_of_le q2 (sD_mono 16 hle2)⟩
    · rintro f ⟨b, J, zc⟩ ⟨f1, f2, f3, f4⟩
      dsimp only at f1 f2 f3 f4 ⊢
      have hzo : gi_zo (b01 b) = some () := zo_ok (b01_rg b)
      refine ⟨b01 b, J, zc, ?_, f1, f2, f3, ?_⟩
      · simp (disch := omega) only [l_X12_counted_5, b_X12_counted_5, Option.bind_some, ↓nm_eq, ↓sm_inl, ↓sm_inr, ↓dzo_0, ↓dzo_1, ↓drg_ok, ↓if_pos, ↓if_neg, if_pos, if_neg, if_true, if_false, Int.toNat_natCast, rg_ok, ↓bnd hzo]
      · rcases f4 with ⟨q1, q2, q3⟩ | ⟨q1, q2⟩
        · exact Or.inl ⟨by rw [q1]; rfl, q2, q3⟩
        · exact Or.inr ⟨by rw [q1]; rfl, q2⟩
  exact key 16 n 0 (false, J0, z) (by omega) (by omega) ⟨Fr.rf, hz, hW, Or.inl ⟨rfl, rfl, fun j hj => absurd hj (by omega)⟩⟩
/-- the rounds over a stretch -/
theorem X12_crounds (hn : 1000000000000000000000000000000 ≤ n) {J0 : Nat → Nat → Int} (hE : RE g J0) (hs : WSE w nw J0) (hsw : SW w nw) {v : CV} (hv : ∀ a x y, v a x y ≤ 100) {X W : Nat} (hy : X + W ≤ nw) (r29 : Nat → Int → gi_H → Option (Int × gi_H)) (r39 : Nat → Int → Int → gi_H → Option (Int × gi_H)) :
    ∀ (m f : Nat) (J : Nat → Nat → Int) (z : Nat → Nat), 1600 - sD z 16 ≤ m → m + 2 < f → Fr [190, 191, 192] J0 J → KL (PhR g w v X (X + W)) z → (∀ a, a < 16 → ∀ m m', m ≤ 12 → m' ≤ 12 → J 190 (169 * a + 13 * m + m') = (vs v X (X + W) z a m m' : Int)) →
      ∃ (J' : Nat → Nat → Int) (z' : Nat → Nat), l_X12_readings_51 n r29 r39 f 161 (W : Int) (X : Int) 1 (hp u J L) = r39 161 (W : Int) ((X + 1 : Nat) : Int) (hp u J' L) ∧ Fr [190, 191, 192] J0 J' ∧ KL (PhR g w v X (X + W)) z' ∧ (∀ a, a < 16 → PhR g w v X (X + W) z' a = z' a) ∧ (∀ a, a < 16 → ∀ m m', m ≤ 12 → m' ≤ 12 → J' 190 (169 * a + 13 * m + m') = (vs v X (X + W) z' a m m' : Int)) := by
  have h12 := hsw.1
  intro m
  induction m with
  | zero =>
    intro f J z hm hf f1 hK hW
    obtain ⟨f', rfl⟩ : ∃ f', f = f' + 1 + 1 := ⟨f - 2, by omega⟩
    have hEJ : RE g J := hE.fr f1 (by rw [f1 161 (by decide)]) (by decide)
    have hsJ : WSE w nw J := ⟨by rw [f1 161 (by decide)]; exact hs.1, fun i hi => by rw [f1 175 (by decide)]; exact hs.2 i hi⟩
    obtain ⟨r, J1, z1, e1, g1, g2, g3, g4⟩ := X12_counted (u := u) (L := L) hn hEJ hsJ hsw hv (x := X) (y := X + W) (by omega) hy hK hW
    have exw : (X : Int) + (W : Int) = ((X + W : Nat) : Int) := rfl
    have ek : (X : Int) + 1 = ((X + 1 : Nat) : Int) := rfl
    rcases g4 with ⟨r0, r1, r2⟩ | ⟨r0, r1⟩
    · refine ⟨J1, z1, ?_, f1.tr g1, g2, fun a ha => by rw [r1]; exact r2 a ha, g3⟩
      rw [r0] at e1
      simp (disch := omega) only [l_X12_readings_51, b_X12_readings_51, b_X12_readings_67, ↓dhi_M, ↓dhG_M_0, ↓dhG_M_1, ↓dhG_M_2, ↓dhG_M_3, ↓dhG_M_4, ↓dhG_M_5, ↓dhG_M_6, ↓dhG_M_7, ↓dhG_M_8, ↓dhg_M_9, ↓dhq_M_9, ↓dhG_M_10, ↓dhG_M_11, ↓dhG_M_12, ↓dhg_M_13, ↓dhq_M_13, ↓dhG_M_14, ↓dhg_M_15, ↓dhq_M_15, ↓dhG_M_16, ↓dhg_M_17, ↓dhq_M_17, ↓dhg_M_18, ↓dhq_M_18, ↓dhG_M_19, ↓dhG_M_20, ↓dhG_M_21, ↓dhG_M_22, ↓dhG_M_23, ↓dhG_M_24, ↓dhg_M_25, ↓dhq_M_25, ↓dhG_M_26, ↓dhG_M_27, ↓dhG_M_28, ↓dhg_M_29, ↓dhq_M_29, ↓dhG_M_30, ↓dhG_M_31, ↓dhg_M_32, ↓dhq_M_32, ↓dhg_M_33, ↓dhq_M_33, ↓dhg_M_34, ↓dhq_M_34, ↓dhg_M_35, ↓dhq_M_35, ↓dhG_M_36, ↓dhG_M_37, ↓dhg_M_38, ↓dhq_M_38, ↓dhg_M_39, ↓dhq_M_39, ↓dhG_M_40, ↓dhG_M_41, ↓dhG_M_42, ↓dhG_M_43, ↓dhg_M_44, ↓dhq_M_44, Option.bind_some, ↓nm_eq, ↓sm_inl, ↓sm_inr, ↓dzo_0, ↓dzo_1, ↓drg_ok, ↓if_pos, ↓if_neg, if_pos, if_neg, if_true, if_false, Int.toNat_natCast, rg_ok, exw, ↓bnd e1, ek]
    · have h3 : sD z1 16 ≤ 100 * 16 := sD_le 16 (fun b _ => g2.1 b)
      omega
  | succ m ih =>
    intro f J z hm hf f1 hK hW
    obtain ⟨f', rfl⟩ : ∃ f', f = f' + 1 + 1 := ⟨f - 2, by omega⟩
    have hEJ : RE g J := hE.fr f1 (by rw [f1 161 (by decide)]) (by decide)
    have hsJ : WSE w nw J := ⟨by rw [f1 161 (by decide)]; exact hs.1, fun i hi => by rw [f1 175 (by decide)]; exact hs.2 i hi⟩
    obtain ⟨r, J1, z1, e1, g1, g2, g3, g4⟩ := X12_counted (u := u) (L := L) hn hEJ hsJ hsw hv (x := X) (y := X + W) (by omega) hy hK hW
    have exw : (X : Int) + (W : Int) = ((X + W : Nat) : Int) := rfl
    have ek : (X : Int) + 1 = ((X + 1 : Nat) : Int) := rfl
    rcases g4 with ⟨r0, r1, r2⟩ | ⟨r0, r1⟩
    · refine ⟨J1, z1, ?_, f1.tr g1, g2, fun a ha => by rw [r1]; exact r2 a ha, g3⟩
      rw [r0] at e1
      simp (disch := omega) only [l_X12_readings_51, b_X12_readings_51, b_X12_readings_67, ↓dhi_M, ↓dhG_M_0, ↓dhG_M_1, ↓dhG_M_2, ↓dhG_M_3, ↓dhG_M_4, ↓dhG_M_5, ↓dhG_M_6, ↓dhG_M_7, ↓dhG_M_8, ↓dhg_M_9, ↓dhq_M_9, ↓dhG_M_10, ↓dhG_M_11, ↓dhG_M_12, ↓dhg_M_13, ↓dhq_M_13, ↓dhG_M_14, ↓dhg_M_15, ↓dhq_M_15, ↓dhG_M_16, ↓dhg_M_17, ↓dhq_M_17, ↓dhg_M_18, ↓dhq_M_18, ↓dhG_M_19, ↓dhG_M_20, ↓dhG_M_21, ↓dhG_M_22, ↓dhG_M_23, ↓dhG_M_24, ↓dhg_M_25, ↓dhq_M_25, ↓dhG_M_26, ↓dhG_M_27, ↓dhG_M_28, ↓dhg_M_29, ↓dhq_M_29, ↓dhG_M_30, ↓dhG_M_31, ↓dhg_M_32, ↓dhq_M_32, ↓dhg_M_33, ↓dhq_M_33, ↓dhg_M_34, ↓dhq_M_34, ↓dhg_M_35, ↓dhq_M_35, ↓dhG_M_36, ↓dhG_M_37, ↓dhg_M_38, ↓dhq_M_38, ↓dhg_M_39, ↓dhq_M_39, ↓dhG_M_40, ↓dhG_M_41, ↓dhG_M_42, ↓dhG_M_43, ↓dhg_M_44, ↓dhq_M_44, Option.bind_some, ↓nm_eq, ↓sm_inl, ↓sm_inr, ↓dzo_0, ↓dzo_1, ↓drg_ok, ↓if_pos, ↓if_neg, if_pos, if_neg, if_true, if_false, Int.toNat_natCast, rg_ok, exw, ↓bnd e1, ek]
    · have h3 : sD z1 16 ≤ 100 * 16 := sD_le 16 (fun b _ => g2.1 b)
      obtain ⟨J', z', i1, i2⟩ := ih (f' + 1) J1 z1 (by omega) (by omega) (f1.tr g1) g2 g3
      refine ⟨J', z', ?_, i2⟩
      rw [← i1]
      rw [r0] at e1
      have e51 : l_X12_readings_51 n r29 r39 (f' + 1 + 1) 161 (W : Int) (X : Int) 1 (hp u J L) = b_X12_readings_51 n r29 r39 (l_X12_readings_51 n r29 r39 (f' + 1)) 161 (W : Int) (X : Int) 1 (hp u J L) := rfl
      rw [e51]
      simp (disch := omega) only [b_X12_readings_51, ↓dhi_M, ↓dhG_M_0, ↓dhG_M_1, ↓dhG_M_2, ↓dhG_M_3, ↓dhG_M_4, ↓dhG_M_5, ↓dhG_M_6, ↓dhG_M_7, ↓dhG_M_8, ↓dhg_M_9, ↓dhq_M_9, ↓dhG_M_10, ↓dhG_M_11, ↓dhG_M_12, ↓dhg_M_13, ↓dhq_M_13, ↓dhG_M_14, ↓dhg_M_15, ↓dhq_M_15, ↓dhG_M_16, ↓dhg_M_17, ↓dhq_M_17, ↓dhg_M_18, ↓dhq_M_18, ↓dhG_M_19, ↓dhG_M_20, ↓dhG_M_21, ↓dhG_M_22, ↓dhG_M_23, ↓dhG_M_24, ↓dhg_M_25, ↓dhq_M_25, ↓dhG_M_26, ↓dhG_M_27, ↓dhG_M_28, ↓dhg_M_29, ↓dhq_M_29, ↓dhG_M_30, ↓dhG_M_31, ↓dhg_M_32, ↓dhq_M_32, ↓dhg_M_33, ↓dhq_M_33, ↓dhg_M_34, ↓dhq_M_34, ↓dhg_M_35, ↓dhq_M_35, ↓dhG_M_36, ↓dhG_M_37, ↓dhg_M_38, ↓dhq_M_38, ↓dhg_M_39, ↓dhq_M_39, ↓dhG_M_40, ↓dhG_M_41, ↓dhG_M_42, ↓dhG_M_43, ↓dhg_M_44, ↓dhq_M_44, Option.bind_some, ↓nm_eq, ↓sm_inl, ↓sm_inr, ↓dzo_0, ↓dzo_1, ↓drg_ok, ↓if_pos, ↓if_neg, if_pos, if_neg, if_true, if_false, Int.toNat_natCast, rg_ok, exw, ↓bnd e1]
theorem fb_next {W X x y : Nat} (h : fb nw W (X + 1) x y) : (x = X ∧ y = X + W) ∨ (¬ (x = X ∧ y = X + W) ∧ fb nw W X x y) := by
  obtain ⟨a1, a2, a3⟩ := h
  by_cases e : x = X ∧ y = X + W
  · exact Or.inl e
  · exact Or.inr ⟨e, a1, a2, by omega⟩
/-- the chart as far as it is filled -/
def RCH (g : GT) (w : Nat → Nat) (nw W X : Nat) (J0 J : Nat → Nat → Int) (v : CV) : Prop := Fr [190, 191, 192] J0 J ∧ (∀ a x y, v a x y ≤ 100) ∧ (∀ a, a < 16 → ∀ m m', m ≤ 12 → m' ≤ 12 → J 190 (169 * a + 13 * m + m') = (v a m m' : Int)) ∧ (∀ a x y, ¬ fb nw W X x y → v a x y = 0) ∧ LFX (PhR g w) v (fb nw W X)
theorem X12_readings (hn : 1000000000000000000000000000000 ≤ n) {J0 : Nat → Nat → Int} (hE : RE g J0) (hs : WSE w nw J0) (hsw : SW w nw) :
    ∃ (J : Nat → Nat → Int) (v : CV), f_X12_readings n 161 (hp u J0 L) = some ((v (Gt g) 0 nw : Int), hp u J L) ∧ Fr [161, 190, 191, 192] J0 J ∧ (∀ k, k ≠ 44 → J 161 k = J0 161 k) ∧ J 161 44 = 0 ∧ LFX (PhR g w) v (fun x y => x ≤ y ∧ y ≤ nw) := by
  have hg := hE.gr
  have h12 := hsw.1
  have ht7 := hg.2.1
  have f0 : Fr [161, 190, 191, 192] J0 (gx_u J0 161 44 0) := Fr.rf.wr (by simp)
  -- all is nothing
  have ini : zLP 2704 (fun f k (J : Nat → Nat → Int) => l_X12_readings_7 n f 161 (k : Int) (hp u J L)) (fun k J => Fr [190] (gx_u J0 161 44 0) J ∧ ∀ j, j < k → J 190 j = 0)
      (fun res => ∃ J, res = b_X12_readings_27 n 161 (hp u J L) ∧ Fr [190] (gx_u J0 161 44 0) J ∧ ∀ j, j < 2704 → J 190 j = 0) := by
    refine zlp ?_ ?_
    · rintro f k J hk ⟨g1, g2⟩
      right
      have ek : (k : Int) + 1 = ((k + 1 : Nat) : Int) := rfl
      refine ⟨gx_u J 190 k 0, ?_, g1.wr (by simp), fun j hj => ?_⟩
      · simp (disch := omega) only [l_X12_readings_7, b_X12_readings_7, ↓dhi_M, ↓dhG_M_0, ↓dhG_M_1, ↓dhG_M_2, ↓dhG_M_3, ↓dhG_M_4, ↓dhG_M_5, ↓dhG_M_6, ↓dhG_M_7, ↓dhG_M_8, ↓dhg_M_9, ↓dhq_M_9, ↓dhG_M_10, ↓dhG_M_11, ↓dhG_M_12, ↓dhg_M_13, ↓dhq_M_13, ↓dhG_M_14, ↓dhg_M_15, ↓dhq_M_15, ↓dhG_M_16, ↓dhg_M_17, ↓dhq_M_17, ↓dhg_M_18, ↓dhq_M_18, ↓dhG_M_19, ↓dhG_M_20, ↓dhG_M_21, ↓dhG_M_22, ↓dhG_M_23, ↓dhG_M_24, ↓dhg_M_25, ↓dhq_M_25, ↓dhG_M_26, ↓dhG_M_27, ↓dhG_M_28, ↓dhg_M_29, ↓dhq_M_29, ↓dhG_M_30, ↓dhG_M_31, ↓dhg_M_32, ↓dhq_M_32, ↓dhg_M_33, ↓dhq_M_33, ↓dhg_M_34, ↓dhq_M_34, ↓dhg_M_35, ↓dhq_M_35, ↓dhG_M_36, ↓dhG_M_37, ↓dhg_M_38, ↓dhq_M_38, ↓dhg_M_39, ↓dhq_M_39, ↓dhG_M_40, ↓dhG_M_41, ↓dhG_M_42, ↓dhG_M_43, ↓dhg_M_44, ↓dhq_M_44, ↓dha_190, ↓dhs_190, ↓dhl_190, Option.bind_some, ↓nm_eq, ↓sm_inl, ↓sm_inr, ↓dzo_0, ↓dzo_1, ↓drg_ok, ↓if_pos, ↓if_neg, if_pos, if_neg, if_true, if_false, Int.toNat_natCast, rg_ok, Int.toNat_natCast, ek]
      · by_cases e : j = k
        · rw [e, gu_at_eq rfl]
        · rw [gu_at_ne e]; exact g2 j (by omega)
    · rintro f J ⟨g1, g2⟩
      refine ⟨J, ?_, g1, g2⟩
      simp (disch := omega) only [l_X12_readings_7, b_X12_readings_7, Option.bind_some, ↓nm_eq, ↓sm_inl, ↓sm_inr, ↓dzo_0, ↓dzo_1, ↓drg_ok, ↓if_pos, ↓if_neg, if_pos, if_neg, if_true, if_false, Int.toNat_natCast, rg_ok] <;> rfl
  obtain ⟨J1, e1, g1, g2⟩ := ini 2704 n 0 (gx_u J0 161 44 0) (by omega) (by omega) ⟨Fr.rf, fun j hj => absurd hj (by omega)⟩
  have hE1 : RE g J1 := hE.fr (f0.tr (g1.up (fun a z => by simp at z; simp [z]))) (by rw [g1 161 (by decide), gu_at_ne (by decide)]) (by decide)
  have hs1 : WSE w nw J1 := ⟨by rw [g1 161 (by decide), gu_at_ne (by decide)]; exact hs.1, fun i hi => by rw [g1 175 (by decide), gu_ne (by decide)]; exact hs.2 i hi⟩
  have hEs : ∀ J, Fr [190, 191, 192] J1 J → RE g J ∧ WSE w nw J := fun J f => ⟨hE1.fr f (by rw [f 161 (by decide)]) (by decide), by rw [f 161 (by decide)]; exact hs1.1, fun i hi => by rw [f 175 (by decide)]; exact hs1.2 i hi⟩
  have inn : ∀ (r29 : Nat → Int → gi_H → Option (Int × gi_H)) (W : Nat), W ≤ nw → zLP (nw + 1 - W) (fun f X (s : (Nat → Nat → Int) × CV) => l_X12_readings_39 n r29 f 161 (W : Int) (X : Int) (hp u s.1 L))
      (fun X s => RCH g w nw W X J1 s.1 s.2)
      (fun res => ∃ (J : Nat → Nat → Int) (v : CV), res = r29 161 ((W + 1 : Nat) : Int) (hp u J L) ∧ RCH g w nw (W + 1) 0 J1 J v) := by
    intro r29 W hW
    refine zlp ?_ ?_
    · rintro f X ⟨J, v⟩ hX ⟨k1, k2, k3, k4, k5⟩
      dsimp only at k1 k2 k3 k4 k5 ⊢
      right
      obtain ⟨hEJ, hsJ⟩ := hEs J k1
      have hz0 : vs v X (X + W) (fun _ => 0) = v := by
        have : (fun _ => 0 : Nat → Nat) = fun a => v a X (X + W) := by
          funext a; exact (k4 a X (X + W) (fun ⟨a1, a2, a3⟩ => by omega)).symm
        rw [this, vs_self]
      obtain ⟨J', z', i1, i2, i3, i4, i5⟩ := X12_crounds (u := u) (L := L) hn hEJ hsJ hsw k2 (X := X) (W := W) (by omega) r29 (l_X12_readings_39 n r29 f) 1600 n J (fun _ => 0) (by omega) (by omega) Fr.rf KL.zero (fun a ha m m' h1 h2 => by rw [hz0]; exact k3 a ha m m' h1 h2)
      have hsub : ∀ x y, fb nw W X x y → vEq v (vs v X (X + W) z') x y := fun x y hf a x' y' q1 q2 q3 q4 => by
        obtain ⟨b1, b2, b3⟩ := hf
        exact (vs_ne (by omega)).symm
      refine ⟨(J', vs v X (X + W) z'), ?_, k1.tr i2, fun a x y => ?_, i5, fun a x y hf => ?_, fun x y hf => ?_⟩
      · have e17 := hsJ.1
        have exw : (X : Int) + (W : Int) = ((X + W : Nat) : Int) := rfl
        dsimp only
        rw [← i1]
        simp (disch := omega) only [l_X12_readings_39, b_X12_readings_39, ↓dhi_M, ↓dhG_M_0, ↓dhG_M_1, ↓dhG_M_2, ↓dhG_M_3, ↓dhG_M_4, ↓dhG_M_5, ↓dhG_M_6, ↓dhG_M_7, ↓dhG_M_8, ↓dhg_M_9, ↓dhq_M_9, ↓dhG_M_10, ↓dhG_M_11, ↓dhG_M_12, ↓dhg_M_13, ↓dhq_M_13, ↓dhG_M_14, ↓dhg_M_15, ↓dhq_M_15, ↓dhG_M_16, ↓dhg_M_17, ↓dhq_M_17, ↓dhg_M_18, ↓dhq_M_18, ↓dhG_M_19, ↓dhG_M_20, ↓dhG_M_21, ↓dhG_M_22, ↓dhG_M_23, ↓dhG_M_24, ↓dhg_M_25, ↓dhq_M_25, ↓dhG_M_26, ↓dhG_M_27, ↓dhG_M_28, ↓dhg_M_29, ↓dhq_M_29, ↓dhG_M_30, ↓dhG_M_31, ↓dhg_M_32, ↓dhq_M_32, ↓dhg_M_33, ↓dhq_M_33, ↓dhg_M_34, ↓dhq_M_34, ↓dhg_M_35, ↓dhq_M_35, ↓dhG_M_36, ↓dhG_M_37, ↓dhg_M_38, ↓dhq_M_38, ↓dhg_M_39, ↓dhq_M_39, ↓dhG_M_40, ↓dhG_M_41, ↓dhG_M_42, ↓dhG_M_43, ↓dhg_M_44, ↓dhq_M_44, Option.bind_some, ↓nm_eq, ↓sm_inl, ↓sm_inr, ↓dzo_0, ↓dzo_1, ↓drg_ok, ↓if_pos, ↓if_neg, if_pos, if_neg, if_true, if_false, Int.toNat_natCast, rg_ok, e17, exw]
      · dsimp only
        unfold vs; split
        · exact i3.1 a
        · exact k2 a x y
      · dsimp only
        have hne : ¬ (x = X ∧ y = X + W) := fun ⟨q1, q2⟩ => hf ⟨by omega, by omega, by omega⟩
        rw [vs_ne hne]
        exact k4 a x y (fun ⟨a1, a2, a3⟩ => hf ⟨a1, a2, by omega⟩)
      · dsimp only
        rcases fb_next hf with ⟨rfl, rfl⟩ | ⟨e, hf'⟩
        · have eP : PhR g w (vs v x (x + W) z') x (x + W) = PhR g w v x (x + W) := by
            funext z a
            unfold PhR
            congr 1
            funext b x' y'
            by_cases c : x' = x ∧ y' = x + W
            · rw [c.1, c.2, vs_eq, vs_eq]
            · rw [vs_ne c, vs_ne c, vs_ne c]
          have ez : (fun b => vs v x (x + W) z' b x (x + W)) = z' := by funext b; exact vs_eq
          rw [eP, ez]
          refine ⟨fun a ha => by rw [vs_eq]; exact i4 a ha, i3⟩
        · obtain ⟨c1, c2⟩ := k5 x y hf'
          have eP : PhR g w (vs v X (X + W) z') x y = PhR g w v x y := by
            funext z a
            exact gF_congr hg (fun b x' y' q1 q2 q3 q4 => by
              by_cases c : x' = x ∧ y' = y
              · rw [c.1, c.2, vs_eq, vs_eq]
              · rw [vs_ne c, vs_ne c]; exact (hsub x y hf' b x' y' q1 q2 q3 q4).symm) _
          have ez : (fun b => vs v X (X + W) z' b x y) = fun b => v b x y := by funext b; exact vs_ne e
          rw [eP, ez]
          exact ⟨fun a ha => by rw [vs_ne e]; exact c1 a ha, c2⟩
    · rintro f ⟨J, v⟩ ⟨k1, k2, k3, k4, k5⟩
      dsimp only at k1 k2 k3 k4 k5 ⊢
      have hfb : ∀ x y, fb nw (W + 1) 0 x y ↔ fb nw W (nw + 1 - W) x y := fun x y => ⟨fun ⟨a1, a2, a3⟩ => ⟨a1, a2, by omega⟩, fun ⟨a1, a2, a3⟩ => ⟨a1, a2, by omega⟩⟩
      obtain ⟨hEJ, hsJ⟩ := hEs J k1
      have e17 := hsJ.1
      have ex : ((nw + 1 - W : Nat) : Int) + (W : Int) = (nw : Int) + 1 := by omega
      have ek : (W : Int) + 1 = ((W + 1 : Nat) : Int) := rfl
      refine ⟨J, v, ?_, k1, k2, k3, fun a x y hf => k4 a x y (fun q => hf ((hfb x y).mpr q)), fun x y hf => k5 x y ((hfb x y).mp hf)⟩
      simp (disch := omega) only [l_X12_readings_39, b_X12_readings_39, b_X12_readings_73, ↓dhi_M, ↓dhG_M_0, ↓dhG_M_1, ↓dhG_M_2, ↓dhG_M_3, ↓dhG_M_4, ↓dhG_M_5, ↓dhG_M_6, ↓dhG_M_7, ↓dhG_M_8, ↓dhg_M_9, ↓dhq_M_9, ↓dhG_M_10, ↓dhG_M_11, ↓dhG_M_12, ↓dhg_M_13, ↓dhq_M_13, ↓dhG_M_14, ↓dhg_M_15, ↓dhq_M_15, ↓dhG_M_16, ↓dhg_M_17, ↓dhq_M_17, ↓dhg_M_18, ↓dhq_M_18, ↓dhG_M_19, ↓dhG_M_20, ↓dhG_M_21, ↓dhG_M_22, ↓dhG_M_23, ↓dhG_M_24, ↓dhg_M_25, ↓dhq_M_25, ↓dhG_M_26, ↓dhG_M_27, ↓dhG_M_28, ↓dhg_M_29, ↓dhq_M_29, ↓dhG_M_30, ↓dhG_M_31, ↓dhg_M_32, ↓dhq_M_32, ↓dhg_M_33, ↓dhq_M_33, ↓dhg_M_34, ↓dhq_M_34, ↓dhg_M_35, ↓dhq_M_35, ↓dhG_M_36, ↓dhG_M_37, ↓dhg_M_38, ↓dhq_M_38, ↓dhg_M_39, ↓dhq_M_39, ↓dhG_M_40, ↓dhG_M_41, ↓dhG_M_42, ↓dhG_M_43, ↓dhg_M_44, ↓dhq_M_44, Option.bind_some, ↓nm_eq, ↓sm_inl, ↓sm_inr, ↓dzo_0, ↓dzo_1, ↓drg_ok, ↓if_pos, ↓if_neg, if_pos, if_neg, if_true, if_false, Int.toNat_natCast, rg_ok, e17, ex, ek]
  have out : zLP (nw + 1) (fun f W (s : (Nat → Nat → Int) × CV) => l_X12_readings_29 n f 161 (W : Int) (hp u s.1 L))
      (fun W s => RCH g w nw W 0 J1 s.1 s.2)
      (fun res => ∃ (J : Nat → Nat → Int) (v : CV), res = some ((v (Gt g) 0 nw : Int), hp u J L) ∧ Fr [190, 191, 192] J1 J ∧ LFX (PhR g w) v (fun x y => x ≤ y ∧ y ≤ nw)) := by
    refine zlp ?_ ?_
    · rintro f W ⟨J, v⟩ hW hI
      dsimp only at hI ⊢
      right
      obtain ⟨J', v', e, hI'⟩ := inn (l_X12_readings_29 n f) W (by omega) (nw + 1 - W) n 0 (J, v) (by omega) (by omega) hI
      refine ⟨(J', v'), ?_, hI'⟩
      have e' : l_X12_readings_39 n (l_X12_readings_29 n f) n 161 (W : Int) 0 (hp u J L) = l_X12_readings_29 n f 161 ((W + 1 : Nat) : Int) (hp u J' L) := e
      obtain ⟨hEJ, hsJ⟩ := hEs J hI.1
      have e17 := hsJ.1
      dsimp only
      rw [← e']
      simp (disch := omega) only [l_X12_readings_29, b_X12_readings_29, ↓dhi_M, ↓dhG_M_0, ↓dhG_M_1, ↓dhG_M_2, ↓dhG_M_3, ↓dhG_M_4, ↓dhG_M_5, ↓dhG_M_6, ↓dhG_M_7, ↓dhG_M_8, ↓dhg_M_9, ↓dhq_M_9, ↓dhG_M_10, ↓dhG_M_11, ↓dhG_M_12, ↓dhg_M_13, ↓dhq_M_13, ↓dhG_M_14, ↓dhg_M_15, ↓dhq_M_15, ↓dhG_M_16, ↓dhg_M_17, ↓dhq_M_17, ↓dhg_M_18, ↓dhq_M_18, ↓dhG_M_19, ↓dhG_M_20, ↓dhG_M_21, ↓dhG_M_22, ↓dhG_M_23, ↓dhG_M_24, ↓dhg_M_25, ↓dhq_M_25, ↓dhG_M_26, ↓dhG_M_27, ↓dhG_M_28, ↓dhg_M_29, ↓dhq_M_29, ↓dhG_M_30, ↓dhG_M_31, ↓dhg_M_32, ↓dhq_M_32, ↓dhg_M_33, ↓dhq_M_33, ↓dhg_M_34, ↓dhq_M_34, ↓dhg_M_35, ↓dhq_M_35, ↓dhG_M_36, ↓dhG_M_37, ↓dhg_M_38, ↓dhq_M_38, ↓dhg_M_39, ↓dhq_M_39, ↓dhG_M_40, ↓dhG_M_41, ↓dhG_M_42, ↓dhG_M_43, ↓dhg_M_44, ↓dhq_M_44, Option.bind_some, ↓nm_eq, ↓sm_inl, ↓sm_inr, ↓dzo_0, ↓dzo_1, ↓drg_ok, ↓if_pos, ↓if_neg, if_pos, if_neg, if_true, if_false, Int.toNat_natCast, rg_ok, e17]
    · rintro f ⟨J, v⟩ ⟨k1, k2, k3, k4, k5⟩
      dsimp only at k1 k2 k3 k4 k5 ⊢
      have hfb : ∀ x y, x ≤ y ∧ y ≤ nw → fb nw (nw + 1) 0 x y := fun x y ⟨a1, a2⟩ => ⟨a1, a2, by omega⟩
      obtain ⟨hEJ, hsJ⟩ := hEs J k1
      have e17 := hsJ.1
      have h9 := re_w hEJ
      have hnt := re_t hEJ
      have e0 := k3 (Gt g) (by omega) 0 nw (by omega) h12
      have ei : (169 * (Gt g : Int) + 13 * 0 + (nw : Int)).toNat = 169 * Gt g + 13 * 0 + nw := by omega
      refine ⟨J, v, ?_, k1, fun x y hf => k5 x y (hfb x y hf)⟩
      simp (disch := omega) only [l_X12_readings_29, b_X12_readings_29, b_X12_readings_79, f_X12_at, ↓dhi_M, ↓dhG_M_0, ↓dhG_M_1, ↓dhG_M_2, ↓dhG_M_3, ↓dhG_M_4, ↓dhG_M_5, ↓dhG_M_6, ↓dhG_M_7, ↓dhG_M_8, ↓dhg_M_9, ↓dhq_M_9, ↓dhG_M_10, ↓dhG_M_11, ↓dhG_M_12, ↓dhg_M_13, ↓dhq_M_13, ↓dhG_M_14, ↓dhg_M_15, ↓dhq_M_15, ↓dhG_M_16, ↓dhg_M_17, ↓dhq_M_17, ↓dhg_M_18, ↓dhq_M_18, ↓dhG_M_19, ↓dhG_M_20, ↓dhG_M_21, ↓dhG_M_22, ↓dhG_M_23, ↓dhG_M_24, ↓dhg_M_25, ↓dhq_M_25, ↓dhG_M_26, ↓dhG_M_27, ↓dhG_M_28, ↓dhg_M_29, ↓dhq_M_29, ↓dhG_M_30, ↓dhG_M_31, ↓dhg_M_32, ↓dhq_M_32, ↓dhg_M_33, ↓dhq_M_33, ↓dhg_M_34, ↓dhq_M_34, ↓dhg_M_35, ↓dhq_M_35, ↓dhG_M_36, ↓dhG_M_37, ↓dhg_M_38, ↓dhq_M_38, ↓dhg_M_39, ↓dhq_M_39, ↓dhG_M_40, ↓dhG_M_41, ↓dhG_M_42, ↓dhG_M_43, ↓dhg_M_44, ↓dhq_M_44, ↓dha_170, ↓dhs_170, ↓dhl_170, ↓dha_190, ↓dhs_190, ↓dhl_190, Option.bind_some, ↓nm_eq, ↓sm_inl, ↓sm_inr, ↓dzo_0, ↓dzo_1, ↓drg_ok, ↓if_pos, ↓if_neg, if_pos, if_neg, if_true, if_false, Int.toNat_natCast, rg_ok, e17, h9.1, Int.toNat_natCast, hnt, ei, e0]
  obtain ⟨J, v, e, k1, k2⟩ := out (nw + 1) n 0 (J1, fun _ _ _ => 0) (by omega) (by omega) ⟨Fr.rf, fun _ _ _ => Nat.zero_le _, fun a ha m m' h1 h2 => by dsimp only; rw [g2 _ (by omega)]; rfl, fun _ _ _ _ => rfl, fun x y ⟨a1, a2, a3⟩ => by omega⟩
  refine ⟨J, v, ?_, (f0.tr (g1.up (fun a z => by simp at z; simp [z]))).tr (k1.up (fun a z => by simp at z; simp; omega)), fun k hk => by rw [k1 161 (by decide), g1 161 (by decide), gu_at_ne hk], by rw [k1 161 (by decide), g1 161 (by decide), gu_at_eq rfl], k2⟩
  have e1' : l_X12_readings_7 n n 161 0 (hp u (gx_u J0 161 44 0) L) = b_X12_readings_27 n 161 (hp u J1 L) := e1
  have e' : l_X12_readings_29 n n 161 0 (hp u J1 L) = some ((v (Gt g) 0 nw : Int), hp u J L) := e
  have e27 : b_X12_readings_27 n 161 (hp u J1 L) = l_X12_readings_29 n n 161 0 (hp u J1 L) := rfl
  rw [← e', ← e27, ← e1']
  simp (disch := omega) only [f_X12_readings, ↓dhi_M, ↓dhG_M_0, ↓dhG_M_1, ↓dhG_M_2, ↓dhG_M_3, ↓dhG_M_4, ↓dhG_M_5, ↓dhG_M_6, ↓dhG_M_7, ↓dhG_M_8, ↓dhg_M_9, ↓dhq_M_9, ↓dhG_M_10, ↓dhG_M_11, ↓dhG_M_12, ↓dhg_M_13, ↓dhq_M_13, ↓dhG_M_14, ↓dhg_M_15, ↓dhq_M_15, ↓dhG_M_16, ↓dhg_M_17, ↓dhq_M_17, ↓dhg_M_18, ↓dhq_M_18, ↓dhG_M_19, ↓dhG_M_20, ↓dhG_M_21, ↓dhG_M_22, ↓dhG_M_23, ↓dhG_M_24, ↓dhg_M_25, ↓dhq_M_25, ↓dhG_M_26, ↓dhG_M_27, ↓dhG_M_28, ↓dhg_M_29, ↓dhq_M_29, ↓dhG_M_30, ↓dhG_M_31, ↓dhg_M_32, ↓dhq_M_32, ↓dhg_M_33, ↓dhq_M_33, ↓dhg_M_34, ↓dhq_M_34, ↓dhg_M_35, ↓dhq_M_35, ↓dhG_M_36, ↓dhG_M_37, ↓dhg_M_38, ↓dhq_M_38, ↓dhg_M_39, ↓dhq_M_39, ↓dhG_M_40, ↓dhG_M_41, ↓dhG_M_42, ↓dhG_M_43, ↓dhg_M_44, ↓dhq_M_44, Option.bind_some, ↓nm_eq, ↓sm_inl, ↓sm_inr, ↓dzo_0, ↓dzo_1, ↓drg_ok, ↓if_pos, ↓if_neg, if_pos, if_neg, if_true, if_false, Int.toNat_natCast, rg_ok]
end RCN
