/-! ===== the reference counts ways ===== -/
theorem m100_add (a b : Nat) : m100 (a + m100 b) = m100 (a + b) := by
  unfold m100
  repeat' split
  all_goals omega
section RWV
variable {u : Nat} {n : Nat} {nw : Nat} {L : Nat → Nat → Int} {g : GT} {w : Nat → Nat}
theorem wB_V {v : CV} (hv : ∀ a x y, v a x y ≤ 100) {s x y : Nat} (_ : s < 8 ∨ (16 ≤ s ∧ s < 32)) (_ : x ≤ y) (_ : y ≤ 12) : gsv (opC g w) v s x y ≤ 100 := by
  unfold gsv
  split
  · show (if y = x + 1 ∧ w x = s then 1 else 0) ≤ 100; split <;> omega
  · exact hv _ _ _
theorem wB_F {f : Nat → Nat} : ∀ c, gfo (opC g w) f c ≤ 100
  | 0 => Nat.zero_le _
  | c + 1 => m100_le _
theorem wB_D (_ : GR g) {v : CV} (_ : ∀ a x y, v a x y ≤ 100) {p x : Nat} : ∀ (k y : Nat), k ≤ Gl g p → x ≤ y → y ≤ 12 → gD (opC g w) g v p k x y ≤ 100
  | 0, y, _, _, _ => by
    show (if x = y then 1 else 0) ≤ 100; split <;> omega
  | k + 1, y, _, _, _ => wB_F _
theorem X12_ways (_ : 1000000000000000000000000000000 ≤ n) {J : Nat → Nat → Int} (hs : WSE w nw J) (hsw : SW w nw) {v : CV} {s x y : Nat} (hsr : s < 8 ∨ (16 ≤ s ∧ s < 32)) (hxy : x ≤ y) (hy : y ≤ nw) (hW : ∀ a, a < 16 → J 190 (169 * a + 13 * x + y) = (v a x y : Int)) :
    f_X12_ways 161 (s : Int) (x : Int) (y : Int) (hp u J L) = some (gsv (opC g w) v s x y : Int) := by
  have h12 := hsw.1
  unfold gsv
  by_cases c : s < 16
  · rw [if_pos c]
    have e : oT (opC g w) s x y = if y = x + 1 ∧ w x = s then 1 else 0 := rfl
    rw [e]
    by_cases c1 : y = x + 1
    · have ew : J 175 x = (w x : Int) := hs.2 x (by omega)
      have h9 := hsw.le x
      by_cases c2 : w x = s
      · rw [if_pos ⟨c1, c2⟩]
        simp (disch := omega) only [f_X12_ways, ↓dhi_M, ↓dhG_M_0, ↓dhG_M_1, ↓dhG_M_2, ↓dhG_M_3, ↓dhG_M_4, ↓dhG_M_5, ↓dhG_M_6, ↓dhG_M_7, ↓dhG_M_8, ↓dhg_M_9, ↓dhq_M_9, ↓dhG_M_10, ↓dhG_M_11, ↓dhG_M_12, ↓dhg_M_13, ↓dhq_M_13, ↓dhG_M_14, ↓dhg_M_15, ↓dhq_M_15, ↓dhG_M_16, ↓dhg_M_17, ↓dhq_M_17, ↓dhg_M_18, ↓dhq_M_18, ↓dhG_M_19, ↓dhG_M_20, ↓dhG_M_21, ↓dhG_M_22, ↓dhG_M_23, ↓dhG_M_24, ↓dhg_M_25, ↓dhq_M_25, ↓dhG_M_26, ↓dhG_M_27, ↓dhG_M_28, ↓dhg_M_29, ↓dhq_M_29, ↓dhG_M_30, ↓dhG_M_31, ↓dhg_M_32, ↓dhq_M_32, ↓dhg_M_33, ↓dhq_M_33, ↓dhg_M_34, ↓dhq_M_34, ↓dhg_M_35, ↓dhq_M_35, ↓dhG_M_36, ↓dhG_M_37, ↓dhg_M_38, ↓dhq_M_38, ↓dhg_M_39, ↓dhq_M_39, ↓dhG_M_40, ↓dhG_M_41, ↓dhG_M_42, ↓dhG_M_43, ↓dhg_M_44, ↓dhq_M_44, ↓dha_175, ↓dhs_175, ↓dhl_175, Option.bind_some, ↓nm_eq, ↓sm_inl, ↓sm_inr, ↓dzo_0, ↓dzo_1, ↓drg_ok, ↓if_pos, ↓if_neg, if_pos, if_neg, if_true, if_false, Int.toNat_natCast, rg_ok, Int.toNat_natCast, ew] <;> rfl
      · rw [if_neg (fun z => c2 z.2)]
        simp (disch := omega) only [f_X12_ways, b_X12_ways_42, ↓dhi_M, ↓dhG_M_0, ↓dhG_M_1, ↓dhG_M_2, ↓dhG_M_3, ↓dhG_M_4, ↓dhG_M_5, ↓dhG_M_6, ↓dhG_M_7, ↓dhG_M_8, ↓dhg_M_9, ↓dhq_M_9, ↓dhG_M_10, ↓dhG_M_11, ↓dhG_M_12, ↓dhg_M_13, ↓dhq_M_13, ↓dhG_M_14, ↓dhg_M_15, ↓dhq_M_15, ↓dhG_M_16, ↓dhg_M_17, ↓dhq_M_17, ↓dhg_M_18, ↓dhq_M_18, ↓dhG_M_19, ↓dhG_M_20, ↓dhG_M_21, ↓dhG_M_22, ↓dhG_M_23, ↓dhG_M_24, ↓dhg_M_25, ↓dhq_M_25, ↓dhG_M_26, ↓dhG_M_27, ↓dhG_M_28, ↓dhg_M_29, ↓dhq_M_29, ↓dhG_M_30, ↓dhG_M_31, ↓dhg_M_32, ↓dhq_M_32, ↓dhg_M_33, ↓dhq_M_33, ↓dhg_M_34, ↓dhq_M_34, ↓dhg_M_35, ↓dhq_M_35, ↓dhG_M_36, ↓dhG_M_37, ↓dhg_M_38, ↓dhq_M_38, ↓dhg_M_39, ↓dhq_M_39, ↓dhG_M_40, ↓dhG_M_41, ↓dhG_M_42, ↓dhG_M_43, ↓dhg_M_44, ↓dhq_M_44, ↓dha_175, ↓dhs_175, ↓dhl_175, Option.bind_some, ↓nm_eq, ↓sm_inl, ↓sm_inr, ↓dzo_0, ↓dzo_1, ↓drg_ok, ↓if_pos, ↓if_neg, if_pos, if_neg, if_true, if_false, Int.toNat_natCast, rg_ok, Int.toNat_natCast, ew] <;> rfl
    · rw [if_neg (fun z => c1 z.1)]
      simp (disch := omega) only [f_X12_ways, b_X12_ways_42, ↓dhi_M, ↓dhG_M_0, ↓dhG_M_1, ↓dhG_M_2, ↓dhG_M_3, ↓dhG_M_4, ↓dhG_M_5, ↓dhG_M_6, ↓dhG_M_7, ↓dhG_M_8, ↓dhg_M_9, ↓dhq_M_9, ↓dhG_M_10, ↓dhG_M_11, ↓dhG_M_12, ↓dhg_M_13, ↓dhq_M_13, ↓dhG_M_14, ↓dhg_M_15, ↓dhq_M_15, ↓dhG_M_16, ↓dhg_M_17, ↓dhq_M_17, ↓dhg_M_18, ↓dhq_M_18, ↓dhG_M_19, ↓dhG_M_20, ↓dhG_M_21, ↓dhG_M_22, ↓dhG_M_23, ↓dhG_M_24, ↓dhg_M_25, ↓dhq_M_25, ↓dhG_M_26, ↓dhG_M_27, ↓dhG_M_28, ↓dhg_M_29, ↓dhq_M_29, ↓dhG_M_30, ↓dhG_M_31, ↓dhg_M_32, ↓dhq_M_32, ↓dhg_M_33, ↓dhq_M_33, ↓dhg_M_34, ↓dhq_M_34, ↓dhg_M_35, ↓dhq_M_35, ↓dhG_M_36, ↓dhG_M_37, ↓dhg_M_38, ↓dhq_M_38, ↓dhg_M_39, ↓dhq_M_39, ↓dhG_M_40, ↓dhG_M_41, ↓dhG_M_42, ↓dhG_M_43, ↓dhg_M_44, ↓dhq_M_44, Option.bind_some, ↓nm_eq, ↓sm_inl, ↓sm_inr, ↓dzo_0, ↓dzo_1, ↓drg_ok, ↓if_pos, ↓if_neg, if_pos, if_neg, if_true, if_false, Int.toNat_natCast, rg_ok] <;> rfl
  · rw [if_neg c]
    have e16 : (s : Int) - 16 = ((s - 16 : Nat) : Int) := by omega
    have ei : (169 * ((s - 16 : Nat) : Int) + 13 * (x : Int) + (y : Int)).toNat = 169 * (s - 16) + 13 * x + y := by omega
    have ew := hW (s - 16) (by omega)
    simp (disch := omega) only [f_X12_ways, f_X12_at, ↓dhi_M, ↓dhG_M_0, ↓dhG_M_1, ↓dhG_M_2, ↓dhG_M_3, ↓dhG_M_4, ↓dhG_M_5, ↓dhG_M_6, ↓dhG_M_7, ↓dhG_M_8, ↓dhg_M_9, ↓dhq_M_9, ↓dhG_M_10, ↓dhG_M_11, ↓dhG_M_12, ↓dhg_M_13, ↓dhq_M_13, ↓dhG_M_14, ↓dhg_M_15, ↓dhq_M_15, ↓dhG_M_16, ↓dhg_M_17, ↓dhq_M_17, ↓dhg_M_18, ↓dhq_M_18, ↓dhG_M_19, ↓dhG_M_20, ↓dhG_M_21, ↓dhG_M_22, ↓dhG_M_23, ↓dhG_M_24, ↓dhg_M_25, ↓dhq_M_25, ↓dhG_M_26, ↓dhG_M_27, ↓dhG_M_28, ↓dhg_M_29, ↓dhq_M_29, ↓dhG_M_30, ↓dhG_M_31, ↓dhg_M_32, ↓dhq_M_32, ↓dhg_M_33, ↓dhq_M_33, ↓dhg_M_34, ↓dhq_M_34, ↓dhg_M_35, ↓dhq_M_35, ↓dhG_M_36, ↓dhG_M_37, ↓dhg_M_38, ↓dhq_M_38, ↓dhg_M_39, ↓dhq_M_39, ↓dhG_M_40, ↓dhG_M_41, ↓dhG_M_42, ↓dhG_M_43, ↓dhg_M_44, ↓dhq_M_44, ↓dha_190, ↓dhs_190, ↓dhl_190, Option.bind_some, ↓nm_eq, ↓sm_inl, ↓sm_inr, ↓dzo_0, ↓dzo_1, ↓drg_ok, ↓if_pos, ↓if_neg, if_pos, if_neg, if_true, if_false, Int.toNat_natCast, rg_ok, e16, ei, ew]
end RWV
section RD1
variable {u : Nat} {n : Nat} {nw : Nat} {L : Nat → Nat → Int} {g : GT} {w : Nat → Nat}
/-- the rows of the line, one symbol more -/
theorem X12_waysOf_mid (hn : 1000000000000000000000000000000 ≤ n) {J0 : Nat → Nat → Int} (hE : RE g J0) (hs : WSE w nw J0) (hsw : SW w nw) {v : CV} (hv : ∀ a x y, v a x y ≤ 100) {p x y k : Nat} (hk : k < Gl g p) (hxy : x ≤ y) (hy : y ≤ nw)
    (hW : ∀ a, a < 16 → ∀ m m', x ≤ m → m ≤ m' → m' ≤ y → J0 190 (169 * a + 13 * m + m') = (v a m m' : Int)) (hl : ∀ m, x ≤ m → m ≤ y → J0 191 m = (gD (opC g w) g v p k x m : Int)) (r36 : Nat → Int → Int → Int → Int → gi_H → Option (Int × gi_H)) :
    ∃ J, l_X12_waysOf_58 n r36 n 161 (p : Int) (x : Int) (y : Int) (k : Int) (Gs g p k : Int) (x : Int) (hp u J0 L) = r36 161 (p : Int) (x : Int) (y : Int) ((k + 1 : Nat) : Int) (hp u J L) ∧ Fr [191, 192] J0 J ∧ ∀ m, x ≤ m → m ≤ y → J 191 m = (gD (opC g w) g v p (k + 1) x m : Int) := by
  have hg := hE.gr
  have h12 := hsw.1
  have hsr := hg.2.2.2.2.2 p k hk
  have h5 := hg.2.2.2.1 p
  have inn : ∀ (r58 : Nat → Int → Int → Int → Int → Int → Int → gi_H → Option (Int × gi_H)) (J1 : Nat → Nat → Int) (j : Nat), x + j ≤ y → Fr [192] J0 J1 → J1 192 (x + j) = (oN (opC g w) : Int) → zLP (j + 1) (fun f i (J : Nat → Nat → Int) => l_X12_waysOf_75 n r36 r58 f 161 (p : Int) (x : Int) (y : Int) (k : Int) (Gs g p k : Int) ((x + j : Nat) : Int) ((x + i : Nat) : Int) (hp u J L))
      (fun i J => Fr [192] J0 J ∧ (∀ m, m ≠ x + j → J 192 m = J1 192 m) ∧ J 192 (x + j) = (gfo (opC g w) (fun i => oO (opC g w) (gD (opC g w) g v p k x (x + i)) (gsv (opC g w) v (Gs g p k) (x + i) (x + j))) i : Int))
      (fun res => ∃ J, res = b_X12_waysOf_137 n r36 r58 161 (p : Int) (x : Int) (y : Int) (k : Int) (Gs g p k : Int) ((x + j : Nat) : Int) (hp u J L) ∧ Fr [192] J0 J ∧ (∀ m, m ≠ x + j → J 192 m = J1 192 m) ∧ J 192 (x + j) = (gD (opC g w) g v p (k + 1) x (x + j) : Int)) := by
    intro r58 J1 j hj f1 h0
    refine zlp ?_ ?_
    · rintro f i J hi ⟨g1, g2, g3⟩
      right
      have e1 : J 191 (x + i) = (gD (opC g w) g v p k x (x + i) : Int) := by rw [g1 191 (by decide)]; exact hl _ (by omega) (by omega)
      have hEJ : RE g J := hE.fr g1 (by rw [g1 161 (by decide)]) (by decide)
      have hsJ : WSE w nw J := ⟨by rw [g1 161 (by decide)]; exact hs.1, fun i hi => by rw [g1 175 (by decide)]; exact hs.2 i hi⟩
      have ews := X12_ways (u := u) (L := L) hn hsJ hsw (g := g) (v := v) (s := Gs g p k) (x := x + i) (y := x + j) hsr (by omega) (by omega) (fun a ha => by rw [g1 190 (by decide)]; exact hW a ha _ _ (by omega) (by omega) (by omega))
      have b1 := wB_D hg hv (w := w) (p := p) (x := x) k (x + i) (by omega) (by omega) (by omega)
      have b2 := wB_V hv (g := g) (w := w) (s := Gs g p k) (x := x + i) (y := x + j) hsr (by omega) (by omega)
      have b3 := wB_F (g := g) (w := w) (f := fun i => oO (opC g w) (gD (opC g w) g v p k x (x + i)) (gsv (opC g w) v (Gs g p k) (x + i) (x + j))) i
      have ek : ((x + i : Nat) : Int) + 1 = ((x + (i + 1) : Nat) : Int) := by omega
      refine ⟨gx_u J 192 (x + j) (gfo (opC g w) (fun i => oO (opC g w) (gD (opC g w) g v p k x (x + i)) (gsv (opC g w) v (Gs g p k) (x + i) (x + j))) (i + 1) : Int), ?_, g1.wr (by simp), fun m hm => by rw [gu_at_ne hm]; exact g2 m hm, gu_at_eq rfl⟩
      rw [gfo_s]
      try dsimp only
      generalize gD (opC g w) g v p k x (x + i) = d1 at *
      generalize gsv (opC g w) v (Gs g p k) (x + i) (x + j) = d2 at *
      generalize gfo (opC g w) (fun i => oO (opC g w) (gD (opC g w) g v p k x (x + i)) (gsv (opC g w) v (Gs g p k) (x + i) (x + j))) i = d3 at *
      have em : (d1 : Int) * (d2 : Int) = ((d1 * d2 : Nat) : Int) := (Int.natCast_mul _ _).symm
      have hpr : d1 * d2 ≤ 100 * 100 := Nat.mul_le_mul b1 b2
      have es : (d3 : Int) + ((d1 * d2 : Nat) : Int) = ((d3 + d1 * d2 : Nat) : Int) := rfl
      have eE : oE (opC g w) d3 (oO (opC g w) d1 d2) = m100 (d3 + d1 * d2) := by
        show m100 (d3 + m100 (d1 * d2)) = _; exact m100_add _ _
      rw [eE]
      by_cases c : d3 + d1 * d2 ≤ 100
      · have eM : m100 (d3 + d1 * d2) = d3 + d1 * d2 := if_pos c
        rw [eM]
        simp (disch := omega) only [l_X12_waysOf_75, b_X12_waysOf_75, b_X12_waysOf_130, ↓dhi_M, ↓dhG_M_0, ↓dhG_M_1, ↓dhG_M_2, ↓dhG_M_3, ↓dhG_M_4, ↓dhG_M_5, ↓dhG_M_6, ↓dhG_M_7, ↓dhG_M_8, ↓dhg_M_9, ↓dhq_M_9, ↓dhG_M_10, ↓dhG_M_11, ↓dhG_M_12, ↓dhg_M_13, ↓dhq_M_13, ↓dhG_M_14, ↓dhg_M_15, ↓dhq_M_15, ↓dhG_M_16, ↓dhg_M_17, ↓dhq_M_17, ↓dhg_M_18, ↓dhq_M_18, ↓dhG_M_19, ↓dhG_M_20, ↓dhG_M_21, ↓dhG_M_22, ↓dhG_M_23, ↓dhG_M_24, ↓dhg_M_25, ↓dhq_M_25, ↓dhG_M_26, ↓dhG_M_27, ↓dhG_M_28, ↓dhg_M_29, ↓dhq_M_29, ↓dhG_M_30, ↓dhG_M_31, ↓dhg_M_32, ↓dhq_M_32, ↓dhg_M_33, ↓dhq_M_33, ↓dhg_M_34, ↓dhq_M_34, ↓dhg_M_35, ↓dhq_M_35, ↓dhG_M_36, ↓dhG_M_37, ↓dhg_M_38, ↓dhq_M_38, ↓dhg_M_39, ↓dhq_M_39, ↓dhG_M_40, ↓dhG_M_41, ↓dhG_M_42, ↓dhG_M_43, ↓dhg_M_44, ↓dhq_M_44, ↓dha_191, ↓dhs_191, ↓dhl_191, ↓dha_192, ↓dhs_192, ↓dhl_192, Option.bind_some, ↓nm_eq, ↓sm_inl, ↓sm_inr, ↓dzo_0, ↓dzo_1, ↓drg_ok, ↓if_pos, ↓if_neg, if_pos, if_neg, if_true, if_false, Int.toNat_natCast, rg_ok, Int.toNat_natCast, g3, e1, ↓bnd ews, em, es, ek]
      · have eM : m100 (d3 + d1 * d2) = 100 := if_neg c
        rw [eM]
        simp (disch := omega) only [l_X12_waysOf_75, b_X12_waysOf_75, b_X12_waysOf_130, ↓dhi_M, ↓dhG_M_0, ↓dhG_M_1, ↓dhG_M_2, ↓dhG_M_3, ↓dhG_M_4, ↓dhG_M_5, ↓dhG_M_6, ↓dhG_M_7, ↓dhG_M_8, ↓dhg_M_9, ↓dhq_M_9, ↓dhG_M_10, ↓dhG_M_11, ↓dhG_M_12, ↓dhg_M_13, ↓dhq_M_13, ↓dhG_M_14, ↓dhg_M_15, ↓dhq_M_15, ↓dhG_M_16, ↓dhg_M_17, ↓dhq_M_17, ↓dhg_M_18, ↓dhq_M_18, ↓dhG_M_19, ↓dhG_M_20, ↓dhG_M_21, ↓dhG_M_22, ↓dhG_M_23, ↓dhG_M_24, ↓dhg_M_25, ↓dhq_M_25, ↓dhG_M_26, ↓dhG_M_27, ↓dhG_M_28, ↓dhg_M_29, ↓dhq_M_29, ↓dhG_M_30, ↓dhG_M_31, ↓dhg_M_32, ↓dhq_M_32, ↓dhg_M_33, ↓dhq_M_33, ↓dhg_M_34, ↓dhq_M_34, ↓dhg_M_35, ↓dhq_M_35, ↓dhG_M_36, ↓dhG_M_37, ↓dhg_M_38, ↓dhq_M_38, ↓dhg_M_39, ↓dhq_M_39, ↓dhG_M_40, ↓dhG_M_41, ↓dhG_M_42, ↓dhG_M_43, ↓dhg_M_44, ↓dhq_M_44, ↓dha_191, ↓dhs_191, ↓dhl_191, ↓dha_192, ↓dhs_192, ↓dhl_192, Option.bind_some, ↓nm_eq, ↓sm_inl, ↓sm_inr, ↓dzo_0, ↓dzo_1, ↓drg_ok, ↓if_pos, ↓if_neg, if_pos, if_neg, if_true, if_false, Int.toNat_natCast, rg_ok, Int.toNat_natCast, g3, e1, ↓bnd ews, em, es, ek] <;> rfl
    · rintro f J ⟨g1, g2, g3⟩
      refine ⟨J, ?_, g1, g2, ?_⟩
      · simp (disch := omega) only [l_X12_waysOf_75, b_X12_waysOf_75, Option.bind_some, ↓nm_eq, ↓sm_inl, ↓sm_inr, ↓dzo_0, ↓dzo_1, ↓drg_ok, ↓if_pos, ↓if_neg, if_pos, if_neg, if_true, if_false, Int.toNat_natCast, rg_ok]
      · rw [g3, gD_s, show x + j + 1 - x = j + 1 by omega]
  have mid : zLP (y + 1 - x) (fun f j (J : Nat → Nat → Int) => l_X12_waysOf_58 n r36 f 161 (p : Int) (x : Int) (y : Int) (k : Int) (Gs g p k : Int) ((x + j : Nat) : Int) (hp u J L))
      (fun j J => Fr [192] J0 J ∧ ∀ j', j' < j → J 192 (x + j') = (gD (opC g w) g v p (k + 1) x (x + j') : Int))
      (fun res => ∃ J, res = b_X12_waysOf_143 n r36 161 (p : Int) (x : Int) (y : Int) (k : Int) (hp u J L) ∧ Fr [192] J0 J ∧ ∀ m, x ≤ m → m ≤ y → J 192 m = (gD (opC g w) g v p (k + 1) x m : Int)) := by
    refine zlp ?_ ?_
    · rintro f j J hj ⟨f1, f2⟩
      right
      have ek : ((x + j : Nat) : Int) + 1 = ((x + (j + 1) : Nat) : Int) := by omega
      obtain ⟨J2, e2, g1, g2, g3⟩ := inn (l_X12_waysOf_58 n r36 f) (gx_u J 192 (x + j) (oN (opC g w) : Int)) j (by omega) (f1.wr (by simp)) (gu_at_eq rfl) (j + 1) n 0 (gx_u J 192 (x + j) (oN (opC g w) : Int)) (by omega) (by omega) ⟨f1.wr (by simp), fun _ _ => rfl, gu_at_eq rfl⟩
      refine ⟨J2, ?_, g1, fun j' hj' => ?_⟩
      · have e2' : l_X12_waysOf_75 n r36 (l_X12_waysOf_58 n r36 f) n 161 (p : Int) (x : Int) (y : Int) (k : Int) (Gs g p k : Int) ((x + j : Nat) : Int) (x : Int) (hp u (gx_u J 192 (x + j) (oN (opC g w) : Int)) L) = b_X12_waysOf_137 n r36 (l_X12_waysOf_58 n r36 f) 161 (p : Int) (x : Int) (y : Int) (k : Int) (Gs g p k : Int) ((x + j : Nat) : Int) (hp u J2 L) := e2
        have e153 : b_X12_waysOf_137 n r36 (l_X12_waysOf_58 n r36 f) 161 (p : Int) (x : Int) (y : Int) (k : Int) (Gs g p k : Int) ((x + j : Nat) : Int) (hp u J2 L) = l_X12_waysOf_58 n r36 f 161 (p : Int) (x : Int) (y : Int) (k : Int) (Gs g p k : Int) ((x + (j + 1) : Nat) : Int) (hp u J2 L) := by
          simp (disch := omega) only [b_X12_waysOf_137, Option.bind_some, ↓nm_eq, ↓sm_inl, ↓sm_inr, ↓dzo_0, ↓dzo_1, ↓drg_ok, ↓if_pos, ↓if_neg, if_pos, if_neg, if_true, if_false, Int.toNat_natCast, rg_ok, ek]
        rw [← e153, ← e2']
        have eoN : (oN (opC g w) : Int) = 0 := rfl
        rw [eoN]
        simp (disch := omega) only [l_X12_waysOf_58, b_X12_waysOf_58, ↓dhi_M, ↓dhG_M_0, ↓dhG_M_1, ↓dhG_M_2, ↓dhG_M_3, ↓dhG_M_4, ↓dhG_M_5, ↓dhG_M_6, ↓dhG_M_7, ↓dhG_M_8, ↓dhg_M_9, ↓dhq_M_9, ↓dhG_M_10, ↓dhG_M_11, ↓dhG_M_12, ↓dhg_M_13, ↓dhq_M_13, ↓dhG_M_14, ↓dhg_M_15, ↓dhq_M_15, ↓dhG_M_16, ↓dhg_M_17, ↓dhq_M_17, ↓dhg_M_18, ↓dhq_M_18, ↓dhG_M_19, ↓dhG_M_20, ↓dhG_M_21, ↓dhG_M_22, ↓dhG_M_23, ↓dhG_M_24, ↓dhg_M_25, ↓dhq_M_25, ↓dhG_M_26, ↓dhG_M_27, ↓dhG_M_28, ↓dhg_M_29, ↓dhq_M_29, ↓dhG_M_30, ↓dhG_M_31, ↓dhg_M_32, ↓dhq_M_32, ↓dhg_M_33, ↓dhq_M_33, ↓dhg_M_34, ↓dhq_M_34, ↓dhg_M_35, ↓dhq_M_35, ↓dhG_M_36, ↓dhG_M_37, ↓dhg_M_38, ↓dhq_M_38, ↓dhg_M_39, ↓dhq_M_39, ↓dhG_M_40, ↓dhG_M_41, ↓dhG_M_42, ↓dhG_M_43, ↓dhg_M_44, ↓dhq_M_44, ↓dha_192, ↓dhs_192, ↓dhl_192, Option.bind_some, ↓nm_eq, ↓sm_inl, ↓sm_inr, ↓dzo_0, ↓dzo_1, ↓drg_ok, ↓if_pos, ↓if_neg, if_pos, if_neg, if_true, if_false, Int.toNat_natCast, rg_ok, Int.toNat_natCast]
      · by_cases e : j' = j
        · rw [e]; exact g3
        · rw [g2 _ (by omega), gu_at_ne (by omega)]; exact f2 j' (by omega)
    · rintro f J ⟨f1, f2⟩
      refine ⟨J, ?_, f1, fun m h1 h2 => by have := f2 (m - x) (by omega); rwa [show x + (m - x) = m by omega] at this⟩
      simp (disch := omega) only [l_X12_waysOf_58, b_X12_waysOf_58, Option.bind_some, ↓nm_eq, ↓sm_inl, ↓sm_inr, ↓dzo_0, ↓dzo_1, ↓drg_ok, ↓if_pos, ↓if_neg, if_pos, if_neg, if_true, if_false, Int.toNat_natCast, rg_ok]
  obtain ⟨J1, e1, f1, f2⟩ := mid (y + 1 - x) n 0 J0 (by omega) (by omega) ⟨Fr.rf, fun j hj => absurd hj (by omega)⟩
  have cop : zLP (y + 1 - x) (fun f j (J : Nat → Nat → Int) => l_X12_waysOf_146 n r36 f 161 (p : Int) (x : Int) (y : Int) (k : Int) ((x + j : Nat) : Int) (hp u J L))
      (fun j J => Fr [191] J1 J ∧ ∀ j', j' < j → J 191 (x + j') = (gD (opC g w) g v p (k + 1) x (x + j') : Int))
      (fun res => ∃ J, res = r36 161 (p : Int) (x : Int) (y : Int) ((k + 1 : Nat) : Int) (hp u J L) ∧ Fr [191] J1 J ∧ ∀ m, x ≤ m → m ≤ y → J 191 m = (gD (opC g w) g v p (k + 1) x m : Int)) := by
    refine zlp ?_ ?_
    · rintro f j J hj ⟨g1, g2⟩
      right
      have ek : ((x + j : Nat) : Int) + 1 = ((x + (j + 1) : Nat) : Int) := by omega
      have e92 : J 192 (x + j) = (gD (opC g w) g v p (k + 1) x (x + j) : Int) := by rw [g1 192 (by decide)]; exact f2 _ (by omega) (by omega)
      refine ⟨gx_u J 191 (x + j) (gD (opC g w) g v p (k + 1) x (x + j) : Int), ?_, g1.wr (by simp), fun j' hj' => ?_⟩
      · simp (disch := omega) only [l_X12_waysOf_146, b_X12_waysOf_146, ↓dhi_M, ↓dhG_M_0, ↓dhG_M_1, ↓dhG_M_2, ↓dhG_M_3, ↓dhG_M_4, ↓dhG_M_5, ↓dhG_M_6, ↓dhG_M_7, ↓dhG_M_8, ↓dhg_M_9, ↓dhq_M_9, ↓dhG_M_10, ↓dhG_M_11, ↓dhG_M_12, ↓dhg_M_13, ↓dhq_M_13, ↓dhG_M_14, ↓dhg_M_15, ↓dhq_M_15, ↓dhG_M_16, ↓dhg_M_17, ↓dhq_M_17, ↓dhg_M_18, ↓dhq_M_18, ↓dhG_M_19, ↓dhG_M_20, ↓dhG_M_21, ↓dhG_M_22, ↓dhG_M_23, ↓dhG_M_24, ↓dhg_M_25, ↓dhq_M_25, ↓dhG_M_26, ↓dhG_M_27, ↓dhG_M_28, ↓dhg_M_29, ↓dhq_M_29, ↓dhG_M_30, ↓dhG_M_31, ↓dhg_M_32, ↓dhq_M_32, ↓dhg_M_33, ↓dhq_M_33, ↓dhg_M_34, ↓dhq_M_34, ↓dhg_M_35, ↓dhq_M_35, ↓dhG_M_36, ↓dhG_M_37, ↓dhg_M_38, ↓dhq_M_38, ↓dhg_M_39, ↓dhq_M_39, ↓dhG_M_40, ↓dhG_M_41, ↓dhG_M_42, ↓dhG_M_43, ↓dhg_M_44, ↓dhq_M_44, ↓dha_191, ↓dhs_191, ↓dhl_191, ↓dha_192, ↓dhs_192, ↓dhl_192, Option.bind_some, ↓nm_eq, ↓sm_inl, ↓sm_inr, ↓dzo_0, ↓dzo_1, ↓drg_ok, ↓if_pos, ↓if_neg, if_pos, if_neg, if_true, if_false, Int.toNat_natCast, rg_ok, Int.toNat_natCast, e92, ek]
      · by_cases e : j' = j
        · rw [e, gu_at_eq rfl]
        · rw [gu_at_ne (by omega)]; exact g2 j' (by omega)
    · rintro f J ⟨g1, g2⟩
      have ek : (k : Int) + 1 = ((k + 1 : Nat) : Int) := rfl
      refine ⟨J, ?_, g1, fun m h1 h2 => by have := g2 (m - x) (by omega); rwa [show x + (m - x) = m by omega] at this⟩
      simp (disch := omega) only [l_X12_waysOf_146, b_X12_waysOf_146, b_X12_waysOf_172, Option.bind_some, ↓nm_eq, ↓sm_inl, ↓sm_inr, ↓dzo_0, ↓dzo_1, ↓drg_ok, ↓if_pos, ↓if_neg, if_pos, if_neg, if_true, if_false, Int.toNat_natCast, rg_ok, ek]
  obtain ⟨J2, e2, g1, g2⟩ := cop (y + 1 - x) n 0 J1 (by omega) (by omega) ⟨Fr.rf, fun j hj => absurd hj (by omega)⟩
  refine ⟨J2, ?_, (f1.up (fun a z => by simp at z; simp [z])).tr (g1.up (fun a z => by simp at z; simp [z])), g2⟩
  have e1' : l_X12_waysOf_58 n r36 n 161 (p : Int) (x : Int) (y : Int) (k : Int) (Gs g p k : Int) (x : Int) (hp u J0 L) = b_X12_waysOf_143 n r36 161 (p : Int) (x : Int) (y : Int) (k : Int) (hp u J1 L) := e1
  have e2' : l_X12_waysOf_146 n r36 n 161 (p : Int) (x : Int) (y : Int) (k : Int) (x : Int) (hp u J1 L) = r36 161 (p : Int) (x : Int) (y : Int) ((k + 1 : Nat) : Int) (hp u J2 L) := e2
  rw [e1', ← e2']
  rfl
theorem X12_waysOf_all (hn : 1000000000000000000000000000000 ≤ n) {J0 : Nat → Nat → Int} (hE : RE g J0) (hs : WSE w nw J0) (hsw : SW w nw) {v : CV} (hv : ∀ a x y, v a x y ≤ 100) {p x y : Nat} (hp1 : p < Gn g) (hxy : x ≤ y) (hy : y ≤ nw)
    (hW : ∀ a, a < 16 → ∀ m m', x ≤ m → m ≤ m' → m' ≤ y → J0 190 (169 * a + 13 * m + m') = (v a m m' : Int)) :
    ∃ J, l_X12_waysOf_3 n n 161 (p : Int) (x : Int) (y : Int) (x : Int) (hp u J0 L) = some ((gD (opC g w) g v p (Gl g p) x y : Int), hp u J L) ∧ Fr [191, 192] J0 J := by
  have hg := hE.gr
  have h12 := hsw.1
  have h5 := hg.2.2.2.1 p
  have h24 := hg.1
  have ini : zLP (y + 1 - x) (fun f j (J : Nat → Nat → Int) => l_X12_waysOf_3 n f 161 (p : Int) (x : Int) (y : Int) ((x + j : Nat) : Int) (hp u J L))
      (fun j J => Fr [191] J0 J ∧ ∀ j', j' < j → J 191 (x + j') = (oB (opC g w) x (x + j') : Int))
      (fun res => ∃ J, res = b_X12_waysOf_33 n 161 (p : Int) (x : Int) (y : Int) (hp u J L) ∧ Fr [191] J0 J ∧ ∀ m, x ≤ m → m ≤ y → J 191 m = (oB (opC g w) x m : Int)) := by
    refine zlp ?_ ?_
    · rintro f j J hj ⟨g1, g2⟩
      right
      have ek : ((x + j : Nat) : Int) + 1 = ((x + (j + 1) : Nat) : Int) := by omega
      have eb : oB (opC g w) x (x + j) = if x = x + j then 1 else 0 := rfl
      refine ⟨gx_u J 191 (x + j) (oB (opC g w) x (x + j) : Int), ?_, g1.wr (by simp), fun j' hj' => ?_⟩
      · rw [eb]
        by_cases c : x = x + j
        · rw [if_pos c]
          simp (disch := omega) only [l_X12_waysOf_3, b_X12_waysOf_3, b_X12_waysOf_26, ↓dhi_M, ↓dhG_M_0, ↓dhG_M_1, ↓dhG_M_2, ↓dhG_M_3, ↓dhG_M_4, ↓dhG_M_5, ↓dhG_M_6, ↓dhG_M_7, ↓dhG_M_8, ↓dhg_M_9, ↓dhq_M_9, ↓dhG_M_10, ↓dhG_M_11, ↓dhG_M_12, ↓dhg_M_13, ↓dhq_M_13, ↓dhG_M_14, ↓dhg_M_15, ↓dhq_M_15, ↓dhG_M_16, ↓dhg_M_17, ↓dhq_M_17, ↓dhg_M_18, ↓dhq_M_18, ↓dhG_M_19, ↓dhG_M_20, ↓dhG_M_21, ↓dhG_M_22, ↓dhG_M_23, ↓dhG_M_24, ↓dhg_M_25, ↓dhq_M_25, ↓dhG_M_26, ↓dhG_M_27, ↓dhG_M_28, ↓dhg_M_29, ↓dhq_M_29, ↓dhG_M_30, ↓dhG_M_31, ↓dhg_M_32, ↓dhq_M_32, ↓dhg_M_33, ↓dhq_M_33, ↓dhg_M_34, ↓dhq_M_34, ↓dhg_M_35, ↓dhq_M_35, ↓dhG_M_36, ↓dhG_M_37, ↓dhg_M_38, ↓dhq_M_38, ↓dhg_M_39, ↓dhq_M_39, ↓dhG_M_40, ↓dhG_M_41, ↓dhG_M_42, ↓dhG_M_43, ↓dhg_M_44, ↓dhq_M_44, ↓dha_191, ↓dhs_191, ↓dhl_191, Option.bind_some, ↓nm_eq, ↓sm_inl, ↓sm_inr, ↓dzo_0, ↓dzo_1, ↓drg_ok, ↓if_pos, ↓if_neg, if_pos, if_neg, if_true, if_false, Int.toNat_natCast, rg_ok, Int.toNat_natCast, ek] <;> rfl
        · rw [if_neg c]
          simp (disch := omega) only [l_X12_waysOf_3, b_X12_waysOf_3, b_X12_waysOf_26, ↓dhi_M, ↓dhG_M_0, ↓dhG_M_1, ↓dhG_M_2, ↓dhG_M_3, ↓dhG_M_4, ↓dhG_M_5, ↓dhG_M_6, ↓dhG_M_7, ↓dhG_M_8, ↓dhg_M_9, ↓dhq_M_9, ↓dhG_M_10, ↓dhG_M_11, ↓dhG_M_12, ↓dhg_M_13, ↓dhq_M_13, ↓dhG_M_14, ↓dhg_M_15, ↓dhq_M_15, ↓dhG_M_16, ↓dhg_M_17, ↓dhq_M_17, ↓dhg_M_18, ↓dhq_M_18, ↓dhG_M_19, ↓dhG_M_20, ↓dhG_M_21, ↓dhG_M_22, ↓dhG_M_23, ↓dhG_M_24, ↓dhg_M_25, ↓dhq_M_25, ↓dhG_M_26, ↓dhG_M_27, ↓dhG_M_28, ↓dhg_M_29, ↓dhq_M_29, ↓dhG_M_30, ↓dhG_M_31, ↓dhg_M_32, ↓dhq_M_32, ↓dhg_M_33, ↓dhq_M_33, ↓dhg_M_34, ↓dhq_M_34, ↓dhg_M_35, ↓dhq_M_35, ↓dhG_M_36, ↓dhG_M_37, ↓dhg_M_38, ↓dhq_M_38, ↓dhg_M_39, ↓dhq_M_39, ↓dhG_M_40, ↓dhG_M_41, ↓dhG_M_42, ↓dhG_M_43, ↓dhg_M_44, ↓dhq_M_44, ↓dha_191, ↓dhs_191, ↓dhl_191, Option.bind_some, ↓nm_eq, ↓sm_inl, ↓sm_inr, ↓dzo_0, ↓dzo_1, ↓drg_ok, ↓if_pos, ↓if_neg, if_pos, if_neg, if_true, if_false, Int.toNat_natCast, rg_ok, Int.toNat_natCast, ek] <;> rfl
      · by_cases e : j' = j
        · rw [e, gu_at_eq rfl]
        · rw [gu_at_ne (by omega)]; exact g2 j' (by omega)
    · rintro f J ⟨g1, g2⟩
      refine ⟨J, ?_, g1, fun m h1 h2 => by have := g2 (m - x) (by omega); rwa [show x + (m - x) = m by omega] at this⟩
      simp (disch := omega) only [l_X12_waysOf_3, b_X12_waysOf_3, Option.bind_some, ↓nm_eq, ↓sm_inl, ↓sm_inr, ↓dzo_0, ↓dzo_1, ↓drg_ok, ↓if_pos, ↓if_neg, if_pos, if_neg, if_true, if_false, Int.toNat_natCast, rg_ok]
  obtain ⟨J1, e1, f1, f2⟩ := ini (y + 1 - x) n 0 J0 (by omega) (by omega) ⟨Fr.rf, fun j hj => absurd hj (by omega)⟩
  have out : zLP (Gl g p) (fun f k (J : Nat → Nat → Int) => l_X12_waysOf_36 n f 161 (p : Int) (x : Int) (y : Int) (k : Int) (hp u J L))
      (fun k J => Fr [191, 192] J0 J ∧ ∀ m, x ≤ m → m ≤ y → J 191 m = (gD (opC g w) g v p k x m : Int))
      (fun res => ∃ J, res = some ((gD (opC g w) g v p (Gl g p) x y : Int), hp u J L) ∧ Fr [191, 192] J0 J) := by
    refine zlp ?_ ?_
    · rintro f k J hk ⟨g1, g2⟩
      right
      have hEJ : RE g J := hE.fr g1 (by rw [g1 161 (by decide)]) (by decide)
      have hsJ : WSE w nw J := ⟨by rw [g1 161 (by decide)]; exact hs.1, fun i hi => by rw [g1 175 (by decide)]; exact hs.2 i hi⟩
      have esz := re_size (u := u) (L := L) hEJ hp1
      have esy := re_symbol (u := u) (L := L) hEJ hk
      obtain ⟨J2, e2, k1, k2⟩ := X12_waysOf_mid (u := u) hn hEJ hsJ hsw hv hk hxy hy (fun a ha m m' q1 q2 q3 => by rw [g1 190 (by decide)]; exact hW a ha m m' q1 q2 q3) g2 (l_X12_waysOf_36 n f)
      refine ⟨J2, ?_, g1.tr k1, k2⟩
      rw [← e2]
      simp (disch := omega) only [l_X12_waysOf_36, b_X12_waysOf_36, ↓dhi_M, ↓dhG_M_0, ↓dhG_M_1, ↓dhG_M_2, ↓dhG_M_3, ↓dhG_M_4, ↓dhG_M_5, ↓dhG_M_6, ↓dhG_M_7, ↓dhG_M_8, ↓dhg_M_9, ↓dhq_M_9, ↓dhG_M_10, ↓dhG_M_11, ↓dhG_M_12, ↓dhg_M_13, ↓dhq_M_13, ↓dhG_M_14, ↓dhg_M_15, ↓dhq_M_15, ↓dhG_M_16, ↓dhg_M_17, ↓dhq_M_17, ↓dhg_M_18, ↓dhq_M_18, ↓dhG_M_19, ↓dhG_M_20, ↓dhG_M_21, ↓dhG_M_22, ↓dhG_M_23, ↓dhG_M_24, ↓dhg_M_25, ↓dhq_M_25, ↓dhG_M_26, ↓dhG_M_27, ↓dhG_M_28, ↓dhg_M_29, ↓dhq_M_29, ↓dhG_M_30, ↓dhG_M_31, ↓dhg_M_32, ↓dhq_M_32, ↓dhg_M_33, ↓dhq_M_33, ↓dhg_M_34, ↓dhq_M_34, ↓dhg_M_35, ↓dhq_M_35, ↓dhG_M_36, ↓dhG_M_37, ↓dhg_M_38, ↓dhq_M_38, ↓dhg_M_39, ↓dhq_M_39, ↓dhG_M_40, ↓dhG_M_41, ↓dhG_M_42, ↓dhG_M_43, ↓dhg_M_44, ↓dhq_M_44, Option.bind_some, ↓nm_eq, ↓sm_inl, ↓sm_inr, ↓dzo_0, ↓dzo_1, ↓drg_ok, ↓if_pos, ↓if_neg, if_pos, if_neg, if_true, if_false, Int.toNat_natCast, rg_ok, ↓bnd esz, ↓bnd esy]
    · rintro f J ⟨g1, g2⟩
      have hEJ : RE g J := hE.fr g1 (by rw [g1 161 (by decide)]) (by decide)
      have esz := re_size (u := u) (L := L) hEJ hp1
      have e91 := g2 y hxy (Nat.le_refl _)
      refine ⟨J, ?_, g1⟩
      simp (disch := omega) only [l_X12_waysOf_36, b_X12_waysOf_36, b_X12_waysOf_178, ↓dhi_M, ↓dhG_M_0, ↓dhG_M_1, ↓dhG_M_2, ↓dhG_M_3, ↓dhG_M_4, ↓dhG_M_5, ↓dhG_M_6, ↓dhG_M_7, ↓dhG_M_8, ↓dhg_M_9, ↓dhq_M_9, ↓dhG_M_10, ↓dhG_M_11, ↓dhG_M_12, ↓dhg_M_13, ↓dhq_M_13, ↓dhG_M_14, ↓dhg_M_15, ↓dhq_M_15, ↓dhG_M_16, ↓dhg_M_17, ↓dhq_M_17, ↓dhg_M_18, ↓dhq_M_18, ↓dhG_M_19, ↓dhG_M_20, ↓dhG_M_21, ↓dhG_M_22, ↓dhG_M_23, ↓dhG_M_24, ↓dhg_M_25, ↓dhq_M_25, ↓dhG_M_26, ↓dhG_M_27, ↓dhG_M_28, ↓dhg_M_29, ↓dhq_M_29, ↓dhG_M_30, ↓dhG_M_31, ↓dhg_M_32, ↓dhq_M_32, ↓dhg_M_33, ↓dhq_M_33, ↓dhg_M_34, ↓dhq_M_34, ↓dhg_M_35, ↓dhq_M_35, ↓dhG_M_36, ↓dhG_M_37, ↓dhg_M_38, ↓dhq_M_38, ↓dhg_M_39, ↓dhq_M_39, ↓dhG_M_40, ↓dhG_M_41, ↓dhG_M_42, ↓dhG_M_43, ↓dhg_M_44, ↓dhq_M_44, ↓dha_191, ↓dhs_191, ↓dhl_191, Option.bind_some, ↓nm_eq, ↓sm_inl, ↓sm_inr, ↓dzo_0, ↓dzo_1, ↓drg_ok, ↓if_pos, ↓if_neg, if_pos, if_neg, if_true, if_false, Int.toNat_natCast, rg_ok, ↓bnd esz, Int.toNat_natCast, e91]
  obtain ⟨J2, e2, g1⟩ := out (Gl g p) n 0 J1 (by omega) (by omega) ⟨f1.up (fun a z => by simp at z; simp [z]), fun m h1 h2 => f2 m h1 h2⟩
  refine ⟨J2, ?_, g1⟩
  have e1' : l_X12_waysOf_3 n n 161 (p : Int) (x : Int) (y : Int) (x : Int) (hp u J0 L) = b_X12_waysOf_33 n 161 (p : Int) (x : Int) (y : Int) (hp u J1 L) := e1
  have e2' : l_X12_waysOf_36 n n 161 (p : Int) (x : Int) (y : Int) 0 (hp u J1 L) = some ((gD (opC g w) g v p (Gl g p) x y : Int), hp u J2 L) := e2
  rw [e1', ← e2']
  rfl
end RD1
