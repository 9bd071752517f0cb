/-! ===== calls: what is used, the shortest sentence ===== -/
def US (g : GT) (x : Int) : Prop := gi_ok x ∧ (∀ i, bt x i = true → i < 16) ∧ bt x (Gt g) = true ∧ ∀ R', cl3 g R' → ∀ i, bt x i = true → R' i
def Ule (x y : Int) : Prop := ∀ i, bt x i = true → bt y i = true
def UC (g : GT) (x : Int) (p k : Nat) : Prop := bt x (Go g p) = true → ∀ j, k ≤ j → j < Gl g p → 16 ≤ Gs g p j → bt x (Gs g p j - 16) = true
theorem Ule.rf {x : Int} : Ule x x := fun _ h => h
theorem Ule.tr {x y z : Int} (h : Ule x y) (h2 : Ule y z) : Ule x z := fun i q => h2 i (h i q)
theorem Ule.anti {x y : Int} (hx : gi_ok x) (hy : gi_ok y) (h : Ule x y) (h2 : Ule y x) : x = y := bt_ext hx hy (fun i _ => by
  cases b1 : bt x i with
  | true => exact (h i b1).symm
  | false =>
    cases b2 : bt y i with
    | true => rw [h2 i b2] at b1; exact absurd b1 (by decide)
    | false => rfl)
theorem us_or0 {g : GT} {x : Int} (h : US g x) : gi_or x 0 = x := bt_ext (bt_ok_or _ _) h.1 (fun i _ => by rw [bt_or, bt_zero, Bool.or_false])
theorem us_wr {g : GT} {x : Int} (hg : GR g) (h : US g x) {p k : Nat} (hp1 : p < Gn g) (hk : k < Gl g p) (hs : 16 ≤ Gs g p k) (ho : bt x (Go g p) = true) : US g (gi_or x (gi_shl 1 ((Gs g p k : Int) - 16))) ∧ Ule x (gi_or x (gi_shl 1 ((Gs g p k : Int) - 16))) ∧ bt (gi_or x (gi_shl 1 ((Gs g p k : Int) - 16))) (Gs g p k - 16) = true := by
  have hs2 := hg.2.2.2.2.2 p k hk
  have e : (Gs g p k : Int) - 16 = ((Gs g p k - 16 : Nat) : Int) := by omega
  have hb : ∀ i, bt (gi_or x (gi_shl 1 ((Gs g p k : Int) - 16))) i = (bt x i || decide (i = Gs g p k - 16)) := fun i => by rw [bt_or, e, bt_shl1 (by omega)]
  refine ⟨⟨bt_ok_or _ _, fun i hi => ?_, ?_, fun R' hR i hi => ?_⟩, fun i hi => ?_, ?_⟩
  · rw [hb, Bool.or_eq_true] at hi
    rcases hi with hi | hi
    · exact h.2.1 i hi
    · have := of_decide_eq_true hi; omega
  · rw [hb, h.2.2.1, Bool.true_or]
  · rw [hb, Bool.or_eq_true] at hi
    rcases hi with hi | hi
    · exact h.2.2.2 R' hR i hi
    · rw [of_decide_eq_true hi]; exact hR.2 p hp1 (h.2.2.2 R' hR _ ho) k hk hs
  · rw [hb, hi, Bool.true_or]
  · rw [hb, decide_eq_true rfl, Bool.or_true]
section USE
variable {u : Nat} {n : Nat} {J L : Nat → Nat → Int} {g : GT} {v1 : Int}
theorem us_62 (w : RE g J) (r35 : Nat → Int → Int → Int → gi_H → Option (Int × gi_H)) (r45 : Nat → Int → Int → Int → Int → gi_H → Option (Int × gi_H)) (v3 : Int) {p : Nat} (hp1 : p < Gn g) : ∀ (m f k : Nat) (x : Int), Gl g p = k + m → m < f → US g x →
    ∃ x' : Int, l_X12_uses_62 n r35 r45 f 161 v1 x v3 (p : Int) (k : Int) (hp u J L) = r45 161 v1 x' v3 ((p + 1 : Nat) : Int) (hp u J L) ∧ US g x' ∧ Ule x x' ∧ (x' = x → UC g x p k) := by
  obtain ⟨hw, rfl⟩ := w
  have hg := GR_r hw
  have h24 := hg.1
  have h5 := hg.2.2.2.1 p
  have hz := X12_sizeOf (u := u) (L := L) hw hp1
  have ho := X12_lead (u := u) (L := L) hw hp1
  have ho2 : Go (rG J) p < 16 := hg.2.2.1 p
  intro m
  induction m with
  | zero =>
    intro f k x hm hf hu
    obtain ⟨f', rfl⟩ : ∃ f', f = f' + 1 := ⟨f - 1, by omega⟩
    refine ⟨x, ?_, hu, Ule.rf, fun _ _ j h1 h2 => absurd h2 (by omega)⟩
    simp (disch := omega) only [l_X12_uses_62, b_X12_uses_62, b_X12_uses_126, ↓dhi_M, ↓dhG_M_0, ↓dhG_M_1, ↓dhG_M_2, ↓dhG_M_3, ↓dhG_M_4, ↓dhG_M_5, ↓dhG_M_6, ↓dhG_M_7, ↓dhG_M_8, ↓dhg_M_9, ↓dhq_M_9, ↓dhG_M_10, ↓dhG_M_11, ↓dhG_M_12, ↓dhg_M_13, ↓dhq_M_13, ↓dhG_M_14, ↓dhg_M_15, ↓dhq_M_15, ↓dhG_M_16, ↓dhg_M_17, ↓dhq_M_17, ↓dhg_M_18, ↓dhq_M_18, ↓dhG_M_19, ↓dhG_M_20, ↓dhG_M_21, ↓dhG_M_22, ↓dhG_M_23, ↓dhG_M_24, ↓dhg_M_25, ↓dhq_M_25, ↓dhG_M_26, ↓dhG_M_27, ↓dhG_M_28, ↓dhg_M_29, ↓dhq_M_29, ↓dhG_M_30, ↓dhG_M_31, ↓dhg_M_32, ↓dhq_M_32, ↓dhg_M_33, ↓dhq_M_33, ↓dhg_M_34, ↓dhq_M_34, ↓dhg_M_35, ↓dhq_M_35, ↓dhG_M_36, ↓dhG_M_37, ↓dhg_M_38, ↓dhq_M_38, ↓dhg_M_39, ↓dhq_M_39, ↓dhG_M_40, ↓dhG_M_41, ↓dhG_M_42, ↓dhG_M_43, ↓dhg_M_44, ↓dhq_M_44, Option.bind_some, ↓nm_eq, ↓sm_inl, ↓sm_inr, ↓dzo_0, ↓dzo_1, ↓drg_ok, ↓if_pos, ↓if_neg, if_pos, if_neg, if_true, if_false, Int.toNat_natCast, rg_ok, ↓bnd hz]
    rfl
  | succ m ih =>
    intro f k x hm hf hu
    obtain ⟨f', rfl⟩ : ∃ f', f = f' + 1 := ⟨f - 1, by omega⟩
    have hk : k < Gl (rG J) p := by omega
    have hs := X12_symbol (u := u) (L := L) hw hk
    have hs2 := hg.2.2.2.2.2 p k hk
    have hh := bt_has (x := x) (k := Go (rG J) p) (by omega)
    have hstep : ∀ x1, l_X12_uses_62 n r35 r45 (f' + 1) 161 v1 x v3 (p : Int) (k : Int) (hp u J L) = l_X12_uses_62 n r35 r45 f' 161 v1 x1 v3 (p : Int) ((k + 1 : Nat) : Int) (hp u J L) → US (rG J) x1 → Ule x x1 → (bt x1 (Go (rG J) p) = true → 16 ≤ Gs (rG J) p k → bt x1 (Gs (rG J) p k - 16) = true) → ∃ x' : Int, l_X12_uses_62 n r35 r45 (f' + 1) 161 v1 x v3 (p : Int) (k : Int) (hp u J L) = r45 161 v1 x' v3 ((p + 1 : Nat) : Int) (hp u J L) ∧ US (rG J) x' ∧ Ule x x' ∧ (x' = x → UC (rG J) x p k) := by
      intro x1 e h1 h2 h3
      obtain ⟨x', e', q1, q2, q3⟩ := ih f' (k + 1) x1 (by omega) (by omega) h1
      refine ⟨x', e.trans e', q1, h2.tr q2, fun z => ?_⟩
      subst z
      have z1 : x' = x1 := Ule.anti hu.1 h1.1 h2 q2
      subst z1
      intro b j j1 j2 j3
      by_cases c : j = k
      · subst c; exact h3 b j3
      · exact q3 rfl b j (by omega) j2 j3
    by_cases c1 : bt x (Go (rG J) p) = true
    · rw [if_pos c1] at hh
      by_cases c2 : 16 ≤ Gs (rG J) p k
      · obtain ⟨q1, q2, q3⟩ := us_wr hg hu hp1 hk c2 c1
        refine hstep _ ?_ q1 q2 (fun _ _ => q3)
        simp (disch := omega) only [l_X12_uses_62, b_X12_uses_62, b_X12_uses_117, b_X12_uses_118, ↓dhi_M, ↓dhG_M_0, ↓dhG_M_1, ↓dhG_M_2, ↓dhG_M_3, ↓dhG_M_4, ↓dhG_M_5, ↓dhG_M_6, ↓dhG_M_7, ↓dhG_M_8, ↓dhg_M_9, ↓dhq_M_9, ↓dhG_M_10, ↓dhG_M_11, ↓dhG_M_12, ↓dhg_M_13, ↓dhq_M_13, ↓dhG_M_14, ↓dhg_M_15, ↓dhq_M_15, ↓dhG_M_16, ↓dhg_M_17, ↓dhq_M_17, ↓dhg_M_18, ↓dhq_M_18, ↓dhG_M_19, ↓dhG_M_20, ↓dhG_M_21, ↓dhG_M_22, ↓dhG_M_23, ↓dhG_M_24, ↓dhg_M_25, ↓dhq_M_25, ↓dhG_M_26, ↓dhG_M_27, ↓dhG_M_28, ↓dhg_M_29, ↓dhq_M_29, ↓dhG_M_30, ↓dhG_M_31, ↓dhg_M_32, ↓dhq_M_32, ↓dhg_M_33, ↓dhq_M_33, ↓dhg_M_34, ↓dhq_M_34, ↓dhg_M_35, ↓dhq_M_35, ↓dhG_M_36, ↓dhG_M_37, ↓dhg_M_38, ↓dhq_M_38, ↓dhg_M_39, ↓dhq_M_39, ↓dhG_M_40, ↓dhG_M_41, ↓dhG_M_42, ↓dhG_M_43, ↓dhg_M_44, ↓dhq_M_44, Option.bind_some, ↓nm_eq, ↓sm_inl, ↓sm_inr, ↓dzo_0, ↓dzo_1, ↓drg_ok, ↓if_pos, ↓if_neg, if_pos, if_neg, if_true, if_false, Int.toNat_natCast, rg_ok, ↓bnd hz, ↓bnd ho, ↓bnd hs, hh]
        rfl
      · refine hstep _ ?_ hu Ule.rf (fun _ z => absurd z c2)
        simp (disch := omega) only [l_X12_uses_62, b_X12_uses_62, b_X12_uses_117, b_X12_uses_118, ↓dhi_M, ↓dhG_M_0, ↓dhG_M_1, ↓dhG_M_2, ↓dhG_M_3, ↓dhG_M_4, ↓dhG_M_5, ↓dhG_M_6, ↓dhG_M_7, ↓dhG_M_8, ↓dhg_M_9, ↓dhq_M_9, ↓dhG_M_10, ↓dhG_M_11, ↓dhG_M_12, ↓dhg_M_13, ↓dhq_M_13, ↓dhG_M_14, ↓dhg_M_15, ↓dhq_M_15, ↓dhG_M_16, ↓dhg_M_17, ↓dhq_M_17, ↓dhg_M_18, ↓dhq_M_18, ↓dhG_M_19, ↓dhG_M_20, ↓dhG_M_21, ↓dhG_M_22, ↓dhG_M_23, ↓dhG_M_24, ↓dhg_M_25, ↓dhq_M_25, ↓dhG_M_26, ↓dhG_M_27, ↓dhG_M_28, ↓dhg_M_29, ↓dhq_M_29, ↓dhG_M_30, ↓dhG_M_31, ↓dhg_M_32, ↓dhq_M_32, ↓dhg_M_33, ↓dhq_M_33, ↓dhg_M_34, ↓dhq_M_34, ↓dhg_M_35, ↓dhq_M_35, ↓dhG_M_36, ↓dhG_M_37, ↓dhg_M_38, ↓dhq_M_38, ↓dhg_M_39, ↓dhq_M_39, ↓dhG_M_40, ↓dhG_M_41, ↓dhG_M_42, ↓dhG_M_43, ↓dhg_M_44, ↓dhq_M_44, Option.bind_some, ↓nm_eq, ↓sm_inl, ↓sm_inr, ↓dzo_0, ↓dzo_1, ↓drg_ok, ↓if_pos, ↓if_neg, if_pos, if_neg, if_true, if_false, Int.toNat_natCast, rg_ok, ↓bnd hz, ↓bnd ho, ↓bnd hs, hh, us_or0 hu]
        rfl
    · rw [if_neg c1] at hh
      refine hstep _ ?_ hu Ule.rf (fun z _ => absurd z c1)
      simp (disch := omega) only [l_X12_uses_62, b_X12_uses_62, b_X12_uses_117, b_X12_uses_118, ↓dhi_M, ↓dhG_M_0, ↓dhG_M_1, ↓dhG_M_2, ↓dhG_M_3, ↓dhG_M_4, ↓dhG_M_5, ↓dhG_M_6, ↓dhG_M_7, ↓dhG_M_8, ↓dhg_M_9, ↓dhq_M_9, ↓dhG_M_10, ↓dhG_M_11, ↓dhG_M_12, ↓dhg_M_13, ↓dhq_M_13, ↓dhG_M_14, ↓dhg_M_15, ↓dhq_M_15, ↓dhG_M_16, ↓dhg_M_17, ↓dhq_M_17, ↓dhg_M_18, ↓dhq_M_18, ↓dhG_M_19, ↓dhG_M_20, ↓dhG_M_21, ↓dhG_M_22, ↓dhG_M_23, ↓dhG_M_24, ↓dhg_M_25, ↓dhq_M_25, ↓dhG_M_26, ↓dhG_M_27, ↓dhG_M_28, ↓dhg_M_29, ↓dhq_M_29, ↓dhG_M_30, ↓dhG_M_31, ↓dhg_M_32, ↓dhq_M_32, ↓dhg_M_33, ↓dhq_M_33, ↓dhg_M_34, ↓dhq_M_34, ↓dhg_M_35, ↓dhq_M_35, ↓dhG_M_36, ↓dhG_M_37, ↓dhg_M_38, ↓dhq_M_38, ↓dhg_M_39, ↓dhq_M_39, ↓dhG_M_40, ↓dhG_M_41, ↓dhG_M_42, ↓dhG_M_43, ↓dhg_M_44, ↓dhq_M_44, Option.bind_some, ↓nm_eq, ↓sm_inl, ↓sm_inr, ↓dzo_0, ↓dzo_1, ↓drg_ok, ↓if_pos, ↓if_neg, if_pos, if_neg, if_true, if_false, Int.toNat_natCast, rg_ok, ↓bnd hz, ↓bnd ho, ↓bnd hs, hh, us_or0 hu]
      rfl
theorem us_45 (hn : 1000000000000000000000000000000 ≤ n) (w : RE g J) (r35 : Nat → Int → Int → Int → gi_H → Option (Int × gi_H)) (v3 : Int) : ∀ (m f p : Nat) (x : Int), Gn g = p + m → m < f → US g x →
    ∃ x' : Int, l_X12_uses_45 n r35 f 161 v1 x v3 (p : Int) (hp u J L) = r35 161 v1 x' v3 (hp u J L) ∧ US g x' ∧ Ule x x' ∧ (x' = x → ∀ q, p ≤ q → q < Gn g → UC g x q 0) := by
  have hg := w.gr
  have h24 := hg.1
  have h9 := rw9_of w.1
  have hN := rG_n w.1
  rw [w.2] at hN
  intro m
  induction m with
  | zero =>
    intro f p x hm hf hu
    obtain ⟨f', rfl⟩ : ∃ f', f = f' + 1 := ⟨f - 1, by omega⟩
    refine ⟨x, ?_, hu, Ule.rf, fun _ q h1 h2 => absurd h2 (by omega)⟩
    simp (disch := omega) only [l_X12_uses_45, b_X12_uses_45, b_X12_uses_132, ↓dhi_M, ↓dhG_M_0, ↓dhG_M_1, ↓dhG_M_2, ↓dhG_M_3, ↓dhG_M_4, ↓dhG_M_5, ↓dhG_M_6, ↓dhG_M_7, ↓dhG_M_8, ↓dhg_M_9, ↓dhq_M_9, ↓dhG_M_10, ↓dhG_M_11, ↓dhG_M_12, ↓dhg_M_13, ↓dhq_M_13, ↓dhG_M_14, ↓dhg_M_15, ↓dhq_M_15, ↓dhG_M_16, ↓dhg_M_17, ↓dhq_M_17, ↓dhg_M_18, ↓dhq_M_18, ↓dhG_M_19, ↓dhG_M_20, ↓dhG_M_21, ↓dhG_M_22, ↓dhG_M_23, ↓dhG_M_24, ↓dhg_M_25, ↓dhq_M_25, ↓dhG_M_26, ↓dhG_M_27, ↓dhG_M_28, ↓dhg_M_29, ↓dhq_M_29, ↓dhG_M_30, ↓dhG_M_31, ↓dhg_M_32, ↓dhq_M_32, ↓dhg_M_33, ↓dhq_M_33, ↓dhg_M_34, ↓dhq_M_34, ↓dhg_M_35, ↓dhq_M_35, ↓dhG_M_36, ↓dhG_M_37, ↓dhg_M_38, ↓dhq_M_38, ↓dhg_M_39, ↓dhq_M_39, ↓dhG_M_40, ↓dhG_M_41, ↓dhG_M_42, ↓dhG_M_43, ↓dhg_M_44, ↓dhq_M_44, ↓dha_165, ↓dhs_165, ↓dhl_165, Option.bind_some, ↓nm_eq, ↓sm_inl, ↓sm_inr, ↓dzo_0, ↓dzo_1, ↓drg_ok, ↓if_pos, ↓if_neg, if_pos, if_neg, if_true, if_false, Int.toNat_natCast, rg_ok, h9.1, ← hN]
  | succ m ih =>
    intro f p x hm hf hu
    obtain ⟨f', rfl⟩ : ∃ f', f = f' + 1 := ⟨f - 1, by omega⟩
    have hp1 : p < Gn g := by omega
    have h5 := hg.2.2.2.1 p
    obtain ⟨x1, e, q1, q2, q3⟩ := us_62 (n := n) (v1 := v1) (u := u) (L := L) w r35 (l_X12_uses_45 n r35 f') v3 hp1 (Gl g p) n 0 x (by omega) (by omega) hu
    obtain ⟨x', e', s1, s2, s3⟩ := ih f' (p + 1) x1 (by omega) (by omega) q1
    refine ⟨x', ?_, s1, q2.tr s2, fun z => ?_⟩
    · have e0 : l_X12_uses_62 n r35 (l_X12_uses_45 n r35 f') n 161 v1 x v3 (p : Int) 0 (hp u J L) = _ := e
      simp (disch := omega) only [l_X12_uses_45, b_X12_uses_45, ↓dhi_M, ↓dhG_M_0, ↓dhG_M_1, ↓dhG_M_2, ↓dhG_M_3, ↓dhG_M_4, ↓dhG_M_5, ↓dhG_M_6, ↓dhG_M_7, ↓dhG_M_8, ↓dhg_M_9, ↓dhq_M_9, ↓dhG_M_10, ↓dhG_M_11, ↓dhG_M_12, ↓dhg_M_13, ↓dhq_M_13, ↓dhG_M_14, ↓dhg_M_15, ↓dhq_M_15, ↓dhG_M_16, ↓dhg_M_17, ↓dhq_M_17, ↓dhg_M_18, ↓dhq_M_18, ↓dhG_M_19, ↓dhG_M_20, ↓dhG_M_21, ↓dhG_M_22, ↓dhG_M_23, ↓dhG_M_24, ↓dhg_M_25, ↓dhq_M_25, ↓dhG_M_26, ↓dhG_M_27, ↓dhG_M_28, ↓dhg_M_29, ↓dhq_M_29, ↓dhG_M_30, ↓dhG_M_31, ↓dhg_M_32, ↓dhq_M_32, ↓dhg_M_33, ↓dhq_M_33, ↓dhg_M_34, ↓dhq_M_34, ↓dhg_M_35, ↓dhq_M_35, ↓dhG_M_36, ↓dhG_M_37, ↓dhg_M_38, ↓dhq_M_38, ↓dhg_M_39, ↓dhq_M_39, ↓dhG_M_40, ↓dhG_M_41, ↓dhG_M_42, ↓dhG_M_43, ↓dhg_M_44, ↓dhq_M_44, ↓dha_165, ↓dhs_165, ↓dhl_165, Option.bind_some, ↓nm_eq, ↓sm_inl, ↓sm_inr, ↓dzo_0, ↓dzo_1, ↓drg_ok, ↓if_pos, ↓if_neg, if_pos, if_neg, if_true, if_false, Int.toNat_natCast, rg_ok, h9.1, ← hN, e0, e']
    · subst z
      have z1 : x' = x1 := Ule.anti hu.1 q1.1 q2 s2
      subst z1
      intro q h1 h2
      by_cases c : q = p
      · subst c; exact q3 rfl
      · exact s3 rfl q (by omega) h2
theorem us_35 (hn : 1000000000000000000000000000000 ≤ n) (w : RE g J) : ∀ (m f : Nat) (x y : Int), 32 ≤ cB (bt x) 32 + m → m + 1 < f → US g x → gi_ok y → (x = y → ∀ q, q < Gn g → UC g x q 0) →
    ∃ x' : Int, l_X12_uses_35 n f 161 v1 x y (hp u J L) = b_X12_uses_135 n 161 v1 x' (hp u J L) ∧ gi_ok x' ∧ ls3 g (fun i => bt x' i = true) := by
  intro m
  induction m with
  | zero =>
    intro f x y hm hf hu hy hc
    exfalso
    have h1 := cB_le (bt x) 32
    have h2 : cB (bt x) 32 < cB (fun _ => true) 32 := cB_lt 32 (fun i _ _ => rfl) ⟨20, by omega, rfl, by
      cases b : bt x 20 with
      | true => have := hu.2.1 20 b; omega
      | false => rfl⟩
    have h3 := cB_le (fun _ => true) 32
    omega
  | succ m ih =>
    intro f x y hm hf hu hy hc
    obtain ⟨f', rfl⟩ : ∃ f', f = f' + 1 := ⟨f - 1, by omega⟩
    obtain ⟨hx1, hx2⟩ := id hu.1
    obtain ⟨hy1, hy2⟩ := id hy
    have hdone : ∀ z : Int, US g z → (∀ q, q < Gn g → UC g z q 0) → ls3 g (fun i => bt z i = true) := fun z h1 h2 => ⟨⟨h1.2.2.1, fun p hp1 ho k hk hs => h2 p hp1 ho k (Nat.zero_le _) hk hs⟩, fun R' hR i hi => h1.2.2.2 R' hR i hi⟩
    by_cases c : x = y
    · refine ⟨x, ?_, hu.1, hdone x hu (hc c)⟩
      simp (disch := omega) only [l_X12_uses_35, b_X12_uses_35, Option.bind_some, ↓nm_eq, ↓sm_inl, ↓sm_inr, ↓dzo_0, ↓dzo_1, ↓drg_ok, ↓if_pos, ↓if_neg, if_pos, if_neg, if_true, if_false, Int.toNat_natCast, rg_ok]
    · obtain ⟨x1, e, q1, q2, q3⟩ := us_45 (n := n) (v1 := v1) (u := u) (L := L) hn w (l_X12_uses_35 n f') x (Gn g) n 0 x (by omega) (by have := w.gr.1; omega) hu
      have e1 : l_X12_uses_35 n (f' + 1) 161 v1 x y (hp u J L) = l_X12_uses_35 n f' 161 v1 x1 x (hp u J L) := by
        have e0 : l_X12_uses_45 n (l_X12_uses_35 n f') n 161 v1 x x 0 (hp u J L) = _ := e
        simp (disch := omega) only [l_X12_uses_35, b_X12_uses_35, Option.bind_some, ↓nm_eq, ↓sm_inl, ↓sm_inr, ↓dzo_0, ↓dzo_1, ↓drg_ok, ↓if_pos, ↓if_neg, if_pos, if_neg, if_true, if_false, Int.toNat_natCast, rg_ok, e0]
      by_cases c2 : x1 = x
      · subst c2
        obtain ⟨f2, rfl⟩ : ∃ f2, f' = f2 + 1 := ⟨f' - 1, by omega⟩
        refine ⟨x1, e1.trans ?_, hu.1, hdone x1 hu (fun q hq => q3 rfl q (Nat.zero_le _) hq)⟩
        simp (disch := omega) only [l_X12_uses_35, b_X12_uses_35, Option.bind_some, ↓nm_eq, ↓sm_inl, ↓sm_inr, ↓dzo_0, ↓dzo_1, ↓drg_ok, ↓if_pos, ↓if_neg, if_pos, if_neg, if_true, if_false, Int.toNat_natCast, rg_ok]
      · have hlt : cB (bt x) 32 < cB (bt x1) 32 := cB_lt 32 (fun i _ hi => q2 i hi) (by
          apply Classical.byContradiction
          intro hno
          refine c2 (Ule.anti q1.1 hu.1 (fun i hi => ?_) q2)
          cases b : bt x i with
          | true => rfl
          | false => exact absurd ⟨i, by have := q1.2.1 i hi; omega, hi, b⟩ hno)
        obtain ⟨x', e', s⟩ := ih f' x1 x (by omega) (by omega) q1 hu.1 (fun z => absurd z c2)
        exact ⟨x', e1.trans e', s⟩
theorem us_fin (w : RE g J) (hx : ∃ a : Nat, v1 = (a : Int) ∧ a < 16) {x : Int} (hF : rF g J L) : b_X12_uses_135 n 161 v1 x (hp u J L) = some ((if rLn J v1.toNat = 1000 then 0 else 1) + (if bt x v1.toNat = true then 2 else 0), hp u J L) := by
  obtain ⟨a, rfl, ha⟩ := hx
  have hh := bt_has (x := x) (k := a) (by omega)
  have hl := rLn_of hF.2.2.2.2.1 ha
  rw [Int.toNat_natCast]
  by_cases c1 : rLn J a = 1000
  · by_cases c2 : bt x a = true
    · rw [if_pos c2] at hh
      rw [if_pos c1, if_pos c2]
      simp (disch := omega) only [b_X12_uses_135, b_X12_uses_151, b_X12_uses_165, ↓dhi_M, ↓dhG_M_0, ↓dhG_M_1, ↓dhG_M_2, ↓dhG_M_3, ↓dhG_M_4, ↓dhG_M_5, ↓dhG_M_6, ↓dhG_M_7, ↓dhG_M_8, ↓dhg_M_9, ↓dhq_M_9, ↓dhG_M_10, ↓dhG_M_11, ↓dhG_M_12, ↓dhg_M_13, ↓dhq_M_13, ↓dhG_M_14, ↓dhg_M_15, ↓dhq_M_15, ↓dhG_M_16, ↓dhg_M_17, ↓dhq_M_17, ↓dhg_M_18, ↓dhq_M_18, ↓dhG_M_19, ↓dhG_M_20, ↓dhG_M_21, ↓dhG_M_22, ↓dhG_M_23, ↓dhG_M_24, ↓dhg_M_25, ↓dhq_M_25, ↓dhG_M_26, ↓dhG_M_27, ↓dhG_M_28, ↓dhg_M_29, ↓dhq_M_29, ↓dhG_M_30, ↓dhG_M_31, ↓dhg_M_32, ↓dhq_M_32, ↓dhg_M_33, ↓dhq_M_33, ↓dhg_M_34, ↓dhq_M_34, ↓dhg_M_35, ↓dhq_M_35, ↓dhG_M_36, ↓dhG_M_37, ↓dhg_M_38, ↓dhq_M_38, ↓dhg_M_39, ↓dhq_M_39, ↓dhG_M_40, ↓dhG_M_41, ↓dhG_M_42, ↓dhG_M_43, ↓dhg_M_44, ↓dhq_M_44, ↓dha_178, ↓dhs_178, ↓dhl_178, Option.bind_some, ↓nm_eq, ↓sm_inl, ↓sm_inr, ↓dzo_0, ↓dzo_1, ↓drg_ok, ↓if_pos, ↓if_neg, if_pos, if_neg, if_true, if_false, Int.toNat_natCast, rg_ok, hh]
    · rw [if_neg c2] at hh
      rw [if_pos c1, if_neg c2]
      simp (disch := omega) only [b_X12_uses_135, b_X12_uses_151, b_X12_uses_165, ↓dhi_M, ↓dhG_M_0, ↓dhG_M_1, ↓dhG_M_2, ↓dhG_M_3, ↓dhG_M_4, ↓dhG_M_5, ↓dhG_M_6, ↓dhG_M_7, ↓dhG_M_8, ↓dhg_M_9, ↓dhq_M_9, ↓dhG_M_10, ↓dhG_M_11, ↓dhG_M_12, ↓dhg_M_13, ↓dhq_M_13, ↓dhG_M_14, ↓dhg_M_15, ↓dhq_M_15, ↓dhG_M_16, ↓dhg_M_17, ↓dhq_M_17, ↓dhg_M_18, ↓dhq_M_18, ↓dhG_M_19, ↓dhG_M_20, ↓dhG_M_21, ↓dhG_M_22, ↓dhG_M_23, ↓dhG_M_24, ↓dhg_M_25, ↓dhq_M_25, ↓dhG_M_26, ↓dhG_M_27, ↓dhG_M_28, ↓dhg_M_29, ↓dhq_M_29, ↓dhG_M_30, ↓dhG_M_31, ↓dhg_M_32, ↓dhq_M_32, ↓dhg_M_33, ↓dhq_M_33, ↓dhg_M_34, ↓dhq_M_34, ↓dhg_M_35, ↓dhq_M_35, ↓dhG_M_36, ↓dhG_M_37, ↓dhg_M_38, ↓dhq_M_38, ↓dhg_M_39, ↓dhq_M_39, ↓dhG_M_40, ↓dhG_M_41, ↓dhG_M_42, ↓dhG_M_43, ↓dhg_M_44, ↓dhq_M_44, ↓dha_178, ↓dhs_178, ↓dhl_178, Option.bind_some, ↓nm_eq, ↓sm_inl, ↓sm_inr, ↓dzo_0, ↓dzo_1, ↓drg_ok, ↓if_pos, ↓if_neg, if_pos, if_neg, if_true, if_false, Int.toNat_natCast, rg_ok, hh]
  · by_cases c2 : bt x a = true
    · rw [if_pos c2] at hh
      rw [if_neg c1, if_pos c2]
      simp (disch := omega) only [b_X12_uses_135, b_X12_uses_151, b_X12_uses_165, ↓dhi_M, ↓dhG_M_0, ↓dhG_M_1, ↓dhG_M_2, ↓dhG_M_3, ↓dhG_M_4, ↓dhG_M_5, ↓dhG_M_6, ↓dhG_M_7, ↓dhG_M_8, ↓dhg_M_9, ↓dhq_M_9, ↓dhG_M_10, ↓dhG_M_11, ↓dhG_M_12, ↓dhg_M_13, ↓dhq_M_13, ↓dhG_M_14, ↓dhg_M_15, ↓dhq_M_15, ↓dhG_M_16, ↓dhg_M_17, ↓dhq_M_17, ↓dhg_M_18, ↓dhq_M_18, ↓dhG_M_19, ↓dhG_M_20, ↓dhG_M_21, ↓dhG_M_22, ↓dhG_M_23, ↓dhG_M_24, ↓dhg_M_25, ↓dhq_M_25, ↓dhG_M_26, ↓dhG_M_27, ↓dhG_M_28, ↓dhg_M_29, ↓dhq_M_29, ↓dhG_M_30, ↓dhG_M_31, ↓dhg_M_32, ↓dhq_M_32, ↓dhg_M_33, ↓dhq_M_33, ↓dhg_M_34, ↓dhq_M_34, ↓dhg_M_35, ↓dhq_M_35, ↓dhG_M_36, ↓dhG_M_37, ↓dhg_M_38, ↓dhq_M_38, ↓dhg_M_39, ↓dhq_M_39, ↓dhG_M_40, ↓dhG_M_41, ↓dhG_M_42, ↓dhG_M_43, ↓dhg_M_44, ↓dhq_M_44, ↓dha_178, ↓dhs_178, ↓dhl_178, Option.bind_some, ↓nm_eq, ↓sm_inl, ↓sm_inr, ↓dzo_0, ↓dzo_1, ↓drg_ok, ↓if_pos, ↓if_neg, if_pos, if_neg, if_true, if_false, Int.toNat_natCast, rg_ok, hh]
    · rw [if_neg c2] at hh
      rw [if_neg c1, if_neg c2]
      simp (disch := omega) only [b_X12_uses_135, b_X12_uses_151, b_X12_uses_165, ↓dhi_M, ↓dhG_M_0, ↓dhG_M_1, ↓dhG_M_2, ↓dhG_M_3, ↓dhG_M_4, ↓dhG_M_5, ↓dhG_M_6, ↓dhG_M_7, ↓dhG_M_8, ↓dhg_M_9, ↓dhq_M_9, ↓dhG_M_10, ↓dhG_M_11, ↓dhG_M_12, ↓dhg_M_13, ↓dhq_M_13, ↓dhG_M_14, ↓dhg_M_15, ↓dhq_M_15, ↓dhG_M_16, ↓dhg_M_17, ↓dhq_M_17, ↓dhg_M_18, ↓dhq_M_18, ↓dhG_M_19, ↓dhG_M_20, ↓dhG_M_21, ↓dhG_M_22, ↓dhG_M_23, ↓dhG_M_24, ↓dhg_M_25, ↓dhq_M_25, ↓dhG_M_26, ↓dhG_M_27, ↓dhG_M_28, ↓dhg_M_29, ↓dhq_M_29, ↓dhG_M_30, ↓dhG_M_31, ↓dhg_M_32, ↓dhq_M_32, ↓dhg_M_33, ↓dhq_M_33, ↓dhg_M_34, ↓dhq_M_34, ↓dhg_M_35, ↓dhq_M_35, ↓dhG_M_36, ↓dhG_M_37, ↓dhg_M_38, ↓dhq_M_38, ↓dhg_M_39, ↓dhq_M_39, ↓dhG_M_40, ↓dhG_M_41, ↓dhG_M_42, ↓dhG_M_43, ↓dhg_M_44, ↓dhq_M_44, ↓dha_178, ↓dhs_178, ↓dhl_178, Option.bind_some, ↓nm_eq, ↓sm_inl, ↓sm_inr, ↓dzo_0, ↓dzo_1, ↓drg_ok, ↓if_pos, ↓if_neg, if_pos, if_neg, if_true, if_false, Int.toNat_natCast, rg_ok, hh]
end USE
theorem op_uses {n : Nat} {x : Int} (hn : 1000000000000000000000000000000 ≤ n) (hx : gi_ok x) : OPK (fun h => f_L_uses n 0 x 193 h) (fun h => f_X12_uses n 161 x h) := by
  intro u J L hI
  by_cases c : x < 0 ∨ 16 ≤ x
  · refine q_out hn hI ?_ (fun J1 K e => ?_)
    · simp (disch := omega) only [f_L_uses, f_X11_uses, ↓bnd (reqN_0 c hx _), ↓dhi_X, ↓dhG_X_0, ↓dhG_X_1, ↓dhG_X_2, ↓dhg_X_3, ↓dhq_X_3, ↓dhG_X_4, ↓dhG_X_5, ↓dhG_X_6, ↓dhg_X_7, ↓dhq_X_7, ↓dhG_X_8, ↓dhG_X_9, ↓dhG_X_10, ↓dhG_X_11, ↓dhG_X_12, ↓dhG_X_13, ↓dhG_X_14, ↓dhG_X_15, ↓dhG_X_16, Option.bind_some, ↓nm_eq, ↓sm_inl, ↓sm_inr, ↓dzo_0, ↓dzo_1, ↓drg_ok, ↓if_pos, ↓if_neg, if_pos, if_neg, if_true, if_false, Int.toNat_natCast, rg_ok, xI1, if_true]
    · simp (disch := omega) only [f_X12_uses, ↓dhi_M, ↓dhG_M_0, ↓dhG_M_1, ↓dhG_M_2, ↓dhG_M_3, ↓dhG_M_4, ↓dhG_M_5, ↓dhG_M_6, ↓dhG_M_7, ↓dhG_M_8, ↓dhg_M_9, ↓dhq_M_9, ↓dhG_M_10, ↓dhG_M_11, ↓dhG_M_12, ↓dhg_M_13, ↓dhq_M_13, ↓dhG_M_14, ↓dhg_M_15, ↓dhq_M_15, ↓dhG_M_16, ↓dhg_M_17, ↓dhq_M_17, ↓dhg_M_18, ↓dhq_M_18, ↓dhG_M_19, ↓dhG_M_20, ↓dhG_M_21, ↓dhG_M_22, ↓dhG_M_23, ↓dhG_M_24, ↓dhg_M_25, ↓dhq_M_25, ↓dhG_M_26, ↓dhG_M_27, ↓dhG_M_28, ↓dhg_M_29, ↓dhq_M_29, ↓dhG_M_30, ↓dhG_M_31, ↓dhg_M_32, ↓dhq_M_32, ↓dhg_M_33, ↓dhq_M_33, ↓dhg_M_34, ↓dhq_M_34, ↓dhg_M_35, ↓dhq_M_35, ↓dhG_M_36, ↓dhG_M_37, ↓dhg_M_38, ↓dhq_M_38, ↓dhg_M_39, ↓dhq_M_39, ↓dhG_M_40, ↓dhG_M_41, ↓dhG_M_42, ↓dhG_M_43, ↓dhg_M_44, ↓dhq_M_44, Option.bind_some, ↓nm_eq, ↓sm_inl, ↓sm_inr, ↓dzo_0, ↓dzo_1, ↓drg_ok, ↓if_pos, ↓if_neg, if_pos, if_neg, if_true, if_false, Int.toNat_natCast, rg_ok, ↓bnd e, ↓bnd (isB_0 (m := 16) c hx (by omega) _), ↓bnd (goes_1 1 1)]
  · obtain ⟨a, rfl⟩ : ∃ a : Nat, x = (a : Int) := ⟨x.toNat, by omega⟩
    have ha : a < 16 := by omega
    refine q_in hn hI (fun g J1 K _ _ hg hF e => ?_)
    have e1 := X3_isProductive (u := u) (L := K) (J := J1) hF ha
    have e2 := X3_reached (u := u) (L := K) (J := J1) ha
    refine ⟨(if cLe J1 a = 1000 then 0 else 1) + (if bt (J1 64 2) a = true then 2 else 0), ?_, by split <;> split <;> decide, fun J2 K2 hF2 hE2 e3 => ?_⟩
    · by_cases c1 : cLe J1 a = 1000
      · rw [if_pos c1] at e1 ⊢
        cases c2 : bt (J1 64 2) a with
        | true =>
          rw [c2, b01_t] at e2
          simp (disch := omega) only [f_L_uses, f_X11_uses, b_X11_uses_27, b_X11_uses_43, ↓bnd (reqN_1 ha _), ↓dhi_X, ↓dhG_X_0, ↓dhG_X_1, ↓dhG_X_2, ↓dhg_X_3, ↓dhq_X_3, ↓dhG_X_4, ↓dhG_X_5, ↓dhG_X_6, ↓dhg_X_7, ↓dhq_X_7, ↓dhG_X_8, ↓dhG_X_9, ↓dhG_X_10, ↓dhG_X_11, ↓dhG_X_12, ↓dhG_X_13, ↓dhG_X_14, ↓dhG_X_15, ↓dhG_X_16, ↓dhi_F, ↓dhG_F_0, ↓dhg_F_1, ↓dhq_F_1, ↓dhg_F_2, ↓dhq_F_2, ↓dhg_F_3, ↓dhq_F_3, ↓dhg_F_4, ↓dhq_F_4, ↓dhG_F_5, ↓dhG_F_6, ↓dhG_F_7, ↓dhG_F_8, ↓dhG_F_9, ↓dhg_F_10, ↓dhq_F_10, ↓dhG_F_11, ↓dhG_F_12, ↓dhG_F_13, ↓dha_193, ↓dhs_193, ↓dhl_193, Option.bind_some, ↓nm_eq, ↓sm_inl, ↓sm_inr, ↓dzo_0, ↓dzo_1, ↓drg_ok, ↓if_pos, ↓if_neg, if_pos, if_neg, if_true, if_false, Int.toNat_natCast, rg_ok, ↓bnd e, ↓bnd e1, ↓bnd e2] <;> rfl
        | false =>
          rw [c2, b01_f] at e2
          simp (disch := omega) only [f_L_uses, f_X11_uses, b_X11_uses_27, b_X11_uses_43, ↓bnd (reqN_1 ha _), ↓dhi_X, ↓dhG_X_0, ↓dhG_X_1, ↓dhG_X_2, ↓dhg_X_3, ↓dhq_X_3, ↓dhG_X_4, ↓dhG_X_5, ↓dhG_X_6, ↓dhg_X_7, ↓dhq_X_7, ↓dhG_X_8, ↓dhG_X_9, ↓dhG_X_10, ↓dhG_X_11, ↓dhG_X_12, ↓dhG_X_13, ↓dhG_X_14, ↓dhG_X_15, ↓dhG_X_16, ↓dhi_F, ↓dhG_F_0, ↓dhg_F_1, ↓dhq_F_1, ↓dhg_F_2, ↓dhq_F_2, ↓dhg_F_3, ↓dhq_F_3, ↓dhg_F_4, ↓dhq_F_4, ↓dhG_F_5, ↓dhG_F_6, ↓dhG_F_7, ↓dhG_F_8, ↓dhG_F_9, ↓dhg_F_10, ↓dhq_F_10, ↓dhG_F_11, ↓dhG_F_12, ↓dhG_F_13, ↓dha_193, ↓dhs_193, ↓dhl_193, Option.bind_some, ↓nm_eq, ↓sm_inl, ↓sm_inr, ↓dzo_0, ↓dzo_1, ↓drg_ok, ↓if_pos, ↓if_neg, if_pos, if_neg, if_true, if_false, Int.toNat_natCast, rg_ok, ↓bnd e, ↓bnd e1, ↓bnd e2] <;> rfl
      · rw [if_neg c1] at e1 ⊢
        cases c2 : bt (J1 64 2) a with
        | true =>
          rw [c2, b01_t] at e2
          simp (disch := omega) only [f_L_uses, f_X11_uses, b_X11_uses_27, b_X11_uses_43, ↓bnd (reqN_1 ha _), ↓dhi_X, ↓dhG_X_0, ↓dhG_X_1, ↓dhG_X_2, ↓dhg_X_3, ↓dhq_X_3, ↓dhG_X_4, ↓dhG_X_5, ↓dhG_X_6, ↓dhg_X_7, ↓dhq_X_7, ↓dhG_X_8, ↓dhG_X_9, ↓dhG_X_10, ↓dhG_X_11, ↓dhG_X_12, ↓dhG_X_13, ↓dhG_X_14, ↓dhG_X_15, ↓dhG_X_16, ↓dhi_F, ↓dhG_F_0, ↓dhg_F_1, ↓dhq_F_1, ↓dhg_F_2, ↓dhq_F_2, ↓dhg_F_3, ↓dhq_F_3, ↓dhg_F_4, ↓dhq_F_4, ↓dhG_F_5, ↓dhG_F_6, ↓dhG_F_7, ↓dhG_F_8, ↓dhG_F_9, ↓dhg_F_10, ↓dhq_F_10, ↓dhG_F_11, ↓dhG_F_12, ↓dhG_F_13, ↓dha_193, ↓dhs_193, ↓dhl_193, Option.bind_some, ↓nm_eq, ↓sm_inl, ↓sm_inr, ↓dzo_0, ↓dzo_1, ↓drg_ok, ↓if_pos, ↓if_neg, if_pos, if_neg, if_true, if_false, Int.toNat_natCast, rg_ok, ↓bnd e, ↓bnd e1, ↓bnd e2] <;> rfl
        | false =>
          rw [c2, b01_f] at e2
          simp (disch := omega) only [f_L_uses, f_X11_uses, b_X11_uses_27, b_X11_uses_43, ↓bnd (reqN_1 ha _), ↓dhi_X, ↓dhG_X_0, ↓dhG_X_1, ↓dhG_X_2, ↓dhg_X_3, ↓dhq_X_3, ↓dhG_X_4, ↓dhG_X_5, ↓dhG_X_6, ↓dhg_X_7, ↓dhq_X_7, ↓dhG_X_8, ↓dhG_X_9, ↓dhG_X_10, ↓dhG_X_11, ↓dhG_X_12, ↓dhG_X_13, ↓dhG_X_14, ↓dhG_X_15, ↓dhG_X_16, ↓dhi_F, ↓dhG_F_0, ↓dhg_F_1, ↓dhq_F_1, ↓dhg_F_2, ↓dhq_F_2, ↓dhg_F_3, ↓dhq_F_3, ↓dhg_F_4, ↓dhq_F_4, ↓dhG_F_5, ↓dhG_F_6, ↓dhG_F_7, ↓dhG_F_8, ↓dhG_F_9, ↓dhg_F_10, ↓dhq_F_10, ↓dhG_F_11, ↓dhG_F_12, ↓dhG_F_13, ↓dha_193, ↓dhs_193, ↓dhl_193, Option.bind_some, ↓nm_eq, ↓sm_inl, ↓sm_inr, ↓dzo_0, ↓dzo_1, ↓drg_ok, ↓if_pos, ↓if_neg, if_pos, if_neg, if_true, if_false, Int.toNat_natCast, rg_ok, ↓bnd e, ↓bnd e1, ↓bnd e2] <;> rfl
    · have fq : Fr [161] J2 (gx_u J2 161 44 0) := Fr.rf.wr (by simp)
      have hE3 : RE g (gx_u J2 161 44 0) := hE2.fr fq (gu_at_ne (by decide)) (by decide)
      have hF3 : rF g (gx_u J2 161 44 0) K2 := rF_fr (gu_ne (by decide)) (gu_ne (by decide)) (gu_ne (by decide)) (gu_ne (by decide)) (gu_at_ne (by decide)) rfl hF2
      have h9 := rw9_of hE3.1
      have hT := rG_t hE3.1
      rw [hE3.2] at hT
      have ht : Gt g < 16 := by have := hg.2.1; omega
      have hus : US g (gi_shl 1 ((Gt g : Nat) : Int)) := ⟨bt_ok_shl _ _, fun i hi => by rw [bt_shl1 (by omega)] at hi; have := of_decide_eq_true hi; omega, by rw [bt_shl1 (by omega)]; exact decide_eq_true rfl, fun R' hR i hi => by rw [bt_shl1 (by omega)] at hi; rw [of_decide_eq_true hi]; exact hR.1⟩
      obtain ⟨x', e4, hx', hls⟩ := us_35 (n := n) (v1 := (a : Int)) (u := u) (L := K2) hn hE3 32 n (gi_shl 1 ((Gt g : Nat) : Int)) 0 (by omega) (by omega) hus (by decide) (fun z => by have := hus.2.2.1; rw [z, bt_zero] at this; exact absurd this (by decide))
      have e5 := us_fin (n := n) (u := u) (v1 := (a : Int)) (x := x') hE3 ⟨a, rfl, ha⟩ hF3
      rw [Int.toNat_natCast] at e5
      have hl3 := ls3_uniq hF.2.2.2.2.1.2 hls a
      have hss := (sam_s hg hF hF2 ha).1
      have hln : rLn (gx_u J2 161 44 0) a = rLn J2 a := by unfold rLn; rw [gu_ne (by decide)]
      rw [hln] at e5
      have ev : (if rLn J2 a = 1000 then (0 : Int) else 1) + (if bt x' a = true then 2 else 0) = (if cLe J1 a = 1000 then 0 else 1) + (if bt (J1 64 2) a = true then 2 else 0) := by
        have q1 : (if rLn J2 a = 1000 then (0 : Int) else 1) = (if cLe J1 a = 1000 then 0 else 1) := by
          by_cases z : cLe J1 a = 1000
          · rw [if_pos z, if_pos (hss.mp z)]
          · rw [if_neg z, if_neg (fun y => z (hss.mpr y))]
        have q2 : (if bt x' a = true then (2 : Int) else 0) = (if bt (J1 64 2) a = true then 2 else 0) := by
          by_cases z : bt (J1 64 2) a = true
          · rw [if_pos z, if_pos (hl3.mp z)]
          · rw [if_neg z, if_neg (fun y => z (hl3.mpr y))]
        rw [q1, q2]
      rw [ev] at e5
      simp (disch := omega) only [f_X12_uses, ↓dhi_M, ↓dhG_M_0, ↓dhG_M_1, ↓dhG_M_2, ↓dhG_M_3, ↓dhG_M_4, ↓dhG_M_5, ↓dhG_M_6, ↓dhG_M_7, ↓dhG_M_8, ↓dhg_M_9, ↓dhq_M_9, ↓dhG_M_10, ↓dhG_M_11, ↓dhG_M_12, ↓dhg_M_13, ↓dhq_M_13, ↓dhG_M_14, ↓dhg_M_15, ↓dhq_M_15, ↓dhG_M_16, ↓dhg_M_17, ↓dhq_M_17, ↓dhg_M_18, ↓dhq_M_18, ↓dhG_M_19, ↓dhG_M_20, ↓dhG_M_21, ↓dhG_M_22, ↓dhG_M_23, ↓dhG_M_24, ↓dhg_M_25, ↓dhq_M_25, ↓dhG_M_26, ↓dhG_M_27, ↓dhG_M_28, ↓dhg_M_29, ↓dhq_M_29, ↓dhG_M_30, ↓dhG_M_31, ↓dhg_M_32, ↓dhq_M_32, ↓dhg_M_33, ↓dhq_M_33, ↓dhg_M_34, ↓dhq_M_34, ↓dhg_M_35, ↓dhq_M_35, ↓dhG_M_36, ↓dhG_M_37, ↓dhg_M_38, ↓dhq_M_38, ↓dhg_M_39, ↓dhq_M_39, ↓dhG_M_40, ↓dhG_M_41, ↓dhG_M_42, ↓dhG_M_43, ↓dhg_M_44, ↓dhq_M_44, ↓dha_170, ↓dhs_170, ↓dhl_170, Option.bind_some, ↓nm_eq, ↓sm_inl, ↓sm_inr, ↓dzo_0, ↓dzo_1, ↓drg_ok, ↓if_pos, ↓if_neg, if_pos, if_neg, if_true, if_false, Int.toNat_natCast, rg_ok, ↓bnd e3, ↓bnd (isB_1 (x := (a : Int)) (m := 16) (by omega) (by omega) _), ↓bnd goes_0, h9.1, ← hT, e4, e5]
