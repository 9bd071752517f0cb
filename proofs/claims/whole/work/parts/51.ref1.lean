/-! ===== the reference: firsts and nullable ones ===== -/
theorem rG_fr {l : List Nat} {I J : Nat → Nat → Int} (h : Fr l I J) (h9 : J 161 9 = I 161 9) (q : 162 ∉ l ∧ 163 ∉ l ∧ 164 ∉ l ∧ 165 ∉ l ∧ 170 ∉ l) : rG J = rG I := by
  unfold rG rGw rw9
  rw [h9, h 162 q.1, h 163 q.2.1, h 164 q.2.2.1, h 165 q.2.2.2.1, h 170 q.2.2.2.2]
theorem RW_fr {l : List Nat} {I J : Nat → Nat → Int} (h : Fr l I J) (h9 : J 161 9 = I 161 9) (q : 162 ∉ l ∧ 163 ∉ l ∧ 164 ∉ l ∧ 165 ∉ l ∧ 170 ∉ l) (w : RW I) : RW J := by
  unfold RW
  rw [h9, h 162 q.1, h 163 q.2.1, h 164 q.2.2.1, h 165 q.2.2.2.1, h 170 q.2.2.2.2]
  exact w
section RB
variable {u : Nat} {I L : Nat → Nat → Int} {n : Nat}
theorem X12_first_0 (h : RW I) {p : Nat} (hq : p < Gn (rG I)) {f k : Nat} {acc : Int} (hf : 0 < f) (hk : k < 1000) : l_X12_firstFrom_8 n f 161 (p : Int) acc 0 (k : Int) (hp u I L) = some acc := by
  have h5 := (GR_r h).2.2.2.1 p
  obtain ⟨f', rfl⟩ : ∃ f', f = f' + 1 := ⟨f - 1, by omega⟩
  simp (disch := omega) only [l_X12_firstFrom_8, b_X12_firstFrom_8, hi_M, hG_M_0, hG_M_1, hG_M_2, hG_M_3, hG_M_4, hG_M_5, hG_M_6, hG_M_7, hG_M_8, hg_M_9, hq_M_9, hG_M_10, hG_M_11, hG_M_12, hg_M_13, hq_M_13, hG_M_14, hg_M_15, hq_M_15, hG_M_16, hg_M_17, hq_M_17, hg_M_18, hq_M_18, hG_M_19, hG_M_20, hG_M_21, hG_M_22, hG_M_23, hG_M_24, hg_M_25, hq_M_25, hG_M_26, hG_M_27, hG_M_28, hg_M_29, hq_M_29, hG_M_30, hG_M_31, hg_M_32, hq_M_32, hg_M_33, hq_M_33, hg_M_34, hq_M_34, hg_M_35, hq_M_35, hG_M_36, hG_M_37, hg_M_38, hq_M_38, hg_M_39, hq_M_39, hG_M_40, hG_M_41, hG_M_42, hG_M_43, hg_M_44, hq_M_44, Option.bind_some, nm_eq, sm_inl, sm_inr, zo_0, zo_1, X12_sizeOf h hq, rg_ok]
  split
  · rfl
  · rw [if_pos trivial]
theorem X12_first_l (h : RW I) (hT : rTb I) {p : Nat} (hq : p < Gn (rG I)) : ∀ (m f k : Nat) (acc : Int), Gl (rG I) p = k + m → m + 1 < f → gi_ok acc → ∃ r : Int, l_X12_firstFrom_8 n f 161 (p : Int) acc 1 (k : Int) (hp u I L) = some r ∧ gi_ok r ∧ ∀ i, bt r i = true ↔ bt acc i = true ∨ (i < 8 ∧ fsF (rG I) (rNi I) (rFi I) p k i) := by
  have hg := GR_r h
  have h5 := hg.2.2.2.1 p
  have hrg := hT.2.1
  intro m
  induction m with
  | zero =>
    intro f k acc hm hf hok
    obtain ⟨f', rfl⟩ : ∃ f', f = f' + 1 := ⟨f - 1, by omega⟩
    simp (disch := omega) only [l_X12_firstFrom_8, b_X12_firstFrom_8, hi_M, hG_M_0, hG_M_1, hG_M_2, hG_M_3, hG_M_4, hG_M_5, hG_M_6, hG_M_7, hG_M_8, hg_M_9, hq_M_9, hG_M_10, hG_M_11, hG_M_12, hg_M_13, hq_M_13, hG_M_14, hg_M_15, hq_M_15, hG_M_16, hg_M_17, hq_M_17, hg_M_18, hq_M_18, hG_M_19, hG_M_20, hG_M_21, hG_M_22, hG_M_23, hG_M_24, hg_M_25, hq_M_25, hG_M_26, hG_M_27, hG_M_28, hg_M_29, hq_M_29, hG_M_30, hG_M_31, hg_M_32, hq_M_32, hg_M_33, hq_M_33, hg_M_34, hq_M_34, hg_M_35, hq_M_35, hG_M_36, hG_M_37, hg_M_38, hq_M_38, hg_M_39, hq_M_39, hG_M_40, hG_M_41, hG_M_42, hG_M_43, hg_M_44, hq_M_44, Option.bind_some, nm_eq, sm_inl, sm_inr, zo_0, zo_1, X12_sizeOf h hq, rg_ok]
    rw [if_pos (by omega)]
    refine ⟨acc, rfl, hok, fun i => ?_⟩
    have e1 : ¬ fsF (rG I) (rNi I) (rFi I) p k i := fsF_end (by omega)
    simp [e1]
  | succ m ih =>
    intro f k acc hm hf hok
    obtain ⟨f', rfl⟩ : ∃ f', f = f' + 1 := ⟨f - 1, by omega⟩
    have hk : k < Gl (rG I) p := by omega
    have hs := hg.2.2.2.2.2 p k hk
    have ek : (k : Int) + 1 = ((k + 1 : Nat) : Int) := by omega
    simp (disch := omega) only [l_X12_firstFrom_8, b_X12_firstFrom_8, hi_M, hG_M_0, hG_M_1, hG_M_2, hG_M_3, hG_M_4, hG_M_5, hG_M_6, hG_M_7, hG_M_8, hg_M_9, hq_M_9, hG_M_10, hG_M_11, hG_M_12, hg_M_13, hq_M_13, hG_M_14, hg_M_15, hq_M_15, hG_M_16, hg_M_17, hq_M_17, hg_M_18, hq_M_18, hG_M_19, hG_M_20, hG_M_21, hG_M_22, hG_M_23, hG_M_24, hg_M_25, hq_M_25, hG_M_26, hG_M_27, hG_M_28, hg_M_29, hq_M_29, hG_M_30, hG_M_31, hg_M_32, hq_M_32, hg_M_33, hq_M_33, hg_M_34, hq_M_34, hg_M_35, hq_M_35, hG_M_36, hG_M_37, hg_M_38, hq_M_38, hg_M_39, hq_M_39, hG_M_40, hG_M_41, hG_M_42, hG_M_43, hg_M_44, hq_M_44, Option.bind_some, nm_eq, sm_inl, sm_inr, zo_0, zo_1, X12_sizeOf h hq, X12_symbol h hk, rg_ok]
    rw [if_neg (by omega), if_neg (by decide)]
    by_cases hs16 : Gs (rG I) p k < 16
    · rw [if_neg (by omega)]
      simp (disch := omega) only [b_X12_firstFrom_57, b_X12_firstFrom_86, b_X12_firstFrom_87, hi_M, hG_M_0, hG_M_1, hG_M_2, hG_M_3, hG_M_4, hG_M_5, hG_M_6, hG_M_7, hG_M_8, hg_M_9, hq_M_9, hG_M_10, hG_M_11, hG_M_12, hg_M_13, hq_M_13, hG_M_14, hg_M_15, hq_M_15, hG_M_16, hg_M_17, hq_M_17, hg_M_18, hq_M_18, hG_M_19, hG_M_20, hG_M_21, hG_M_22, hG_M_23, hG_M_24, hg_M_25, hq_M_25, hG_M_26, hG_M_27, hG_M_28, hg_M_29, hq_M_29, hG_M_30, hG_M_31, hg_M_32, hq_M_32, hg_M_33, hq_M_33, hg_M_34, hq_M_34, hg_M_35, hq_M_35, hG_M_36, hG_M_37, hg_M_38, hq_M_38, hg_M_39, hq_M_39, hG_M_40, hG_M_41, hG_M_42, hG_M_43, hg_M_44, hq_M_44, Option.bind_some, nm_eq, sm_inl, sm_inr, zo_0, zo_1, rg_ok, ek]
      rw [if_pos (by omega), X12_first_0 h hq (by omega) (by omega)]
      refine ⟨_, rfl, bt_ok_or _ _, fun i => ?_⟩
      have e1 : ¬ nls (rNi I) (Gs (rG I) p k) := fun q => by have := q.1; omega
      rw [bt_or, bt_shl1 (by omega), fsF_step hk]
      simp only [Bool.or_eq_true, decide_eq_true_eq, e1, false_and, or_false, syf]
      constructor
      · rintro (q | q)
        · exact Or.inl q
        · exact Or.inr ⟨by omega, Or.inl ⟨hs16, q⟩⟩
      · rintro (q | ⟨-, q | q⟩)
        · exact Or.inl q
        · exact Or.inr q.2
        · omega
    · have e16 : ((Gs (rG I) p k : Nat) : Int) - 16 = ((Gs (rG I) p k - 16 : Nat) : Int) := by omega
      have hb32 : Gs (rG I) p k - 16 < 32 := by omega
      have hT1 := hT.1 (Gs (rG I) p k - 16) (by omega)
      have hsy : ∀ i, i < 8 → (syf (rFi I) (Gs (rG I) p k) i ↔ bt (I 176 (Gs (rG I) p k - 16)) i = true) := fun i hi => by
        unfold syf rFi
        constructor
        · rintro (q | q)
          · omega
          · exact q.2.2.2
        · intro q; exact Or.inr ⟨by omega, by omega, hi, q⟩
      rw [if_pos (by omega), e16]
      simp (disch := omega) only [b_X12_firstFrom_57, b_X12_firstFrom_86, b_X12_firstFrom_87, hi_M, hG_M_0, hG_M_1, hG_M_2, hG_M_3, hG_M_4, hG_M_5, hG_M_6, hG_M_7, hG_M_8, hg_M_9, hq_M_9, hG_M_10, hG_M_11, hG_M_12, hg_M_13, hq_M_13, hG_M_14, hg_M_15, hq_M_15, hG_M_16, hg_M_17, hq_M_17, hg_M_18, hq_M_18, hG_M_19, hG_M_20, hG_M_21, hG_M_22, hG_M_23, hG_M_24, hg_M_25, hq_M_25, hG_M_26, hG_M_27, hG_M_28, hg_M_29, hq_M_29, hG_M_30, hG_M_31, hg_M_32, hq_M_32, hg_M_33, hq_M_33, hg_M_34, hq_M_34, hg_M_35, hq_M_35, hG_M_36, hG_M_37, hg_M_38, hq_M_38, hg_M_39, hq_M_39, hG_M_40, hG_M_41, hG_M_42, hG_M_43, hg_M_44, hq_M_44, ha_176, hs_176, hl_176, Option.bind_some, nm_eq, sm_inl, sm_inr, zo_0, zo_1, rg_ok, ek, e16, Int.toNat_natCast]
      rw [if_neg (by omega), bt_has hb32]
      by_cases hb : bt (I 161 18) (Gs (rG I) p k - 16) = true
      · rw [if_pos hb]
        simp (disch := omega) only [Option.bind_some, nm_eq, sm_inl, sm_inr, zo_0, zo_1, rg_ok]
        rw [if_pos trivial]
        obtain ⟨r, e, ho, hr⟩ := ih f' (k + 1) (gi_or acc (I 176 (Gs (rG I) p k - 16))) (by omega) (by omega) (bt_ok_or _ _)
        refine ⟨r, e, ho, fun i => ?_⟩
        have e1 : nls (rNi I) (Gs (rG I) p k) := (rTb_null hs).mpr ⟨by omega, hb⟩
        rw [hr i, bt_or, fsF_step hk]
        simp only [Bool.or_eq_true, e1, true_and]
        by_cases hi : i < 8
        · rw [hsy i hi]; simp only [hi, true_and]
          exact ⟨fun q => q.elim (fun z => z.elim Or.inl (fun y => Or.inr (Or.inl y))) (fun z => Or.inr (Or.inr z)), fun q => q.elim (fun z => Or.inl (Or.inl z)) (fun z => z.elim (fun y => Or.inl (Or.inr y)) Or.inr)⟩
        · have := mt (hT1.2 i) hi
          simp only [hi, false_and, or_false, this, Bool.false_eq_true]
      · rw [if_neg hb]
        simp (disch := omega) only [Option.bind_some, nm_eq, sm_inl, sm_inr, zo_0, zo_1, rg_ok]
        rw [if_neg (by decide), X12_first_0 h hq (by omega) (by omega)]
        refine ⟨_, rfl, bt_ok_or _ _, fun i => ?_⟩
        have e1 : ¬ nls (rNi I) (Gs (rG I) p k) := fun q => hb ((rTb_null hs).mp q).2
        rw [bt_or, fsF_step hk]
        simp only [Bool.or_eq_true, e1, false_and, or_false]
        by_cases hi : i < 8
        · rw [hsy i hi]; simp only [hi, true_and]
        · have := mt (hT1.2 i) hi
          simp only [hi, false_and, or_false, this, Bool.false_eq_true]
theorem X12_first (hn : 1000000000000000000000000000000 ≤ n) (h : RW I) (hT : rTb I) {p k : Nat} (hq : p < Gn (rG I)) (hk : k ≤ Gl (rG I) p) : ∃ r : Int, f_X12_firstFrom n 161 (p : Int) (k : Int) (hp u I L) = some r ∧ gi_ok r ∧ ∀ i, bt r i = true ↔ (i < 8 ∧ fsF (rG I) (rNi I) (rFi I) p k i) := by
  have h5 := (GR_r h).2.2.2.1 p
  obtain ⟨r, e, h1, h2⟩ := X12_first_l (n := n) (u := u) (L := L) h hT hq (Gl (rG I) p - k) n k 0 (by omega) (by omega) (by decide)
  refine ⟨r, e, h1, fun i => ?_⟩
  rw [h2 i, bt_zero]; simp
end RB
