/-! ===== the reference: shortest sentences ===== -/
def rLn (I : Nat → Nat → Int) (a : Nat) : Nat := if I 178 a = 101 then 1000 else (I 178 a).toNat
def eR (I L : Nat → Nat → Int) (a : Nat) : Nat := if rLn I a = 1000 then 1000 * 1152921504606846976 else if 21 ≤ rLn I a then 21 * 1152921504606846976 else rLn I a * 1152921504606846976 + (L 179 a).toNat
def rOk (I L : Nat → Nat → Int) : Prop := ∀ a, a < 16 → (0 ≤ I 178 a ∧ I 178 a ≤ 101) ∧ 0 ≤ L 179 a ∧ (I 178 a ≤ 20 → (L 179 a).toNat < 8 ^ rLn I a) ∧ (20 < I 178 a → L 179 a = 0)
theorem rLn_of {I L : Nat → Nat → Int} (h : rOk I L) {a : Nat} (ha : a < 16) : (I 178 a = 101 ∧ rLn I a = 1000) ∨ (I 178 a = (rLn I a : Int) ∧ rLn I a ≤ 100) := by
  have := (h a ha).1
  unfold rLn; split <;> omega
theorem rLn_val {I L : Nat → Nat → Int} (h : rOk I L) : vald 100 (rLn I) := fun a ha => by
  rcases rLn_of h ha with q | q <;> omega
theorem eR_20 {I L : Nat → Nat → Int} (h : rOk I L) {a : Nat} (ha : a < 16) (q : rLn I a ≤ 20) : ln (eR I L) a = rLn I a ∧ L 179 a = (tx (eR I L) a : Int) ∧ tx (eR I L) a < 8 ^ rLn I a := by
  have h1 := h a ha
  have h2 := rLn_of h ha
  have h3 := h1.2.2.1 (by omega)
  have h4 := p8_le q
  have e : eR I L a = rLn I a * 1152921504606846976 + (L 179 a).toNat := by
    unfold eR; rw [if_neg (by omega), if_neg (by omega)]
  have e2 : tx (eR I L) a = (L 179 a).toNat := by unfold tx; omega
  refine ⟨by unfold ln; omega, by omega, by omega⟩
theorem eR_ln {I L : Nat → Nat → Int} (h : rOk I L) {a : Nat} (ha : a < 16) : ln (eR I L) a = if rLn I a = 1000 then 1000 else if rLn I a ≤ 21 then rLn I a else 21 := by
  by_cases q : rLn I a ≤ 20
  · rw [(eR_20 h ha q).1, if_neg (by omega), if_pos (by omega)]
  · by_cases q1 : rLn I a = 1000
    · rw [if_pos q1]; unfold ln eR; rw [if_pos q1]
    · rw [if_neg q1]; unfold ln eR; rw [if_neg q1, if_pos (by omega)]; split <;> omega
theorem eR_val {I L : Nat → Nat → Int} (h : rOk I L) : vJ (eR I L) := fun a ha => by
  by_cases q : rLn I a ≤ 20
  · have h1 := eR_20 h ha q
    refine Or.inl ⟨?_, ?_⟩
    · have := h1.1; unfold ln at this; omega
    · have h2 := h1.1; have h3 := h1.2.2; unfold ln at h2; unfold tx at h3; rw [h2]; exact h3
  · by_cases q1 : rLn I a = 1000
    · refine Or.inr (Or.inr ?_); unfold eR; rw [if_pos q1]
    · refine Or.inr (Or.inl ?_); unfold eR; rw [if_neg q1, if_pos (by omega)]
/-- sums of what is cut at 21 -/
theorem sm_c21 {g : GT} (hg : GR g) {c r : Nat → Nat} (hr : vald 100 r) (hc : ∀ a, a < 16 → c a = if r a = 1000 then 1000 else if r a ≤ 21 then r a else 21) {p : Nat} : ∀ (m k : Nat), k + m ≤ Gl g p → (sm g c p k m = sm g r p k m) ∨ (21 ≤ sm g c p k m ∧ 21 ≤ sm g r p k m ∧ (1000 ≤ sm g c p k m ↔ 1000 ≤ sm g r p k m))
  | 0, _, _ => Or.inl rfl
  | m + 1, k, hk => by
    have i1 := sm_c21 hg hr hc (p := p) m (k + 1) (by omega)
    have i2 := sm_di hg (by decide) hr (p := p) m (k + 1) (by omega)
    have i3 := hg.2.2.2.2.2 p k (by omega)
    have i5 := hg.2.2.2.1 p
    have i6 : sm g c p (k + 1) m ≤ sm g r p (k + 1) m := sm_mono hg (fun a ha => by
      rw [hc a ha]
      repeat' split
      all_goals omega) m (k + 1) (by omega)
    have i4 : dS c (Gs g p k) = dS r (Gs g p k) ∨ (dS c (Gs g p k) = 21 ∧ 21 ≤ dS r (Gs g p k) ∧ dS r (Gs g p k) ≤ 100) := by
      unfold dS
      split
      · exact Or.inl rfl
      · have h1 := hr (Gs g p k - 16) (by omega)
        have h2 := hc (Gs g p k - 16) (by omega)
        repeat' split at h2
        all_goals omega
    have i7 : dS r (Gs g p k) ≤ 100 ∨ dS r (Gs g p k) = 1000 := by
      unfold dS; split
      · omega
      · exact hr _ (by omega)
    show (dS c (Gs g p k) + sm g c p (k + 1) m = dS r (Gs g p k) + sm g r p (k + 1) m) ∨ (21 ≤ dS c (Gs g p k) + sm g c p (k + 1) m ∧ 21 ≤ dS r (Gs g p k) + sm g r p (k + 1) m ∧ (1000 ≤ dS c (Gs g p k) + sm g c p (k + 1) m ↔ 1000 ≤ dS r (Gs g p k) + sm g r p (k + 1) m))
    have i8 : 100 * m ≤ 400 := by omega
    omega
theorem cJ_R {g : GT} (hg : GR g) {I L : Nat → Nat → Int} (h : rOk I L) (p : Nat) : cJ g (eR I L) p = if 1000 ≤ sm g (rLn I) p 0 (Gl g p) then 1000 * 1152921504606846976 else if 21 ≤ sm g (rLn I) p 0 (Gl g p) then 21 * 1152921504606846976 else sm g (rLn I) p 0 (Gl g p) * 1152921504606846976 + cf g (eR I L) p 0 0 (Gl g p) := by
  have h1 := sm_c21 hg (c := ln (eR I L)) (rLn_val h) (fun a ha => eR_ln h ha) (p := p) (Gl g p) 0 (by omega)
  unfold cJ
  rcases h1 with h1 | ⟨h1, h2, h3⟩
  · rw [h1]
  · by_cases q : 1000 ≤ sm g (rLn I) p 0 (Gl g p)
    · rw [if_pos q, if_pos (h3.mpr q)]
    · rw [if_neg q, if_neg (fun z => q (h3.mp z)), if_pos h1, if_pos h2]
theorem sm_succ {g : GT} {d : Nat → Nat} {p k m : Nat} : sm g d p k (m + 1) = dS d (Gs g p k) + sm g d p (k + 1) m := rfl
theorem cf_succ {g : GT} {e : Nat → Nat} {p k m acc : Nat} : cf g e p acc k (m + 1) = cf g e p (acc * 8 ^ dS (ln e) (Gs g p k) + tS e (Gs g p k)) (k + 1) m := rfl
section RF
variable {u : Nat} {n : Nat}
theorem X12_sh_l {I L : Nat → Nat → Int} (hw : RW I) (hO : rOk I L) {p : Nat} (hp1 : p < Gn (rG I)) : ∀ (m f k S T : Nat), Gl (rG I) p = k + m → m < f → S ≤ 100 → (S ≤ 20 → T < 8 ^ S) → (20 < S → T = 0) →
    (1000 ≤ sm (rG I) (rLn I) p k m ∧ l_X12_findsShort_7 n f 161 (p : Int) (S : Int) (T : Int) (k : Int) (hp u I L) = some (0, hp u I L)) ∨
    (sm (rG I) (rLn I) p k m ≤ 100 * m ∧ ∃ S' T' : Nat, l_X12_findsShort_7 n f 161 (p : Int) (S : Int) (T : Int) (k : Int) (hp u I L) = b_X12_findsShort_130 n 161 (p : Int) (S' : Int) (T' : Int) (hp u I L) ∧ S' = (if S + sm (rG I) (rLn I) p k m ≤ 100 then S + sm (rG I) (rLn I) p k m else 100) ∧ T' = (if S + sm (rG I) (rLn I) p k m ≤ 20 then cf (rG I) (eR I L) p T k m else 0) ∧ (S' ≤ 20 → T' < 8 ^ S')) := by
  have hg := GR_r hw
  have h24 := hg.1
  have h5 := hg.2.2.2.1 p
  intro m
  induction m with
  | zero =>
    intro f k S T hm hf hS hT1 hT2
    obtain ⟨f', rfl⟩ : ∃ f', f = f' + 1 := ⟨f - 1, by omega⟩
    have e0 : sm (rG I) (rLn I) p k 0 = 0 := rfl
    have c0 : cf (rG I) (eR I L) p T k 0 = T := rfl
    rw [e0, c0]
    right
    refine ⟨by omega, S, T, ?_, ?_, ?_, hT1⟩
    · simp (disch := omega) only [l_X12_findsShort_7, b_X12_findsShort_7, hi_M, hG_M_0, hG_M_1, hG_M_2, hG_M_3, hG_M_4, hG_M_5, hG_M_6, hG_M_7, hG_M_8, hg_M_9, hq_M_9, hG_M_10, hG_M_11, hG_M_12, hg_M_13, hq_M_13, hG_M_14, hg_M_15, hq_M_15, hG_M_16, hg_M_17, hq_M_17, hg_M_18, hq_M_18, hG_M_19, hG_M_20, hG_M_21, hG_M_22, hG_M_23, hG_M_24, hg_M_25, hq_M_25, hG_M_26, hG_M_27, hG_M_28, hg_M_29, hq_M_29, hG_M_30, hG_M_31, hg_M_32, hq_M_32, hg_M_33, hq_M_33, hg_M_34, hq_M_34, hg_M_35, hq_M_35, hG_M_36, hG_M_37, hg_M_38, hq_M_38, hg_M_39, hq_M_39, hG_M_40, hG_M_41, hG_M_42, hG_M_43, hg_M_44, hq_M_44, Option.bind_some, nm_eq, sm_inl, sm_inr, zo_0, zo_1, rg_ok, X12_sizeOf hw hp1]
      rw [if_pos (by omega)]
    · rw [if_pos (by omega)]; omega
    · split
      · rfl
      · exact hT2 (by omega)
  | succ m ih =>
    intro f k S T hm hf hS hT1 hT2
    obtain ⟨f', rfl⟩ : ∃ f', f = f' + 1 := ⟨f - 1, by omega⟩
    have hk : k < Gl (rG I) p := by omega
    have hs := hg.2.2.2.2.2 p k hk
    have ek : (k : Int) + 1 = ((k + 1 : Nat) : Int) := by omega
    have hdi := sm_di hg (by decide) (rLn_val hO) (p := p) m (k + 1) (by omega)
    have h8 := ih f' (k + 1)
    -- the symbol's length
    have hd : ∃ x : Int, ((dS (rLn I) (Gs (rG I) p k) = 1000 ∧ x = 101) ∨ (x = (dS (rLn I) (Gs (rG I) p k) : Int) ∧ dS (rLn I) (Gs (rG I) p k) ≤ 100)) ∧ l_X12_findsShort_7 n (f' + 1) 161 (p : Int) (S : Int) (T : Int) (k : Int) (hp u I L) = b_X12_findsShort_47 n (l_X12_findsShort_7 n f') 161 (p : Int) (S : Int) (T : Int) (k : Int) ((Gs (rG I) p k : Nat) : Int) x (hp u I L) := by
      simp (disch := omega) only [l_X12_findsShort_7, b_X12_findsShort_7, hi_M, hG_M_0, hG_M_1, hG_M_2, hG_M_3, hG_M_4, hG_M_5, hG_M_6, hG_M_7, hG_M_8, hg_M_9, hq_M_9, hG_M_10, hG_M_11, hG_M_12, hg_M_13, hq_M_13, hG_M_14, hg_M_15, hq_M_15, hG_M_16, hg_M_17, hq_M_17, hg_M_18, hq_M_18, hG_M_19, hG_M_20, hG_M_21, hG_M_22, hG_M_23, hG_M_24, hg_M_25, hq_M_25, hG_M_26, hG_M_27, hG_M_28, hg_M_29, hq_M_29, hG_M_30, hG_M_31, hg_M_32, hq_M_32, hg_M_33, hq_M_33, hg_M_34, hq_M_34, hg_M_35, hq_M_35, hG_M_36, hG_M_37, hg_M_38, hq_M_38, hg_M_39, hq_M_39, hG_M_40, hG_M_41, hG_M_42, hG_M_43, hg_M_44, hq_M_44, Option.bind_some, nm_eq, sm_inl, sm_inr, zo_0, zo_1, rg_ok, X12_sizeOf hw hp1, X12_symbol hw hk]
      rw [if_neg (by omega)]
      rcases hs with hs | hs
      · rw [if_neg (by omega)]
        exact ⟨1, Or.inr ⟨by unfold dS; rw [if_pos (by omega)]; rfl, by unfold dS; rw [if_pos (by omega)]; decide⟩, rfl⟩
      · rw [if_pos (by omega), show ((Gs (rG I) p k : Nat) : Int) - 16 = ((Gs (rG I) p k - 16 : Nat) : Int) by omega]
        simp (disch := omega) only [ha_178, hs_178, hl_178, Option.bind_some, nm_eq, sm_inl, sm_inr, zo_0, zo_1, Int.toNat_natCast]
        refine ⟨I 178 (Gs (rG I) p k - 16), ?_, rfl⟩
        have h1 := rLn_of hO (a := Gs (rG I) p k - 16) (by omega)
        unfold dS; rw [if_neg (by omega)]
        rcases h1 with h1 | h1
        · exact Or.inl ⟨h1.2, h1.1⟩
        · exact Or.inr h1
    obtain ⟨x, hx, ex⟩ := hd
    rw [ex, sm_succ]
    rcases hx with ⟨x1, x2⟩ | ⟨x1, x2⟩
    · refine Or.inl ⟨?_, ?_⟩
      · exact Nat.le_trans (Nat.le_of_eq x1.symm) (Nat.le_add_right _ _)
      · rw [b_X12_findsShort_47, rg_ok (by omega) (by omega)]
        show (if x ≤ 100 then _ else _) = _
        rw [if_neg (by omega)]
    · have go : ∀ S1 T1 : Nat, S1 = (if S + dS (rLn I) (Gs (rG I) p k) ≤ 100 then S + dS (rLn I) (Gs (rG I) p k) else 100) → T1 = (if S + dS (rLn I) (Gs (rG I) p k) ≤ 20 then T * 8 ^ dS (rLn I) (Gs (rG I) p k) + tS (eR I L) (Gs (rG I) p k) else 0) → (S1 ≤ 20 → T1 < 8 ^ S1) → (S + dS (rLn I) (Gs (rG I) p k) ≤ 20 → dS (ln (eR I L)) (Gs (rG I) p k) = dS (rLn I) (Gs (rG I) p k)) →
          (1000 ≤ dS (rLn I) (Gs (rG I) p k) + sm (rG I) (rLn I) p (k + 1) m ∧ l_X12_findsShort_7 n f' 161 (p : Int) (S1 : Int) (T1 : Int) ((k + 1 : Nat) : Int) (hp u I L) = some (0, hp u I L)) ∨
          (dS (rLn I) (Gs (rG I) p k) + sm (rG I) (rLn I) p (k + 1) m ≤ 100 * (m + 1) ∧ ∃ S' T' : Nat, l_X12_findsShort_7 n f' 161 (p : Int) (S1 : Int) (T1 : Int) ((k + 1 : Nat) : Int) (hp u I L) = b_X12_findsShort_130 n 161 (p : Int) (S' : Int) (T' : Int) (hp u I L) ∧ S' = (if S + (dS (rLn I) (Gs (rG I) p k) + sm (rG I) (rLn I) p (k + 1) m) ≤ 100 then S + (dS (rLn I) (Gs (rG I) p k) + sm (rG I) (rLn I) p (k + 1) m) else 100) ∧ T' = (if S + (dS (rLn I) (Gs (rG I) p k) + sm (rG I) (rLn I) p (k + 1) m) ≤ 20 then cf (rG I) (eR I L) p T k (m + 1) else 0) ∧ (S' ≤ 20 → T' < 8 ^ S')) := by
        intro S1 T1 hS1 hT1' hb hdl
        rcases h8 S1 T1 (by omega) (by omega) (by rw [hS1]; split <;> omega) hb (fun q => by rw [hT1', if_neg (by intro z; rw [if_pos (by omega)] at hS1; omega)]) with ⟨a1, a2⟩ | ⟨a1, S', T', a2, a3, a4, a5⟩
        · exact Or.inl ⟨Nat.le_trans a1 (Nat.le_add_left _ _), a2⟩
        · refine Or.inr ⟨by omega, S', T', a2, ?_, ?_, a5⟩
          · rw [a3, hS1]; repeat' split
            all_goals omega
          · rw [a4]
            by_cases q : S + (dS (rLn I) (Gs (rG I) p k) + sm (rG I) (rLn I) p (k + 1) m) ≤ 20
            · rw [if_pos (by omega)] at hS1 hT1'
              rw [if_pos q, if_pos (by omega), cf_succ, hdl (by omega), hT1']
            · rw [if_neg q, if_neg]
              intro z
              rw [hS1] at z
              split at z <;> omega
      -- the text of the symbol
      have hsy : dS (rLn I) (Gs (rG I) p k) ≤ 20 → tS (eR I L) (Gs (rG I) p k) < 8 ^ dS (rLn I) (Gs (rG I) p k) ∧ dS (ln (eR I L)) (Gs (rG I) p k) = dS (rLn I) (Gs (rG I) p k) := fun q => by
        unfold dS tS at *
        rcases hs with hs | hs
        · rw [if_pos (by omega), if_pos (by omega), if_pos (by omega)]; exact ⟨by omega, rfl⟩
        · rw [if_neg (by omega)] at q
          rw [if_neg (by omega), if_neg (by omega), if_neg (by omega)]
          have h1 := eR_20 hO (a := Gs (rG I) p k - 16) (by omega) q
          exact ⟨h1.2.2, h1.1⟩
      have hbd : S + dS (rLn I) (Gs (rG I) p k) ≤ 20 → T * 8 ^ dS (rLn I) (Gs (rG I) p k) + tS (eR I L) (Gs (rG I) p k) < 8 ^ (S + dS (rLn I) (Gs (rG I) p k)) := fun q => by
        rw [Nat.pow_add]
        calc T * 8 ^ dS (rLn I) (Gs (rG I) p k) + tS (eR I L) (Gs (rG I) p k) < T * 8 ^ dS (rLn I) (Gs (rG I) p k) + 8 ^ dS (rLn I) (Gs (rG I) p k) := Nat.add_lt_add_left (hsy (by omega)).1 _
          _ = (T + 1) * 8 ^ dS (rLn I) (Gs (rG I) p k) := by rw [Nat.add_mul, Nat.one_mul]
          _ ≤ 8 ^ S * 8 ^ dS (rLn I) (Gs (rG I) p k) := Nat.mul_le_mul_right _ (hT1 (by omega))
      have ht : ∀ s0 : Int, s0 = ((if S + dS (rLn I) (Gs (rG I) p k) ≤ 100 then S + dS (rLn I) (Gs (rG I) p k) else 100 : Nat) : Int) →
          b_X12_findsShort_76 n (l_X12_findsShort_7 n f') 161 (p : Int) (T : Int) (k : Int) ((Gs (rG I) p k : Nat) : Int) x s0 (hp u I L) = l_X12_findsShort_7 n f' 161 (p : Int) s0 ((if S + dS (rLn I) (Gs (rG I) p k) ≤ 20 then T * 8 ^ dS (rLn I) (Gs (rG I) p k) + tS (eR I L) (Gs (rG I) p k) else 0 : Nat) : Int) ((k + 1 : Nat) : Int) (hp u I L) := by
        intro s0 hs0
        by_cases q : S + dS (rLn I) (Gs (rG I) p k) ≤ 20
        · rw [if_pos (by omega)] at hs0
          have h60 := p8_le q
          have hb1 := hbd q
          rw [if_pos q, b_X12_findsShort_76, rg_ok (by omega) (by omega)]
          show (if s0 ≤ 20 then _ else _) = _
          rw [if_pos (by omega), rg_ok (by omega) (by omega)]
          show (if (16 : Int) ≤ ((Gs (rG I) p k : Nat) : Int) then _ else _) = _
          rcases hs with hs | hs
          · have d1 : dS (rLn I) (Gs (rG I) p k) = 1 := by unfold dS; rw [if_pos (by omega)]
            have t1 : tS (eR I L) (Gs (rG I) p k) = Gs (rG I) p k := by unfold tS; rw [if_pos (by omega)]
            rw [if_neg (by omega), b_X12_findsShort_123, nm_eq, ek, d1, t1, Nat.pow_one, show (T : Int) * 8 + ((Gs (rG I) p k : Nat) : Int) = ((T * 8 + Gs (rG I) p k : Nat) : Int) by omega]
          · have e16 : ((Gs (rG I) p k : Nat) : Int) - 16 = ((Gs (rG I) p k - 16 : Nat) : Int) := by omega
            have d1 : dS (rLn I) (Gs (rG I) p k) = rLn I (Gs (rG I) p k - 16) := by unfold dS; rw [if_neg (by omega)]
            have t1 : tS (eR I L) (Gs (rG I) p k) = tx (eR I L) (Gs (rG I) p k - 16) := by unfold tS; rw [if_neg (by omega)]
            have h1 := eR_20 hO (a := Gs (rG I) p k - 16) (by omega) (by omega)
            have e2 : gi_aL (hp u I L) 179 ((Gs (rG I) p k - 16 : Nat) : Int) = some (L 179 (Gs (rG I) p k - 16)) := by
              rw [ha_179 (by omega) (by omega), Int.toNat_natCast]
            rw [if_pos (by omega), e16, hG_M_22, Option.bind_some, e2, Option.bind_some, b_X12_findsShort_123, nm_eq, ek, x1, shlL_nat (by omega) (by omega), h1.2.1, ← t1, show ((T * 8 ^ dS (rLn I) (Gs (rG I) p k) : Nat) : Int) + ((tS (eR I L) (Gs (rG I) p k) : Nat) : Int) = ((T * 8 ^ dS (rLn I) (Gs (rG I) p k) + tS (eR I L) (Gs (rG I) p k) : Nat) : Int) by omega]
        · have hs1 : 20 < s0 ∧ s0 ≤ 100 := by rw [hs0]; split <;> omega
          rw [if_neg q, b_X12_findsShort_76, rg_ok (by omega) (by omega)]
          show (if s0 ≤ 20 then _ else _) = _
          rw [if_neg (by omega), b_X12_findsShort_123, nm_eq, ek]
          rfl
      have eb : b_X12_findsShort_47 n (l_X12_findsShort_7 n f') 161 (p : Int) (S : Int) (T : Int) (k : Int) ((Gs (rG I) p k : Nat) : Int) x (hp u I L) = l_X12_findsShort_7 n f' 161 (p : Int) ((if S + dS (rLn I) (Gs (rG I) p k) ≤ 100 then S + dS (rLn I) (Gs (rG I) p k) else 100 : Nat) : Int) ((if S + dS (rLn I) (Gs (rG I) p k) ≤ 20 then T * 8 ^ dS (rLn I) (Gs (rG I) p k) + tS (eR I L) (Gs (rG I) p k) else 0 : Nat) : Int) ((k + 1 : Nat) : Int) (hp u I L) := by
        rw [b_X12_findsShort_47, rg_ok (by omega) (by omega)]
        show (if x ≤ 100 then _ else _) = _
        rw [if_pos (by omega), rg_ok (by omega) (by omega)]
        show (if (S : Int) + x ≤ 100 then _ else _) = _
        by_cases q : S + dS (rLn I) (Gs (rG I) p k) ≤ 100
        · have h : (S : Int) + x = ((if S + dS (rLn I) (Gs (rG I) p k) ≤ 100 then S + dS (rLn I) (Gs (rG I) p k) else 100 : Nat) : Int) := by rw [if_pos q]; omega
          rw [if_pos (by omega), ht _ h, h]
        · have h : (100 : Int) = ((if S + dS (rLn I) (Gs (rG I) p k) ≤ 100 then S + dS (rLn I) (Gs (rG I) p k) else 100 : Nat) : Int) := by rw [if_neg q]; rfl
          rw [if_neg (by omega), ht _ h, ← h]
      rw [eb]
      refine go _ _ rfl rfl (fun z => ?_) (fun q => (hsy (by omega)).2)
      have q : S + dS (rLn I) (Gs (rG I) p k) ≤ 20 := by split at z <;> omega
      rw [if_pos q, if_pos (by omega)]
      exact hbd q
end RF
