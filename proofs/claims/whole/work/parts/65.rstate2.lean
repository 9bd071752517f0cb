/-! ===== the reference: states; the class: table ===== -/
def RADn (g : GT) (b : Bool) (J : Nat → Nat → Int) : Prop := J 161 (mF b) = 0 ∨ (J 161 (mF b) = 1 ∧ J 161 33 = 1 ∧ RAT g b J ∧ NU g J)
/-- the reference's grammar and what it keeps of it -/
def RST (g : GT) (J L : Nat → Nat → Int) : Prop := RE g J ∧ RFD g J L ∧ RADn g true J ∧ RADn g false J
/-- the cells that its finding and making change -/
def RSL : List Nat := [161, 176, 177, 178, 179, 180, 181, 182, 183, 184, 185, 186]
def RSK (J0 J : Nat → Nat → Int) : Prop := ∀ k, k ≠ 18 → k ≠ 25 → k ≠ 29 → k ≠ 32 → k ≠ 33 → k ≠ 34 → k ≠ 35 → J 161 k = J0 161 k
theorem RADn.ad {g : GT} {b : Bool} {J : Nat → Nat → Int} (h : RADn g b J) : RAD g b J := h.elim Or.inl (fun z => Or.inr ⟨z.1, z.2.2.1⟩)
theorem RST.fr {g : GT} {l : List Nat} {J L J' L' : Nat → Nat → Int} (h : RST g J L) (f : Fr l J J') (q : ∀ a, a ∈ RSL ++ [162, 163, 164, 165, 170] → a ≠ 161 → a ∉ l) (h9 : ∀ k, k = 9 ∨ k = 18 ∨ k = 25 ∨ k = 29 ∨ k = 32 ∨ k = 33 ∨ k = 34 ∨ k = 35 → J' 161 k = J 161 k) (hL : L' 179 = L 179) : RST g J' L' := by
  obtain ⟨a1, a2, a3, a4⟩ := h
  have e : ∀ a, a ∈ RSL ++ [162, 163, 164, 165, 170] → a ≠ 161 → J' a = J a := fun a ha hb => f a (q a ha hb)
  have hNU : NU g J → NU g J' := fun u => u.fr (e 181 (by decide) (by decide)) (h9 25 (by omega))
  have hF : rF g J L → rF g J' L' := fun z => rF_fr (e 176 (by decide) (by decide)) (e 177 (by decide) (by decide)) (e 178 (by decide) (by decide)) (e 180 (by decide) (by decide)) (h9 18 (by omega)) hL z
  have hA : ∀ b, RADn g b J → RADn g b J' := fun b z => by
    have e1 : J' 161 (mF b) = J 161 (mF b) := h9 _ (by cases b <;> simp [mF])
    have e2 : J' 161 (mS b) = J 161 (mS b) := h9 _ (by cases b <;> simp [mS])
    have e3 : J' (mA b) = J (mA b) := e _ (by cases b <;> decide) (by cases b <;> decide)
    have e4 : J' (mG b) = J (mG b) := e _ (by cases b <;> decide) (by cases b <;> decide)
    rcases z with z | ⟨z1, z2, z3, z4⟩
    · exact Or.inl (e1.trans z)
    · exact Or.inr ⟨e1.trans z1, (h9 33 (by omega)).trans z2, z3.fr e2 e3 e4, hNU z4⟩
  refine ⟨⟨?_, ?_⟩, a2.elim (fun z => Or.inl ((h9 33 (by omega)).trans z)) (fun z => Or.inr ⟨(h9 33 (by omega)).trans z.1, hF z.2⟩), hA _ a3, hA _ a4⟩
  · obtain ⟨w1, w2, w3, w4, w5, w6⟩ := a1.1
    unfold RW
    rw [h9 9 (by omega), e 165 (by decide) (by decide), e 163 (by decide) (by decide), e 162 (by decide) (by decide), e 164 (by decide) (by decide), e 170 (by decide) (by decide)]
    exact ⟨w1, w2, w3, w4, w5, w6⟩
  · rw [← a1.2]
    have e9 : rw9 J' = rw9 J := by unfold rw9; rw [h9 9 (by omega)]
    unfold rG rGw
    rw [e9, e 165 (by decide) (by decide), e 163 (by decide) (by decide), e 162 (by decide) (by decide), e 164 (by decide) (by decide), e 170 (by decide) (by decide)]
section ST2
variable {u : Nat} {n : Nat} {L : Nat → Nat → Int} {g : GT}
theorem RST.found (hn : 1000000000000000000000000000000 ≤ n) {J0 : Nat → Nat → Int} (h : RST g J0 L) :
    ∃ J K : Nat → Nat → Int, f_X12_finds n 161 (hp u J0 L) = some (hp u J K) ∧ Fr RSL J0 J ∧ Fr RSL L K ∧ RSK J0 J ∧ RST g J K ∧ J 161 33 = 1 ∧ rF g J K ∧ RE g J ∧ (NU g J0 → NU g J) ∧ (∀ b, RAT g b J0 → RAT g b J) ∧ ∀ k, k = 34 ∨ k = 35 → J 161 k = J0 161 k := by
  obtain ⟨w, hF, h1, h2⟩ := h
  obtain ⟨J, K, e, f, fk, q, q33, hF', wJ⟩ := X12_found (u := u) hn w hF
  have hN : NU g J0 → NU g J := fun z => z.fr (f 181 (by decide)) (q 25 (by decide) (by decide))
  have hR : ∀ b, RAT g b J0 → RAT g b J := fun b z => z.fr (q _ (by cases b <;> decide) (by cases b <;> decide)) (f _ (by cases b <;> decide)) (f _ (by cases b <;> decide))
  have hA : ∀ b, RADn g b J0 → RADn g b J := fun b z => by
    have e1 : J 161 (mF b) = J0 161 (mF b) := q _ (by cases b <;> decide) (by cases b <;> decide)
    rcases z with z | ⟨z1, z2, z3, z4⟩
    · exact Or.inl (e1.trans z)
    · exact Or.inr ⟨e1.trans z1, q33, hR b z3, hN z4⟩
  exact ⟨J, K, e, f.up (fun a z => by simp at z; simp [RSL]; omega), fk.up (fun a z => by simp at z; simp [RSL]; omega), fun k h1 h2 h3 h4 h5 h6 h7 => q k h1 h5, ⟨wJ, Or.inr ⟨q33, hF'⟩, hA _ h1, hA _ h2⟩, q33, hF', wJ, hN, hR, fun k hk => q k (by omega) (by omega)⟩
theorem RST.whole (hn : 1000000000000000000000000000000 ≤ n) {J0 : Nat → Nat → Int} (h : RST g J0 L) :
    ∃ J K : Nat → Nat → Int, f_X12_wholes n 161 (hp u J0 L) = some (hp u J K) ∧ Fr RSL J0 J ∧ Fr RSL L K ∧ RSK J0 J ∧ RST g J K ∧ RAT g false J ∧ NU g J ∧ J 161 33 = 1 ∧ rF g J K := by
  obtain ⟨w, hF, h1, h2⟩ := h
  obtain ⟨J, K, e, f, fk, q, q35, wJ, hR, hc⟩ := X12_wholes (u := u) hn w hF h2.ad
  have hall : J 161 33 = 1 ∧ rF g J K ∧ NU g J := by
    rcases hc with z | ⟨z1, z2⟩
    · exact z
    · have q35' : J0 161 35 = 1 := by rw [← z1]; exact q35
      rcases h2 with y | ⟨-, y1, -, y2⟩
      · have y' : J0 161 35 = 0 := y
        omega
      · rw [z1, z2]
        refine ⟨y1, ?_, y2⟩
        rcases hF with x | x
        · omega
        · exact x.2
  refine ⟨J, K, e, f.up (fun a z => by simp at z; simp [RSL]; omega), fk.up (fun a z => by simp at z; simp [RSL]; omega), fun k h1 h2 h3 h4 h5 h6 h7 => q k h1 h5 h2 h4 h7, ⟨wJ, Or.inr ⟨hall.1, hall.2.1⟩, ?_, Or.inr ⟨q35, hall.1, hR, hall.2.2⟩⟩, hR, hall.2.2, hall.1, hall.2.1⟩
  have e34 : J 161 34 = J0 161 34 := q 34 (by decide) (by decide) (by decide) (by decide) (by decide)
  have e29 : J 161 29 = J0 161 29 := q 29 (by decide) (by decide) (by decide) (by decide) (by decide)
  rcases h1 with z | ⟨z1, z2, z3, z4⟩
  · exact Or.inl (e34.trans z)
  · exact Or.inr ⟨e34.trans z1, hall.1, z3.fr e29 (f 183 (by decide)) (f 184 (by decide)), hall.2.2⟩
theorem RST.numb (hn : 1000000000000000000000000000000 ≤ n) {J0 : Nat → Nat → Int} (h : RST g J0 L) :
    ∃ J : Nat → Nat → Int, f_X12_numbers n 161 (hp u J0 L) = some (hp u J L) ∧ Fr RSL J0 J ∧ RSK J0 J ∧ (∀ k, k ≠ 25 → J 161 k = J0 161 k) ∧ RST g J L ∧ NU g J ∧ (∀ b, RAT g b J0 → RAT g b J) ∧ (rF g J0 L → rF g J L) := by
  obtain ⟨w, hF, h1, h2⟩ := h
  obtain ⟨J, e, f, q, hN⟩ := X12_numbers (u := u) (L := L) hn w
  have hR : ∀ b, RAT g b J0 → RAT g b J := fun b z => z.fr (q _ (by cases b <;> decide)) (f _ (by cases b <;> decide)) (f _ (by cases b <;> decide))
  have hF' : rF g J0 L → rF g J L := rF_fr (f 176 (by decide)) (f 177 (by decide)) (f 178 (by decide)) (f 180 (by decide)) (q 18 (by decide)) rfl
  have hA : ∀ b, RADn g b J0 → RADn g b J := fun b z => by
    have e1 : J 161 (mF b) = J0 161 (mF b) := q _ (by cases b <;> decide)
    rcases z with z | ⟨z1, z2, z3, z4⟩
    · exact Or.inl (e1.trans z)
    · exact Or.inr ⟨e1.trans z1, (q 33 (by decide)).trans z2, hR b z3, hN⟩
  exact ⟨J, e, f.up (fun a z => by simp at z; simp [RSL]; omega), fun k _ h2 _ _ _ _ _ => q k h2, q, ⟨w.fr f (q 9 (by decide)) (by decide), hF.elim (fun z => Or.inl ((q 33 (by decide)).trans z)) (fun z => Or.inr ⟨(q 33 (by decide)).trans z.1, hF' z.2⟩), hA _ h1, hA _ h2⟩, hN, hR, hF'⟩
theorem RST.merge (hn : 1000000000000000000000000000000 ≤ n) {J0 : Nat → Nat → Int} (h : RST g J0 L) :
    ∃ J K : Nat → Nat → Int, f_X12_merges n 161 (hp u J0 L) = some (hp u J K) ∧ Fr RSL J0 J ∧ Fr RSL L K ∧ RSK J0 J ∧ RE g J ∧ RFD g J K ∧ RAT g true J ∧ J 161 34 = 1 ∧ J 161 32 = J0 161 32 ∧ J 161 35 = J0 161 35 ∧ (RAT g false J0 → RAT g false J) := by
  obtain ⟨w, hF, h1, h2⟩ := h
  obtain ⟨J, K, e, f, fk, q, q34, wJ, hR, hF'⟩ := X12_merges (u := u) hn w hF h1.ad
  have e32 : J 161 32 = J0 161 32 := q 32 (by decide) (by decide) (by decide) (by decide) (by decide)
  exact ⟨J, K, e, f.up (fun a z => by simp at z; simp [RSL]; omega), fk.up (fun a z => by simp at z; simp [RSL]; omega), fun k h1 h2 h3 h4 h5 h6 h7 => q k h1 h5 h2 h3 h6, wJ, hF', hR, q34, e32, q 35 (by decide) (by decide) (by decide) (by decide) (by decide), fun z => z.fr e32 (f 185 (by decide)) (f 186 (by decide))⟩
def kb (kd : Nat) : Bool := if kd = 3 then false else true
theorem X12_states (hn : 1000000000000000000000000000000 ≤ n) {J0 : Nat → Nat → Int} (h : RST g J0 L) {kd : Nat} (hk : 1 ≤ kd ∧ kd ≤ 3) :
    ∃ J K : Nat → Nat → Int, f_X12_states n 161 (kd : Int) (hp u J0 L) = some (J 161 (mS (kb kd)), hp u J K) ∧ Fr RSL J0 J ∧ Fr RSL L K ∧ RSK J0 J ∧ RST g J K ∧ RAT g (kb kd) J ∧ NU g J ∧ J 161 33 = 1 ∧ rF g J K := by
  by_cases c : kd = 3
  · subst c
    obtain ⟨J, K, e, f1, f2, f3, f4, f5, f6, f7, f8⟩ := RST.whole (u := u) hn h
    refine ⟨J, K, ?_, f1, f2, f3, f4, f5, f6, f7, f8⟩
    simp (disch := omega) only [f_X12_states, ↓dhi_M, ↓dhG_M_0, ↓dhG_M_1, ↓dhG_M_2, ↓dhG_M_3, ↓dhG_M_4, ↓dhG_M_5, ↓dhG_M_6, ↓dhG_M_7, ↓dhG_M_8, ↓dhg_M_9, ↓dhq_M_9, ↓dhG_M_10, ↓dhG_M_11, ↓dhG_M_12, ↓dhg_M_13, ↓dhq_M_13, ↓dhG_M_14, ↓dhg_M_15, ↓dhq_M_15, ↓dhG_M_16, ↓dhg_M_17, ↓dhq_M_17, ↓dhg_M_18, ↓dhq_M_18, ↓dhG_M_19, ↓dhG_M_20, ↓dhG_M_21, ↓dhG_M_22, ↓dhG_M_23, ↓dhG_M_24, ↓dhg_M_25, ↓dhq_M_25, ↓dhG_M_26, ↓dhG_M_27, ↓dhG_M_28, ↓dhg_M_29, ↓dhq_M_29, ↓dhG_M_30, ↓dhG_M_31, ↓dhg_M_32, ↓dhq_M_32, ↓dhg_M_33, ↓dhq_M_33, ↓dhg_M_34, ↓dhq_M_34, ↓dhg_M_35, ↓dhq_M_35, ↓dhG_M_36, ↓dhG_M_37, ↓dhg_M_38, ↓dhq_M_38, ↓dhg_M_39, ↓dhq_M_39, ↓dhG_M_40, ↓dhG_M_41, ↓dhG_M_42, ↓dhG_M_43, ↓dhg_M_44, ↓dhq_M_44, Option.bind_some, ↓nm_eq, ↓sm_inl, ↓sm_inr, ↓dzo_0, ↓dzo_1, ↓drg_ok, ↓if_pos, ↓if_neg, if_pos, if_neg, if_true, if_false, Int.toNat_natCast, rg_ok, ↓bnd e]
    rfl
  · have hb : kb kd = true := if_neg c
    rw [hb]
    obtain ⟨J1, K1, e1, f1, k1, q1, w1, hF1, hR1, h34, h32, h35, hRf⟩ := RST.merge (u := u) hn h
    -- what is found
    obtain ⟨J2, K2, e2, f2, fk2, q2, q33, hF2, w2⟩ := X12_found (u := u) hn w1 hF1
    obtain ⟨J3, e3, f3, q3, hN3⟩ := X12_numbers (u := u) (L := K2) hn w2
    have w3 : RE g J3 := w2.fr f3 (q3 9 (by decide)) (by decide)
    have hF3 : rF g J3 K2 := rF_fr (f3 176 (by decide)) (f3 177 (by decide)) (f3 178 (by decide)) (f3 180 (by decide)) (q3 18 (by decide)) rfl hF2
    have h33 : J3 161 33 = 1 := (q3 33 (by decide)).trans q33
    have ef : ∀ k, k ≠ 18 → k ≠ 33 → k ≠ 25 → J3 161 k = J1 161 k := fun k a1 a2 a3 => (q3 k a3).trans (q2 k a1 a2)
    have ea : ∀ a, a ∈ [183, 184, 185, 186] → J3 a = J1 a := fun a ha => by
      rw [f3 a (by simp at ha ⊢; omega), f2 a (by simp at ha ⊢; omega)]
    have hR3 : RAT g true J3 := hR1.fr (ef 29 (by decide) (by decide) (by decide)) (ea 183 (by decide)) (ea 184 (by decide))
    refine ⟨J3, K2, ?_, (f1.tr (f2.up (fun a z => by simp at z; simp [RSL]; omega))).tr (f3.up (fun a z => by simp at z; simp [RSL]; omega)), k1.tr (fk2.up (fun a z => by simp at z; simp [RSL]; omega)), fun k a1 a2 a3 a4 a5 a6 a7 => (ef k a1 a5 a2).trans (q1 k a1 a2 a3 a4 a5 a6 a7), ⟨w3, Or.inr ⟨h33, hF3⟩, Or.inr ⟨(ef 34 (by decide) (by decide) (by decide)).trans h34, h33, hR3, hN3⟩, ?_⟩, hR3, hN3, h33, hF3⟩
    · simp (disch := omega) only [f_X12_states, ↓dhi_M, ↓dhG_M_0, ↓dhG_M_1, ↓dhG_M_2, ↓dhG_M_3, ↓dhG_M_4, ↓dhG_M_5, ↓dhG_M_6, ↓dhG_M_7, ↓dhG_M_8, ↓dhg_M_9, ↓dhq_M_9, ↓dhG_M_10, ↓dhG_M_11, ↓dhG_M_12, ↓dhg_M_13, ↓dhq_M_13, ↓dhG_M_14, ↓dhg_M_15, ↓dhq_M_15, ↓dhG_M_16, ↓dhg_M_17, ↓dhq_M_17, ↓dhg_M_18, ↓dhq_M_18, ↓dhG_M_19, ↓dhG_M_20, ↓dhG_M_21, ↓dhG_M_22, ↓dhG_M_23, ↓dhG_M_24, ↓dhg_M_25, ↓dhq_M_25, ↓dhG_M_26, ↓dhG_M_27, ↓dhG_M_28, ↓dhg_M_29, ↓dhq_M_29, ↓dhG_M_30, ↓dhG_M_31, ↓dhg_M_32, ↓dhq_M_32, ↓dhg_M_33, ↓dhq_M_33, ↓dhg_M_34, ↓dhq_M_34, ↓dhg_M_35, ↓dhq_M_35, ↓dhG_M_36, ↓dhG_M_37, ↓dhg_M_38, ↓dhq_M_38, ↓dhg_M_39, ↓dhq_M_39, ↓dhG_M_40, ↓dhG_M_41, ↓dhG_M_42, ↓dhG_M_43, ↓dhg_M_44, ↓dhq_M_44, Option.bind_some, ↓nm_eq, ↓sm_inl, ↓sm_inr, ↓dzo_0, ↓dzo_1, ↓drg_ok, ↓if_pos, ↓if_neg, if_pos, if_neg, if_true, if_false, Int.toNat_natCast, rg_ok, ↓bnd e1, ↓bnd e2, ↓bnd e3]
      rfl
    · have e35 : J3 161 35 = J0 161 35 := (ef 35 (by decide) (by decide) (by decide)).trans h35
      rcases h.2.2.2 with z | ⟨z1, z2, z3, z4⟩
      · exact Or.inl (e35.trans z)
      · exact Or.inr ⟨e35.trans z1, h33, (hRf z3).fr (ef 32 (by decide) (by decide) (by decide)) (ea 185 (by decide)) (ea 186 (by decide)), hN3⟩
end ST2
