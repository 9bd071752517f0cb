/-! ===== calls: the shortest sentence ===== -/
theorem sent_c {g : GT} {u : Nat} {J L : Nat → Nat → Int} (hF : cF g J L) {a v : Nat} (ha : a < 16) (h1 : J 68 (16 + a) ≤ 20) (h2 : (v : Int) < J 68 (16 + a)) : ∃ k d : Nat, k ≤ 20 ∧ (k : Int) = J 68 (16 + a) - 1 - v ∧ (∃ e, grJ g e ∧ d = tx e a ∧ ln e a = cLe J a) ∧ f_X3_spelled 64 (a : Int) (v : Int) (hp u J L) = some ((d / 8 ^ k % 8 : Nat) : Int) ∧ cLe J a ≤ 20 := by
  obtain ⟨e, q1, q2, q3⟩ := hF.2.2.2.2.2.2.2.2.1
  have hl : cLe J a = (J 68 (16 + a)).toNat := by unfold cLe; rw [if_neg (by omega)]
  have hl2 : cLe J a ≤ 20 := by omega
  have hd := q3 a ha hl2
  have hln := q2 a ha
  rw [if_neg (by omega), if_pos (by omega)] at hln
  obtain ⟨k, hk⟩ : ∃ k : Nat, (k : Int) = J 68 (16 + a) - 1 - v := ⟨(J 68 (16 + a) - 1 - v).toNat, by omega⟩
  have el := X3_least (u := u) (L := L) (J := J) ha
  have hb : tx e a < 9223372036854775808 := by have : tx e a < 1152921504606846976 := Nat.mod_lt _ (by decide); omega
  have es : gi_shrL (L 69 (16 + a)) (3 * (k : Int)) = ((tx e a / 8 ^ k : Nat) : Int) := by rw [hd]; exact shrL_nat (by omega) hb
  have e16 : ((16 : Int) + (a : Int)).toNat = 16 + a := by omega
  refine ⟨k, tx e a, by omega, hk, ⟨e, q1, rfl, hln⟩, ?_, hl2⟩
  simp (disch := omega) only [f_X3_spelled, ↓dhi_F, ↓dhG_F_0, ↓dhg_F_1, ↓dhq_F_1, ↓dhg_F_2, ↓dhq_F_2, ↓dhg_F_3, ↓dhq_F_3, ↓dhg_F_4, ↓dhq_F_4, ↓dhG_F_5, ↓dhG_F_6, ↓dhG_F_7, ↓dhG_F_8, ↓dhG_F_9, ↓dhg_F_10, ↓dhq_F_10, ↓dhG_F_11, ↓dhG_F_12, ↓dhG_F_13, ↓dha_69, ↓dhs_69, ↓dhl_69, Option.bind_some, ↓nm_eq, ↓sm_inl, ↓sm_inr, ↓dzo_0, ↓dzo_1, ↓drg_ok, ↓if_pos, ↓if_neg, if_pos, if_neg, if_true, if_false, Int.toNat_natCast, rg_ok, ↓bnd el, ← hk, e16, es, and7]
