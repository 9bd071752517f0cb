/-! ===== the reference: findsShort, one production ===== -/
def rBL (g : GT) (I L : Nat → Nat → Int) : Prop := rOk I L ∧ (∀ d, vald 100 d → clD 100 g d → ∀ a, a < 16 → d a ≤ rLn I a) ∧ ∀ f, vJ f → clJ g f → ∀ a, a < 16 → f a ≤ eR I L a
def rcp (g : GT) (I L : Nat → Nat → Int) (p : Nat) : Prop := rLn I (Go g p) ≤ tc 100 (sm g (rLn I) p 0 (Gl g p)) ∧ eR I L (Go g p) ≤ cJ g (eR I L) p
def rMs (I L : Nat → Nat → Int) : Nat := sD (fun a => (I 178 a).toNat * 1152921504606846976 + (L 179 a).toNat) 16
section RG
variable {u : Nat} {n : Nat}
theorem X12_sh_130 {I L : Nat → Nat → Int} (hw : RW I) (hO : rOk I L) {p : Nat} (hp1 : p < Gn (rG I)) {S T : Nat} (hS : S ≤ 100) (hT : T < 1152921504606846976) :
    (((S : Int) < I 178 (Go (rG I) p) ∨ ((S : Int) = I 178 (Go (rG I) p) ∧ (T : Int) < L 179 (Go (rG I) p))) ∧ b_X12_findsShort_130 n 161 (p : Int) (S : Int) (T : Int) (hp u I L) = some (1, hp u (gx_u I 178 (Go (rG I) p) (S : Int)) (gx_u L 179 (Go (rG I) p) (T : Int)))) ∨
    (¬ ((S : Int) < I 178 (Go (rG I) p) ∨ ((S : Int) = I 178 (Go (rG I) p) ∧ (T : Int) < L 179 (Go (rG I) p))) ∧ b_X12_findsShort_130 n 161 (p : Int) (S : Int) (T : Int) (hp u I L) = some (0, hp u I L)) := by
  have hg := GR_r hw
  have ho := hg.2.2.1 p
  have h1 := hO _ ho
  have hlt : (L 179 (Go (rG I) p)).toNat < 1152921504606846976 := by
    by_cases q : I 178 (Go (rG I) p) ≤ 20
    · have h2 := h1.2.2.1 q
      have h3 := rLn_of hO ho
      have h4 := p8_le (l := rLn I (Go (rG I) p)) (by omega)
      omega
    · have := h1.2.2.2 (by omega); omega
  have a1 : gi_aI (hp u I L) 1 178 ((Go (rG I) p : Nat) : Int) = some (I 178 (Go (rG I) p)) := by
    rw [ha_178 (by omega) (by omega), Int.toNat_natCast]
  have a2 : gi_aL (hp u I L) 179 ((Go (rG I) p : Nat) : Int) = some (L 179 (Go (rG I) p)) := by
    rw [ha_179 (by omega) (by omega), Int.toNat_natCast]
  have yes : b_X12_findsShort_171 n 161 (S : Int) (T : Int) ((Go (rG I) p : Nat) : Int) (hp u I L) = some (1, hp u (gx_u I 178 (Go (rG I) p) (S : Int)) (gx_u L 179 (Go (rG I) p) (T : Int))) := by
    simp (disch := omega) only [b_X12_findsShort_171, b_X12_findsShort_176, hi_M, hG_M_0, hG_M_1, hG_M_2, hG_M_3, hG_M_4, hG_M_5, hG_M_6, hG_M_7, hG_M_8, hg_M_9, hq_M_9, hG_M_10, hG_M_11, hG_M_12, hg_M_13, hq_M_13, hG_M_14, hg_M_15, hq_M_15, hG_M_16, hg_M_17, hq_M_17, hg_M_18, hq_M_18, hG_M_19, hG_M_20, hG_M_21, hG_M_22, hG_M_23, hG_M_24, hg_M_25, hq_M_25, hG_M_26, hG_M_27, hG_M_28, hg_M_29, hq_M_29, hG_M_30, hG_M_31, hg_M_32, hq_M_32, hg_M_33, hq_M_33, hg_M_34, hq_M_34, hg_M_35, hq_M_35, hG_M_36, hG_M_37, hg_M_38, hq_M_38, hg_M_39, hq_M_39, hG_M_40, hG_M_41, hG_M_42, hG_M_43, hg_M_44, hq_M_44, Option.bind_some, nm_eq, sm_inl, sm_inr, zo_0, zo_1, rg_ok]
    rw [if_neg (by decide)]
    simp (disch := omega) only [b_X12_findsShort_200, hi_M, hG_M_0, hG_M_1, hG_M_2, hG_M_3, hG_M_4, hG_M_5, hG_M_6, hG_M_7, hG_M_8, hg_M_9, hq_M_9, hG_M_10, hG_M_11, hG_M_12, hg_M_13, hq_M_13, hG_M_14, hg_M_15, hq_M_15, hG_M_16, hg_M_17, hq_M_17, hg_M_18, hq_M_18, hG_M_19, hG_M_20, hG_M_21, hG_M_22, hG_M_23, hG_M_24, hg_M_25, hq_M_25, hG_M_26, hG_M_27, hG_M_28, hg_M_29, hq_M_29, hG_M_30, hG_M_31, hg_M_32, hq_M_32, hg_M_33, hq_M_33, hg_M_34, hq_M_34, hg_M_35, hq_M_35, hG_M_36, hG_M_37, hg_M_38, hq_M_38, hg_M_39, hq_M_39, hG_M_40, hG_M_41, hG_M_42, hG_M_43, hg_M_44, hq_M_44, ha_178, hs_178, hl_178, Option.bind_some, nm_eq, sm_inl, sm_inr, zo_0, zo_1, rg_ok, Int.toNat_natCast]
    rw [if_neg (by decide)]
    simp (disch := omega) only [b_X12_findsShort_223, hi_M, hG_M_0, hG_M_1, hG_M_2, hG_M_3, hG_M_4, hG_M_5, hG_M_6, hG_M_7, hG_M_8, hg_M_9, hq_M_9, hG_M_10, hG_M_11, hG_M_12, hg_M_13, hq_M_13, hG_M_14, hg_M_15, hq_M_15, hG_M_16, hg_M_17, hq_M_17, hg_M_18, hq_M_18, hG_M_19, hG_M_20, hG_M_21, hG_M_22, hG_M_23, hG_M_24, hg_M_25, hq_M_25, hG_M_26, hG_M_27, hG_M_28, hg_M_29, hq_M_29, hG_M_30, hG_M_31, hg_M_32, hq_M_32, hg_M_33, hq_M_33, hg_M_34, hq_M_34, hg_M_35, hq_M_35, hG_M_36, hG_M_37, hg_M_38, hq_M_38, hg_M_39, hq_M_39, hG_M_40, hG_M_41, hG_M_42, hG_M_43, hg_M_44, hq_M_44, ha_179, hs_179, hl_179, Option.bind_some, nm_eq, sm_inl, sm_inr, zo_0, zo_1, rg_ok, Int.toNat_natCast]
  have no : b_X12_findsShort_175 n 161 (S : Int) (T : Int) ((Go (rG I) p : Nat) : Int) (hp u I L) = some (0, hp u I L) := by
    simp (disch := omega) only [b_X12_findsShort_175, b_X12_findsShort_176, hi_M, hG_M_0, hG_M_1, hG_M_2, hG_M_3, hG_M_4, hG_M_5, hG_M_6, hG_M_7, hG_M_8, hg_M_9, hq_M_9, hG_M_10, hG_M_11, hG_M_12, hg_M_13, hq_M_13, hG_M_14, hg_M_15, hq_M_15, hG_M_16, hg_M_17, hq_M_17, hg_M_18, hq_M_18, hG_M_19, hG_M_20, hG_M_21, hG_M_22, hG_M_23, hG_M_24, hg_M_25, hq_M_25, hG_M_26, hG_M_27, hG_M_28, hg_M_29, hq_M_29, hG_M_30, hG_M_31, hg_M_32, hq_M_32, hg_M_33, hq_M_33, hg_M_34, hq_M_34, hg_M_35, hq_M_35, hG_M_36, hG_M_37, hg_M_38, hq_M_38, hg_M_39, hq_M_39, hG_M_40, hG_M_41, hG_M_42, hG_M_43, hg_M_44, hq_M_44, Option.bind_some, nm_eq, sm_inl, sm_inr, zo_0, zo_1, rg_ok]
    rw [if_pos trivial, a1]
    simp (disch := omega) only [b_X12_findsShort_200, hi_M, hG_M_0, hG_M_1, hG_M_2, hG_M_3, hG_M_4, hG_M_5, hG_M_6, hG_M_7, hG_M_8, hg_M_9, hq_M_9, hG_M_10, hG_M_11, hG_M_12, hg_M_13, hq_M_13, hG_M_14, hg_M_15, hq_M_15, hG_M_16, hg_M_17, hq_M_17, hg_M_18, hq_M_18, hG_M_19, hG_M_20, hG_M_21, hG_M_22, hG_M_23, hG_M_24, hg_M_25, hq_M_25, hG_M_26, hG_M_27, hG_M_28, hg_M_29, hq_M_29, hG_M_30, hG_M_31, hg_M_32, hq_M_32, hg_M_33, hq_M_33, hg_M_34, hq_M_34, hg_M_35, hq_M_35, hG_M_36, hG_M_37, hg_M_38, hq_M_38, hg_M_39, hq_M_39, hG_M_40, hG_M_41, hG_M_42, hG_M_43, hg_M_44, hq_M_44, ha_178, hs_178, hl_178, Option.bind_some, nm_eq, sm_inl, sm_inr, zo_0, zo_1, rg_ok, Int.toNat_natCast, gu_id]
    rw [if_pos trivial, a2]
    simp (disch := omega) only [b_X12_findsShort_223, hi_M, hG_M_0, hG_M_1, hG_M_2, hG_M_3, hG_M_4, hG_M_5, hG_M_6, hG_M_7, hG_M_8, hg_M_9, hq_M_9, hG_M_10, hG_M_11, hG_M_12, hg_M_13, hq_M_13, hG_M_14, hg_M_15, hq_M_15, hG_M_16, hg_M_17, hq_M_17, hg_M_18, hq_M_18, hG_M_19, hG_M_20, hG_M_21, hG_M_22, hG_M_23, hG_M_24, hg_M_25, hq_M_25, hG_M_26, hG_M_27, hG_M_28, hg_M_29, hq_M_29, hG_M_30, hG_M_31, hg_M_32, hq_M_32, hg_M_33, hq_M_33, hg_M_34, hq_M_34, hg_M_35, hq_M_35, hG_M_36, hG_M_37, hg_M_38, hq_M_38, hg_M_39, hq_M_39, hG_M_40, hG_M_41, hG_M_42, hG_M_43, hg_M_44, hq_M_44, ha_179, hs_179, hl_179, Option.bind_some, nm_eq, sm_inl, sm_inr, zo_0, zo_1, rg_ok, Int.toNat_natCast, gu_id]
  have hc := cmp_rg (T : Int) (L 179 (Go (rG I) p))
  rw [b_X12_findsShort_130, hi_M, Option.bind_some, X12_lead hw hp1, Option.bind_some, hG_M_21, Option.bind_some, a1, Option.bind_some, rg_ok (by omega) (by omega), Option.bind_some, rg_ok (by omega) (by omega), Option.bind_some]
  by_cases q1 : (S : Int) < I 178 (Go (rG I) p)
  · rw [if_pos q1]; exact Or.inl ⟨Or.inl q1, yes⟩
  · rw [if_neg q1, Option.bind_some, a1, Option.bind_some, rg_ok (by omega) (by omega), Option.bind_some]
    by_cases q2 : (S : Int) = I 178 (Go (rG I) p)
    · rw [if_pos q2, hG_M_22, Option.bind_some, a2, Option.bind_some, rgL_ok (by omega) (by omega), Option.bind_some, rgL_ok (by omega) (by omega), Option.bind_some, rg_ok (by omega) (by omega), Option.bind_some]
      by_cases q3 : (T : Int) < L 179 (Go (rG I) p)
      · rw [if_neg (by have := cmp_lt.mpr q3; omega)]; exact Or.inl ⟨Or.inr ⟨q2, q3⟩, yes⟩
      · rw [if_pos (by have := mt cmp_lt.mp q3; omega)]
        exact Or.inr ⟨by rintro (z | z); · exact q1 z
                         · exact q3 z.2, no⟩
    · rw [if_neg q2]
      exact Or.inr ⟨by rintro (z | z); · exact q1 z
                       · exact q2 z.1, no⟩
end RG
