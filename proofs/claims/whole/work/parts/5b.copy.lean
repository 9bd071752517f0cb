/-! ===== texts: the reference's fault; copies with other names ===== -/
section TB
variable {u : Nat} {n : Nat} {I L : Nat → Nat → Int}
theorem X12_faultOf (hT : RK I) (hn : 1000000000000000000000000000000 ≤ n) : f_X12_faultOf n 161 (hp u I L) = some (tf (I 173) (I 161 13).toNat (I 161 13).toNat 0 0 0) := by
  have h2 := hT.1
  suffices key : zLP (I 161 13).toNat (fun f k (s : Int × Int) => l_X12_faultOf_6 n f 161 s.1 s.2 (k : Int) (hp u I L)) (fun k s => (s.1 = 0 ∨ s.1 = 1 ∨ s.1 = 2 ∨ s.1 = 3 ∨ s.1 = 4) ∧ 0 ≤ s.2 ∧ s.2 ≤ (k : Int) ∧ tf (I 173) (I 161 13).toNat ((I 161 13).toNat - k) k s.1 s.2 = tf (I 173) (I 161 13).toNat (I 161 13).toNat 0 0 0)
    (fun r => r = some (tf (I 173) (I 161 13).toNat (I 161 13).toNat 0 0 0)) by
    exact key (I 161 13).toNat n 0 (0, 0) (by omega) (by omega) ⟨Or.inl rfl, by decide, by decide, rfl⟩
  refine zlp ?_ ?_
  · rintro f k ⟨s, d⟩ hk ⟨h3, h4, h5, h6⟩
    dsimp only at h3 h4 h5 h6 ⊢
    have hk' : (k : Int) < I 161 13 := by omega
    have hr := tk_rg (hT.2 k hk')
    obtain ⟨m, hm⟩ : ∃ m, (I 161 13).toNat - k = m + 1 := ⟨(I 161 13).toNat - k - 1, by omega⟩
    have hm' : (I 161 13).toNat - (k + 1) = m := by omega
    have e1 : l_X12_faultOf_6 n (f + 1) 161 s d (k : Int) (hp u I L) = _ := X12_fa6 (u := u) (L := L) (n := n) (x := I 173 k) (l_X12_faultOf_6 n f) h3 (by omega) ⟨rfl, by omega, by omega⟩ hk' h2.2
    rw [hm] at h6
    have h7 : (match ts s d (I 173 k) with | none => (k : Int) | some q => tf (I 173) (I 161 13).toNat m (k + 1) q.1 q.2) = tf (I 173) (I 161 13).toNat (I 161 13).toNat 0 0 0 := h6
    cases ht : ts s d (I 173 k) with
    | none => rw [ht] at e1 h7; left; rw [e1, ← h7]
    | some q =>
      rw [ht] at e1 h7
      have hq := ts_st ht h4
      exact Or.inr ⟨q, e1, by omega, hq.2.1, by omega, by rw [hm']; exact h7⟩
  · rintro f ⟨s, d⟩ ⟨h3, h4, h5, h6⟩
    dsimp only at h3 h4 h5 h6 ⊢
    rw [Nat.sub_self] at h6
    rw [← h6]
    show _ = some (if d = 0 ∧ (s = 2 ∨ s = 3) then (-1 : Int) else (((I 161 13).toNat : Nat) : Int))
    rw [Int.toNat_of_nonneg h2.1]
    by_cases c : d = 0
    · rcases h3 with q | q | q | q | q <;> simp (disch := omega) [l_X12_faultOf_6, b_X12_faultOf_6, b_X12_faultOf_211, b_X12_faultOf_221, b_X12_faultOf_229, hi_M, hG_M_0, hG_M_1, hG_M_2, hG_M_3, hG_M_4, hG_M_5, hG_M_6, hG_M_7, hG_M_8, hg_M_9, hq_M_9, hG_M_10, hG_M_11, hG_M_12, hg_M_13, hq_M_13, hG_M_14, hg_M_15, hq_M_15, hG_M_16, hg_M_17, hq_M_17, hg_M_18, hq_M_18, hG_M_19, hG_M_20, hG_M_21, hG_M_22, hG_M_23, hG_M_24, hg_M_25, hq_M_25, hG_M_26, hG_M_27, hG_M_28, hg_M_29, hq_M_29, hG_M_30, hG_M_31, hg_M_32, hq_M_32, hg_M_33, hq_M_33, hg_M_34, hq_M_34, hg_M_35, hq_M_35, hG_M_36, hG_M_37, hg_M_38, hq_M_38, hg_M_39, hq_M_39, hG_M_40, hG_M_41, hG_M_42, hG_M_43, hg_M_44, hq_M_44, rg_ok, if_pos, q, c]
    · rcases h3 with q | q | q | q | q <;> simp (disch := omega) [l_X12_faultOf_6, b_X12_faultOf_6, b_X12_faultOf_211, b_X12_faultOf_221, b_X12_faultOf_229, hi_M, hG_M_0, hG_M_1, hG_M_2, hG_M_3, hG_M_4, hG_M_5, hG_M_6, hG_M_7, hG_M_8, hg_M_9, hq_M_9, hG_M_10, hG_M_11, hG_M_12, hg_M_13, hq_M_13, hG_M_14, hg_M_15, hq_M_15, hG_M_16, hg_M_17, hq_M_17, hg_M_18, hq_M_18, hG_M_19, hG_M_20, hG_M_21, hG_M_22, hG_M_23, hG_M_24, hg_M_25, hq_M_25, hG_M_26, hG_M_27, hG_M_28, hg_M_29, hq_M_29, hG_M_30, hG_M_31, hg_M_32, hq_M_32, hg_M_33, hq_M_33, hg_M_34, hq_M_34, hg_M_35, hq_M_35, hG_M_36, hG_M_37, hg_M_38, hq_M_38, hg_M_39, hq_M_39, hG_M_40, hG_M_41, hG_M_42, hG_M_43, hg_M_44, hq_M_44, rg_ok, if_pos, q, c]
/-! a text copied with other names -/
def rn (sh x : Int) : Int := if tk x = 1 then 65 + (x - 65 + sh) % 8 else x
theorem rn_tk {sh x : Int} : tk (rn sh x) = tk x := by
  unfold rn
  split
  · next h =>
    have h1 := tk_cases (65 + (x - 65 + sh) % 8)
    omega
  · rfl
theorem rn_0 {x : Int} : rn 0 x = x := by
  unfold rn
  split
  · next h => have h1 := tk_cases x; omega
  · rfl
theorem X8_copyRenamed {v v1 : Nat} (hv : v ∈ gTX) (hv1 : v1 ∈ gTX) (hne : v1 ≠ v ∧ v1 ≠ v + 1 ∧ v1 + 1 ≠ v) (hT : TK v1 I) (hn : 1000000000000000000000000000000 ≤ n) {sh : Int} (hs : 0 ≤ sh ∧ sh ≤ 7) : ∃ J, f_X8_copyRenamed n v v1 sh (hp u I L) = some (hp u J L) ∧ Fr [v, v + 1] I J ∧ J v 1 = I v1 1 ∧ (∀ k, k ≠ 1 → J v k = I v k) ∧ ∀ k : Nat, (k : Int) < I v1 1 → J (v + 1) k = rn sh (I (v1 + 1) k) := by
  have h2 := hT.1
  suffices key : zLP (I v1 1).toNat (fun f k (J : Nat → Nat → Int) => l_X8_copyRenamed_7 n f v v1 sh (k : Int) (hp u J L)) (fun k J => Fr [v, v + 1] I J ∧ J v 1 = (k : Int) ∧ (∀ k, k ≠ 1 → J v k = I v k) ∧ ∀ j, j < k → J (v + 1) j = rn sh (I (v1 + 1) j))
    (fun r => ∃ J, r = some (hp u J L) ∧ Fr [v, v + 1] I J ∧ J v 1 = I v1 1 ∧ (∀ k, k ≠ 1 → J v k = I v k) ∧ ∀ k : Nat, (k : Int) < I v1 1 → J (v + 1) k = rn sh (I (v1 + 1) k)) by
    obtain ⟨J, e, h⟩ := key (I v1 1).toNat n 0 (gx_u I v 1 0) (by omega) (by omega) ⟨Fr.rf.wr (by simp), gu_same _ _ _ _, fun k hk => gu_at_ne hk, fun j hj => absurd hj (by omega)⟩
    refine ⟨J, ?_, h⟩
    simp only [f_X8_copyRenamed, hi_T hv, hG_T_0 hv, hg_T_1 hv, hq_T_1 hv, ha_T_1 hv, hs_T_1 hv, hl_T_1 hv, Option.bind_some, nm_eq, sm_inl, sm_inr, zo_0, zo_1]
    exact e
  refine zlp ?_ ?_
  · rintro f k J hk ⟨h3, h4, h5, h6⟩
    have hk' : (k : Int) < I v1 1 := by omega
    have ht := tk_rg (hT.2 k hk')
    have hc := tk_cases (I (v1 + 1) k)
    have q1 : J v1 = I v1 := h3 v1 (by simp [hne.1, hne.2.1])
    have q2 : J (v1 + 1) = I (v1 + 1) := h3 (v1 + 1) (by simp [hne.2.2]; exact hne.1)
    have q3 : J v1 1 = I v1 1 := by rw [q1]
    have q4 : J (v1 + 1) k = I (v1 + 1) k := by rw [q2]
    have hTJ : TK v1 J := by unfold TK; rw [q1, q2]; exact hT
    have el := X8_letter (u := u) (L := L) hv1 hTJ (k := k) (by omega)
    rw [q4] at el
    have ek : (k : Int) + 1 = ((k + 1 : Nat) : Int) := by omega
    have ea := fun (x : Int) (a : 0 ≤ x) (b : x ≤ 65535) => X8_append (u := u) (L := L) (I := J) hv (x := x) (by omega) (by omega) a b
    rw [h4] at ea
    have hrn : 0 ≤ rn sh (I (v1 + 1) k) ∧ rn sh (I (v1 + 1) k) ≤ 65535 := by
      have := tk_rg (x := rn sh (I (v1 + 1) k)) (by rw [rn_tk]; exact hT.2 k hk'); omega
    refine Or.inr ⟨gx_u (gx_u J (v + 1) k (rn sh (I (v1 + 1) k))) v 1 ((k : Int) + 1), ?_, (h3.wr (by simp)).wr (by simp), by rw [gu_same]; omega, fun j hj => by rw [gu_at_ne hj, gu_ne (by omega)]; exact h5 j hj, fun j hj => ?_⟩
    · by_cases c1 : tk (I (v1 + 1) k) = 1
      · have e1 : rn sh (I (v1 + 1) k) = 65 + (I (v1 + 1) k - 65 + sh) % 8 := if_pos c1
        have e2 : (65 + (I (v1 + 1) k - 65 + sh) % 8) % 65536 = rn sh (I (v1 + 1) k) := by rw [e1]; omega
        simp (disch := omega) only [l_X8_copyRenamed_7, b_X8_copyRenamed_7, b_X8_copyRenamed_59, hi_T hv1, hG_T_0 hv1, hg_T_1 hv1, hq_T_1 hv1, ha_T_1 hv1, hs_T_1 hv1, hl_T_1 hv1, Option.bind_some, nm_eq, sm_inl, sm_inr, zo_0, zo_1, rg_ok, if_pos, if_neg, if_true, if_false, Int.toNat_natCast, hi_T hv, el, q3, f_X11_isNonterminalLetter, b_X11_isNonterminalLetter_16, dg_ok, e2, ea, ek]
      · have e1 : rn sh (I (v1 + 1) k) = I (v1 + 1) k := if_neg c1
        rw [e1]
        by_cases c2 : I (v1 + 1) k < 65
        · simp (disch := omega) only [l_X8_copyRenamed_7, b_X8_copyRenamed_7, b_X8_copyRenamed_59, hi_T hv1, hG_T_0 hv1, hg_T_1 hv1, hq_T_1 hv1, ha_T_1 hv1, hs_T_1 hv1, hl_T_1 hv1, Option.bind_some, nm_eq, sm_inl, sm_inr, zo_0, zo_1, rg_ok, if_pos, if_neg, if_true, if_false, Int.toNat_natCast, hi_T hv, el, q3, f_X11_isNonterminalLetter, b_X11_isNonterminalLetter_16, ea, ek]
        · simp (disch := omega) only [l_X8_copyRenamed_7, b_X8_copyRenamed_7, b_X8_copyRenamed_59, hi_T hv1, hG_T_0 hv1, hg_T_1 hv1, hq_T_1 hv1, ha_T_1 hv1, hs_T_1 hv1, hl_T_1 hv1, Option.bind_some, nm_eq, sm_inl, sm_inr, zo_0, zo_1, rg_ok, if_pos, if_neg, if_true, if_false, Int.toNat_natCast, hi_T hv, el, q3, f_X11_isNonterminalLetter, b_X11_isNonterminalLetter_16, ea, ek]
    · rw [gu_ne (by omega)]
      by_cases q : j = k
      · rw [gu_at_eq q, q]
      · rw [gu_at_ne q]; exact h6 j (by omega)
  · rintro f J ⟨h3, h4, h5, h6⟩
    have q1 : J v1 = I v1 := h3 v1 (by simp [hne.1, hne.2.1])
    have q3 : J v1 1 = I v1 1 := by rw [q1]
    refine ⟨J, ?_, h3, by omega, h5, fun k hk => h6 k (by omega)⟩
    simp (disch := omega) only [l_X8_copyRenamed_7, b_X8_copyRenamed_7, hi_T hv1, hG_T_0 hv1, hg_T_1 hv1, hq_T_1 hv1, ha_T_1 hv1, hs_T_1 hv1, hl_T_1 hv1, Option.bind_some, nm_eq, sm_inl, sm_inr, zo_0, zo_1, rg_ok, if_pos, if_neg, if_true, if_false, Int.toNat_natCast, q3]
end TB
