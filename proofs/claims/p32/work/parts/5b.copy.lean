/-! ===== texts: the reference's fault; copies with other names ===== -/
section TB
variable {u : Nat} {n : Nat} {I L : Nat → Nat → Int}
/-! a text copied with other names -/
def rn (sh x : Int) : Int := if tk x = 1 then 65 + (x - 65 + sh) % 8 else x
theorem rn_tk {sh x : Int} : tk (rn sh x) = tk x := by
  unfold rn
  split
  · next h =>
    have h1 := tk_cases (65 + (x - 65 + sh) % 8)
    omega
  · rfl
theorem rn_0 {x : Int} : rn 0 x = x := by
  unfold rn
  split
  · next h => have h1 := tk_cases x; omega
  · rfl
theorem X8_copyRenamed {v v1 : Nat} (hv : v ∈ gTX) (hv1 : v1 ∈ gTX) (hne : v1 ≠ v ∧ v1 ≠ v + 1 ∧ v1 + 1 ≠ v) (hT : TK v1 I) (hn : 1000000000000000000000000000000 ≤ n) {sh : Int} (hs : 0 ≤ sh ∧ sh ≤ 7) : ∃ J, f_X8_copyRenamed n v v1 sh (hp u I L) = some (hp u J L) ∧ Fr [v, v + 1] I J ∧ J v 1 = I v1 1 ∧ (∀ k, k ≠ 1 → J v k = I v k) ∧ ∀ k : Nat, (k : Int) < I v1 1 → J (v + 1) k = rn sh (I (v1 + 1) k) := by
  have h2 := hT.1
  suffices key : zLP (I v1 1).toNat (fun f k (J : Nat → Nat → Int) => l_X8_copyRenamed_7 n f v v1 sh (k : Int) (hp u J L)) (fun k J => Fr [v, v + 1] I J ∧ J v 1 = (k : Int) ∧ (∀ k, k ≠ 1 → J v k = I v k) ∧ ∀ j, j < k → J (v + 1) j = rn sh (I (v1 + 1) j))
    (fun r => ∃ J, r = some (hp u J L) ∧ Fr [v, v + 1] I J ∧ J v 1 = I v1 1 ∧ (∀ k, k ≠ 1 → J v k = I v k) ∧ ∀ k : Nat, (k : Int) < I v1 1 → J (v + 1) k = rn sh (I (v1 + 1) k)) by
    obtain ⟨J, e, h⟩ := key (I v1 1).toNat n 0 (gx_u I v 1 0) (by omega) (by omega) ⟨Fr.rf.wr (by simp), gu_same _ _ _ _, fun k hk => gu_at_ne hk, fun j hj => absurd hj (by omega)⟩
    refine ⟨J, ?_, h⟩
    simp only [f_X8_copyRenamed, hi_T hv, hG_T_0 hv, hg_T_1 hv, hq_T_1 hv, ha_T_1 hv, hs_T_1 hv, hl_T_1 hv, Option.bind_some, nm_eq, sm_inl, sm_inr, zo_0, zo_1]
    exact e
  refine zlp ?_ ?_
  · rintro f k J hk ⟨h3, h4, h5, h6⟩
    have hk' : (k : Int) < I v1 1 := by omega
    have ht := tk_rg (hT.2 k hk')
    have hc := tk_cases (I (v1 + 1) k)
    have q1 : J v1 = I v1 := h3 v1 (by simp [hne.1, hne.2.1])
    have q2 : J (v1 + 1) = I (v1 + 1) := h3 (v1 + 1) (by simp [hne.2.2]; exact hne.1)
    have q3 : J v1 1 = I v1 1 := by rw [q1]
    have q4 : J (v1 + 1) k = I (v1 + 1) k := by rw [q2]
    have hTJ : TK v1 J := by unfold TK; rw [q1, q2]; exact hT
    have el := X8_letter (u := u) (L := L) hv1 hTJ (k := k) (by omega)
    rw [q4] at el
    have ek : (k : Int) + 1 = ((k + 1 : Nat) : Int) := by omega
    have ea := fun (x : Int) (a : 0 ≤ x) (b : x ≤ 65535) => X8_append (u := u) (L := L) (I := J) hv (x := x) (by omega) (by omega) a b
    rw [h4] at ea
    have hrn : 0 ≤ rn sh (I (v1 + 1) k) ∧ rn sh (I (v1 + 1) k) ≤ 65535 := by
      have := tk_rg (x := rn sh (I (v1 + 1) k)) (by rw [rn_tk]; exact hT.2 k hk'); omega
    refine Or.inr ⟨gx_u (gx_u J (v + 1) k (rn sh (I (v1 + 1) k))) v 1 ((k : Int) + 1), ?_, (h3.wr (by simp)).wr (by simp), by rw [gu_same]; omega, fun j hj => by rw [gu_at_ne hj, gu_ne (by omega)]; exact h5 j hj, fun j hj => ?_⟩
    · by_cases c1 : tk (I (v1 + 1) k) = 1
      · have e1 : rn sh (I (v1 + 1) k) = 65 + (I (v1 + 1) k - 65 + sh) % 8 := if_pos c1
        have e2 : (65 + (I (v1 + 1) k - 65 + sh) % 8) % 65536 = rn sh (I (v1 + 1) k) := by rw [e1]; omega
        simp (disch := omega) only [l_X8_copyRenamed_7, b_X8_copyRenamed_7, b_X8_copyRenamed_59, hi_T hv1, hG_T_0 hv1, hg_T_1 hv1, hq_T_1 hv1, ha_T_1 hv1, hs_T_1 hv1, hl_T_1 hv1, Option.bind_some, nm_eq, sm_inl, sm_inr, zo_0, zo_1, rg_ok, if_pos, if_neg, if_true, if_false, Int.toNat_natCast, hi_T hv, el, q3, f_X11_isNonterminalLetter, b_X11_isNonterminalLetter_16, dg_ok, e2, ea, ek]
      · have e1 : rn sh (I (v1 + 1) k) = I (v1 + 1) k := if_neg c1
        rw [e1]
        by_cases c2 : I (v1 + 1) k < 65
        · simp (disch := omega) only [l_X8_copyRenamed_7, b_X8_copyRenamed_7, b_X8_copyRenamed_59, hi_T hv1, hG_T_0 hv1, hg_T_1 hv1, hq_T_1 hv1, ha_T_1 hv1, hs_T_1 hv1, hl_T_1 hv1, Option.bind_some, nm_eq, sm_inl, sm_inr, zo_0, zo_1, rg_ok, if_pos, if_neg, if_true, if_false, Int.toNat_natCast, hi_T hv, el, q3, f_X11_isNonterminalLetter, b_X11_isNonterminalLetter_16, ea, ek]
        · simp (disch := omega) only [l_X8_copyRenamed_7, b_X8_copyRenamed_7, b_X8_copyRenamed_59, hi_T hv1, hG_T_0 hv1, hg_T_1 hv1, hq_T_1 hv1, ha_T_1 hv1, hs_T_1 hv1, hl_T_1 hv1, Option.bind_some, nm_eq, sm_inl, sm_inr, zo_0, zo_1, rg_ok, if_pos, if_neg, if_true, if_false, Int.toNat_natCast, hi_T hv, el, q3, f_X11_isNonterminalLetter, b_X11_isNonterminalLetter_16, ea, ek]
    · rw [gu_ne (by omega)]
      by_cases q : j = k
      · rw [gu_at_eq q, q]
      · rw [gu_at_ne q]; exact h6 j (by omega)
  · rintro f J ⟨h3, h4, h5, h6⟩
    have q1 : J v1 = I v1 := h3 v1 (by simp [hne.1, hne.2.1])
    have q3 : J v1 1 = I v1 1 := by rw [q1]
    refine ⟨J, ?_, h3, by omega, h5, fun k hk => h6 k (by omega)⟩
    simp (disch := omega) only [l_X8_copyRenamed_7, b_X8_copyRenamed_7, hi_T hv1, hG_T_0 hv1, hg_T_1 hv1, hq_T_1 hv1, ha_T_1 hv1, hs_T_1 hv1, hl_T_1 hv1, Option.bind_some, nm_eq, sm_inl, sm_inr, zo_0, zo_1, rg_ok, if_pos, if_neg, if_true, if_false, Int.toNat_natCast, q3]
end TB
