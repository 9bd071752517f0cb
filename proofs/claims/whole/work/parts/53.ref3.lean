/-! ===== the reference: findsMore's loop, and the first rounds of finds ===== -/
def F18 (I J : Nat → Nat → Int) : Prop := Fr [176, 161] I J ∧ ∀ k, k ≠ 18 → J 161 k = I 161 k
theorem F18.rW {I J : Nat → Nat → Int} (h : F18 I J) {o : Nat} {x m : Int} : F18 I (rW J o x m) :=
  ⟨(h.1.wr (by decide)).wr (by decide), fun k hk => by
    show gx_u (gx_u J 176 o x) 161 18 m 161 k = _
    rw [gu_at_ne hk, gu_ne (by decide)]; exact h.2 k hk⟩
section RD
variable {u : Nat} {L : Nat → Nat → Int} {n : Nat}
theorem fM_62 {J : Nat → Nat → Int} (r4 : Nat → Int → Int → gi_H → Option (Int × gi_H)) {p o : Nat} (ho : o < 16) {v1 x m : Int} (hv : v1 = 0 ∨ v1 = 1) (hx : gi_ok x) (hm : gi_ok m) (hx0 : gi_ok (J 176 o)) (hm0 : gi_ok (J 161 18)) :
    ∃ v1' : Int, b_X12_findsMore_62 n r4 161 v1 (p : Int) (o : Int) x m (hp u J L) = r4 161 v1' ((p : Int) + 1) (hp u (rW J o x m) L) ∧ ((v1' = 0 ∧ v1 = 0 ∧ x = J 176 o ∧ m = J 161 18) ∨ (v1' = 1 ∧ (v1 = 1 ∨ ¬ (x = J 176 o ∧ m = J 161 18)))) := by
  have key : ∀ s : Int, b_X12_findsMore_93 n r4 161 (p : Int) (o : Int) x m s (hp u J L) = r4 161 s ((p : Int) + 1) (hp u (rW J o x m) L) := fun s => by
    simp (disch := omega) only [b_X12_findsMore_93, hi_M, hG_M_0, hG_M_1, hG_M_2, hG_M_3, hG_M_4, hG_M_5, hG_M_6, hG_M_7, hG_M_8, hg_M_9, hq_M_9, hG_M_10, hG_M_11, hG_M_12, hg_M_13, hq_M_13, hG_M_14, hg_M_15, hq_M_15, hG_M_16, hg_M_17, hq_M_17, hg_M_18, hq_M_18, hG_M_19, hG_M_20, hG_M_21, hG_M_22, hG_M_23, hG_M_24, hg_M_25, hq_M_25, hG_M_26, hG_M_27, hG_M_28, hg_M_29, hq_M_29, hG_M_30, hG_M_31, hg_M_32, hq_M_32, hg_M_33, hq_M_33, hg_M_34, hq_M_34, hg_M_35, hq_M_35, hG_M_36, hG_M_37, hg_M_38, hq_M_38, hg_M_39, hq_M_39, hG_M_40, hG_M_41, hG_M_42, hG_M_43, hg_M_44, hq_M_44, ha_176, hs_176, hl_176, Option.bind_some, nm_eq, sm_inl, sm_inr, zo_0, zo_1, Int.toNat_natCast]
    rfl
  have hx' : -2147483648 ≤ x ∧ x ≤ 2147483647 := hx
  have hm' : -2147483648 ≤ m ∧ m ≤ 2147483647 := hm
  have hx0' : -2147483648 ≤ J 176 o ∧ J 176 o ≤ 2147483647 := hx0
  have hm0' : -2147483648 ≤ J 161 18 ∧ J 161 18 ≤ 2147483647 := hm0
  rcases hv with hv | hv
  · subst hv
    simp (disch := omega) only [b_X12_findsMore_62, b_X12_findsMore_88, hi_M, hG_M_0, hG_M_1, hG_M_2, hG_M_3, hG_M_4, hG_M_5, hG_M_6, hG_M_7, hG_M_8, hg_M_9, hq_M_9, hG_M_10, hG_M_11, hG_M_12, hg_M_13, hq_M_13, hG_M_14, hg_M_15, hq_M_15, hG_M_16, hg_M_17, hq_M_17, hg_M_18, hq_M_18, hG_M_19, hG_M_20, hG_M_21, hG_M_22, hG_M_23, hG_M_24, hg_M_25, hq_M_25, hG_M_26, hG_M_27, hG_M_28, hg_M_29, hq_M_29, hG_M_30, hG_M_31, hg_M_32, hq_M_32, hg_M_33, hq_M_33, hg_M_34, hq_M_34, hg_M_35, hq_M_35, hG_M_36, hG_M_37, hg_M_38, hq_M_38, hg_M_39, hq_M_39, hG_M_40, hG_M_41, hG_M_42, hG_M_43, hg_M_44, hq_M_44, ha_176, hs_176, hl_176, Option.bind_some, nm_eq, sm_inl, sm_inr, zo_0, zo_1, rg_ok, Int.toNat_natCast, key]
    rw [if_pos trivial]
    by_cases e1 : x = J 176 o
    · rw [if_pos e1]
      by_cases e2 : m = J 161 18
      · rw [if_pos e2]; exact ⟨0, rfl, Or.inl ⟨rfl, trivial, e1, e2⟩⟩
      · rw [if_neg e2]; exact ⟨1, rfl, Or.inr ⟨rfl, Or.inr (fun q => e2 q.2)⟩⟩
    · rw [if_neg e1]; exact ⟨1, rfl, Or.inr ⟨rfl, Or.inr (fun q => e1 q.1)⟩⟩
  · subst hv
    simp (disch := omega) only [b_X12_findsMore_62, b_X12_findsMore_88, Option.bind_some, nm_eq, sm_inl, sm_inr, zo_0, zo_1, rg_ok, key]
    rw [if_neg (by decide)]
    exact ⟨1, rfl, Or.inr ⟨rfl, Or.inl trivial⟩⟩
theorem rMo_l (hn : 1000000000000000000000000000000 ≤ n) {I J0 : Nat → Nat → Int} (hw : RW I) : ∀ (m f p : Nat) (J : Nat → Nat → Int) (v1 : Int), Gn (rG I) = p + m → m < f → F18 I J → rBI (rG I) J → ((v1 = 0 ∧ J = J0 ∧ ∀ q, q < p → rlp (rG I) J q) ∨ (v1 = 1 ∧ rM J0 < rM J)) →
    ∃ (J' : Nat → Nat → Int) (v1' : Int), l_X12_findsMore_4 n f 161 v1 (p : Int) (hp u J L) = some (v1', hp u J' L) ∧ F18 I J' ∧ rBI (rG I) J' ∧ ((v1' = 0 ∧ J' = J0 ∧ ∀ q, q < Gn (rG I) → rlp (rG I) J' q) ∨ (v1' = 1 ∧ rM J0 < rM J')) := by
  have hg := GR_r hw
  have h24 := hg.1
  intro m
  induction m with
  | zero =>
    intro f p J v1 hm hf hfr hB hv
    obtain ⟨f', rfl⟩ : ∃ f', f = f' + 1 := ⟨f - 1, by omega⟩
    have h9 := hfr.2 9 (by decide)
    have hwJ := RW_fr hfr.1 h9 nR hw
    have hgJ := rG_fr hfr.1 h9 nR
    have hn1 := rG_n hwJ
    have hw9 := rw9_of hwJ
    rw [hgJ] at hn1
    have hzo : v1 = 0 ∨ v1 = 1 := by rcases hv with q | q <;> omega
    simp (disch := omega) only [l_X12_findsMore_4, b_X12_findsMore_4, hi_M, hG_M_0, hG_M_1, hG_M_2, hG_M_3, hG_M_4, hG_M_5, hG_M_6, hG_M_7, hG_M_8, hg_M_9, hq_M_9, hG_M_10, hG_M_11, hG_M_12, hg_M_13, hq_M_13, hG_M_14, hg_M_15, hq_M_15, hG_M_16, hg_M_17, hq_M_17, hg_M_18, hq_M_18, hG_M_19, hG_M_20, hG_M_21, hG_M_22, hG_M_23, hG_M_24, hg_M_25, hq_M_25, hG_M_26, hG_M_27, hG_M_28, hg_M_29, hq_M_29, hG_M_30, hG_M_31, hg_M_32, hq_M_32, hg_M_33, hq_M_33, hg_M_34, hq_M_34, hg_M_35, hq_M_35, hG_M_36, hG_M_37, hg_M_38, hq_M_38, hg_M_39, hq_M_39, hG_M_40, hG_M_41, hG_M_42, hG_M_43, hg_M_44, hq_M_44, ha_165, hs_165, hl_165, Option.bind_some, nm_eq, sm_inl, sm_inr, zo_0, zo_1, rg_ok, hw9.1, Int.toNat_natCast, ← hn1]
    rw [if_pos (by omega)]
    refine ⟨J, v1, ?_, hfr, hB, ?_⟩
    · rcases hzo with q | q <;> rw [q] <;> rfl
    · rcases hv with ⟨a1, a2, a3⟩ | hv
      · exact Or.inl ⟨a1, a2, fun q hq => a3 q (by omega)⟩
      · exact Or.inr hv
  | succ m ih =>
    intro f p J v1 hm hf hfr hB hv
    obtain ⟨f', rfl⟩ : ∃ f', f = f' + 1 := ⟨f - 1, by omega⟩
    have h9 := hfr.2 9 (by decide)
    have hwJ := RW_fr hfr.1 h9 nR hw
    have hgJ := rG_fr hfr.1 h9 nR
    have hn1 := rG_n hwJ
    have hw9 := rw9_of hwJ
    have hp1 : p < Gn (rG I) := by omega
    have hp2 : p < Gn (rG J) := by rw [hgJ]; exact hp1
    have ho := hg.2.2.1 p
    obtain ⟨r, er, hro, hr⟩ := X12_first (n := n) (u := u) (L := L) hn hwJ hB.1 (p := p) (k := 0) hp2 (Nat.zero_le _)
    obtain ⟨e0, ee, he⟩ := X12_empty (n := n) (u := u) (L := L) hn hwJ hB.1 (p := p) (k := 0) hp2 (Nat.zero_le _)
    have el := X12_lead (u := u) (L := L) hwJ hp2
    have er' : f_X12_firstFrom n 161 (p : Int) 0 (hp u J L) = some r := er
    have ee' : f_X12_isEmptyFrom n 161 (p : Int) 0 (hp u J L) = some e0 := ee
    rw [hgJ] at hn1 el hr he
    have hzo : v1 = 0 ∨ v1 = 1 := by rcases hv with q | q <;> omega
    have hze : e0 = 0 ∨ e0 = 1 := by rcases he with q | q <;> omega
    simp (disch := omega) only [l_X12_findsMore_4, b_X12_findsMore_4, hi_M, hG_M_0, hG_M_1, hG_M_2, hG_M_3, hG_M_4, hG_M_5, hG_M_6, hG_M_7, hG_M_8, hg_M_9, hq_M_9, hG_M_10, hG_M_11, hG_M_12, hg_M_13, hq_M_13, hG_M_14, hg_M_15, hq_M_15, hG_M_16, hg_M_17, hq_M_17, hg_M_18, hq_M_18, hG_M_19, hG_M_20, hG_M_21, hG_M_22, hG_M_23, hG_M_24, hg_M_25, hq_M_25, hG_M_26, hG_M_27, hG_M_28, hg_M_29, hq_M_29, hG_M_30, hG_M_31, hg_M_32, hq_M_32, hg_M_33, hq_M_33, hg_M_34, hq_M_34, hg_M_35, hq_M_35, hG_M_36, hG_M_37, hg_M_38, hq_M_38, hg_M_39, hq_M_39, hG_M_40, hG_M_41, hG_M_42, hG_M_43, hg_M_44, hq_M_44, ha_165, hs_165, hl_165, ha_176, hs_176, hl_176, Option.bind_some, nm_eq, sm_inl, sm_inr, zo_0, zo_1, rg_ok, hw9.1, Int.toNat_natCast, ← hn1, el, er', ee']
    rw [if_neg (by omega)]
    have hx : gi_ok (gi_or (J 176 (Go (rG I) p)) r) ∧ ∀ i, bt (gi_or (J 176 (Go (rG I) p)) r) i = true ↔ bt (J 176 (Go (rG I) p)) i = true ∨ (i < 8 ∧ fsF (rG I) (rNi J) (rFi J) p 0 i) := ⟨bt_ok_or _ _, fun i => by rw [bt_or, Bool.or_eq_true, hr i]⟩
    have hmm : ∃ mm : Int, (if e0 = 0 then b_X12_findsMore_62 n (l_X12_findsMore_4 n f') 161 v1 (p : Int) ((Go (rG I) p : Nat) : Int) (gi_or (J 176 (Go (rG I) p)) r) (J 161 18) (hp u J L) else b_X12_findsMore_62 n (l_X12_findsMore_4 n f') 161 v1 (p : Int) ((Go (rG I) p : Nat) : Int) (gi_or (J 176 (Go (rG I) p)) r) (gi_or (J 161 18) (gi_shl 1 ((Go (rG I) p : Nat) : Int))) (hp u J L)) = b_X12_findsMore_62 n (l_X12_findsMore_4 n f') 161 v1 (p : Int) ((Go (rG I) p : Nat) : Int) (gi_or (J 176 (Go (rG I) p)) r) mm (hp u J L) ∧ gi_ok mm ∧ ∀ i, bt mm i = true ↔ bt (J 161 18) i = true ∨ (i = Go (rG I) p ∧ emF (rG I) (rNi J) p 0) := by
      rcases he with ⟨a, b⟩ | ⟨a, b⟩
      · refine ⟨_, if_neg (by omega), bt_ok_or _ _, fun i => ?_⟩
        rw [bt_or, bt_shl1 (by omega)]
        simp [b]
      · refine ⟨_, if_pos a, hB.1.2.1, fun i => ?_⟩
        simp [b]
    obtain ⟨mm, e1, hm1⟩ := hmm
    rw [e1]
    obtain ⟨hB', hcase⟩ := rBI_wr hg hB hp1 hx hm1
    obtain ⟨v1', e2, h2⟩ := fM_62 (n := n) (u := u) (L := L) (l_X12_findsMore_4 n f') (p := p) ho hzo hx.1 hm1.1 (hB.1.1 _ ho).1 hB.1.2.1
    rw [e2, show (p : Int) + 1 = ((p + 1 : Nat) : Int) by omega]
    refine ih f' (p + 1) _ v1' (by omega) (by omega) hfr.rW hB' ?_
    rcases hcase with ⟨c1, c2, c3, c4⟩ | ⟨c1, c2⟩
    · rw [c4]
      rcases h2 with ⟨z1, z2, -, -⟩ | ⟨z1, z2 | z2⟩
      · rcases hv with ⟨a1, a2, a3⟩ | ⟨a1, -⟩
        · refine Or.inl ⟨z1, a2, fun q hq => ?_⟩
          by_cases hqp : q = p
          · subst hqp; exact c3
          · exact a3 q (by omega)
        · omega
      · rcases hv with ⟨a1, -⟩ | ⟨-, a2⟩
        · omega
        · exact Or.inr ⟨z1, a2⟩
      · exact absurd ⟨c1, c2⟩ z2
    · have z1 : v1' = 1 := by
        rcases h2 with ⟨-, -, z3, z4⟩ | ⟨z1, -⟩
        · exact absurd ⟨z3, z4⟩ c1
        · exact z1
      refine Or.inr ⟨z1, ?_⟩
      rcases hv with ⟨-, a2, -⟩ | ⟨-, a2⟩
      · rw [← a2]; exact c2
      · exact Nat.lt_trans a2 c2
theorem X12_finds89 (hn : 1000000000000000000000000000000 ≤ n) {I : Nat → Nat → Int} (hw : RW I) : ∀ (m f : Nat) (J : Nat → Nat → Int), 545 ≤ rM J + m → m < f → F18 I J → rBI (rG I) J →
    ∃ J' : Nat → Nat → Int, l_X12_finds_89 n f 161 1 (hp u J L) = b_X12_finds_101 n 161 (hp u J' L) ∧ F18 I J' ∧ rTb J' ∧ ls1 (rG I) (rNi J') (rFi J') := by
  intro m
  induction m with
  | zero => intro f J hm; have := rM_le J; omega
  | succ m ih =>
    intro f J hm hf hfr hB
    obtain ⟨f', rfl⟩ : ∃ f', f = f' + 1 := ⟨f - 1, by omega⟩
    have hM := rM_le J
    obtain ⟨J1, v1, e, h1, h2, h3⟩ := rMo_l (L := L) (u := u) (J0 := J) hn hw (Gn (rG I)) n 0 J 0 (by omega) (by have := (GR_r hw).1; omega) hfr hB (Or.inl ⟨rfl, rfl, fun q hq => absurd hq (by omega)⟩)
    have e' : f_X12_findsMore n 161 (hp u J L) = some (v1, hp u J1 L) := e
    simp (disch := omega) only [l_X12_finds_89, b_X12_finds_89, hi_M, hG_M_0, hG_M_1, hG_M_2, hG_M_3, hG_M_4, hG_M_5, hG_M_6, hG_M_7, hG_M_8, hg_M_9, hq_M_9, hG_M_10, hG_M_11, hG_M_12, hg_M_13, hq_M_13, hG_M_14, hg_M_15, hq_M_15, hG_M_16, hg_M_17, hq_M_17, hg_M_18, hq_M_18, hG_M_19, hG_M_20, hG_M_21, hG_M_22, hG_M_23, hG_M_24, hg_M_25, hq_M_25, hG_M_26, hG_M_27, hG_M_28, hg_M_29, hq_M_29, hG_M_30, hG_M_31, hg_M_32, hq_M_32, hg_M_33, hq_M_33, hg_M_34, hq_M_34, hg_M_35, hq_M_35, hG_M_36, hG_M_37, hg_M_38, hq_M_38, hg_M_39, hq_M_39, hG_M_40, hG_M_41, hG_M_42, hG_M_43, hg_M_44, hq_M_44, Option.bind_some, nm_eq, sm_inl, sm_inr, zo_0, zo_1, rg_ok, e']
    rw [if_neg (by decide)]
    rcases h3 with ⟨a1, a2, a3⟩ | ⟨a1, a2⟩
    · obtain ⟨f2, rfl⟩ : ∃ f2, f' = f2 + 1 := ⟨f' - 1, by omega⟩
      rw [a1]
      simp (disch := omega) only [l_X12_finds_89, b_X12_finds_89, hi_M, hG_M_0, hG_M_1, hG_M_2, hG_M_3, hG_M_4, hG_M_5, hG_M_6, hG_M_7, hG_M_8, hg_M_9, hq_M_9, hG_M_10, hG_M_11, hG_M_12, hg_M_13, hq_M_13, hG_M_14, hg_M_15, hq_M_15, hG_M_16, hg_M_17, hq_M_17, hg_M_18, hq_M_18, hG_M_19, hG_M_20, hG_M_21, hG_M_22, hG_M_23, hG_M_24, hg_M_25, hq_M_25, hG_M_26, hG_M_27, hG_M_28, hg_M_29, hq_M_29, hG_M_30, hG_M_31, hg_M_32, hq_M_32, hg_M_33, hq_M_33, hg_M_34, hq_M_34, hg_M_35, hq_M_35, hG_M_36, hG_M_37, hg_M_38, hq_M_38, hg_M_39, hq_M_39, hG_M_40, hG_M_41, hG_M_42, hG_M_43, hg_M_44, hq_M_44, Option.bind_some, nm_eq, sm_inl, sm_inr, zo_0, zo_1, rg_ok]
      rw [if_pos trivial]
      exact ⟨J1, rfl, h1, h2.1, fun p hq => a3 p hq, h2.2⟩
    · rw [a1]
      exact ih f' J1 (by omega) (by omega) h1 h2
end RD
