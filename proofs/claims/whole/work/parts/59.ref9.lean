/-! ===== the reference: finds ===== -/
def rF (g : GT) (I L : Nat → Nat → Int) : Prop := rTb I ∧ ls1 g (rNi I) (rFi I) ∧ rI2 g (rNi I) (rFi I) I ∧ ls2 g (rNi I) (rFi I) (rBe I) ∧ rOk I L ∧ grD 100 g (rLn I) ∧ grJ g (eR I L) ∧ rRk I ∧ ∃ T, isTC (rlL g (rNi I)) T ∧ ∀ a b, rRe I a b ↔ T a b
theorem rBe_fr {I J : Nat → Nat → Int} (h : J 177 = I 177) : rBe J = rBe I := by funext a t; unfold rBe; rw [h]
theorem rI2_fr {g : GT} {N : Nat → Prop} {F : Nat → Nat → Prop} {I J : Nat → Nat → Int} (h : J 177 = I 177) (q : rI2 g N F I) : rI2 g N F J := by
  unfold rI2 cOk at *; rw [rBe_fr h, h]; exact q
theorem rLn_fr {I J : Nat → Nat → Int} (h : J 178 = I 178) : rLn J = rLn I := by funext a; unfold rLn; rw [h]
theorem eR_fr {I J L K : Nat → Nat → Int} (h : J 178 = I 178) (h2 : K 179 = L 179) : eR J K = eR I L := by funext a; unfold eR; rw [rLn_fr h, h2]
theorem rOk_fr {I J L K : Nat → Nat → Int} (h : J 178 = I 178) (h2 : K 179 = L 179) (q : rOk I L) : rOk J K := by
  unfold rOk at *; rw [rLn_fr h, h, h2]; exact q
theorem rRk_fr {I J : Nat → Nat → Int} (h : J 180 = I 180) (q : rRk I) : rRk J := by unfold rRk cOk at *; rw [h]; exact q
theorem rRe_fr {I J : Nat → Nat → Int} (h : J 180 = I 180) : rRe J = rRe I := by funext a b; unfold rRe; rw [h]
theorem rF_fr {g : GT} {I L J K : Nat → Nat → Int} (h6 : J 176 = I 176) (h7 : J 177 = I 177) (h8 : J 178 = I 178) (h0 : J 180 = I 180) (m : J 161 18 = I 161 18) (h9 : K 179 = L 179) (h : rF g I L) : rF g J K := by
  obtain ⟨a1, a2, a3, a4, a5, a6, a7, a8, a9⟩ := h
  unfold rF
  rw [rNi_fr m, rFi_fr h6, rBe_fr h7, rLn_fr h8, eR_fr h8 h9, rRe_fr h0]
  exact ⟨rTb_fr h6 m a1, a2, rI2_fr h7 a3, a4, rOk_fr h8 h9 a5, a6, a7, rRk_fr h0 a8, a9⟩
theorem RE.fq {g : GT} {l : List Nat} {I J : Nat → Nat → Int} (w : RE g I) (h : Fr l I J) (q : 161 ∉ l ∧ 162 ∉ l ∧ 163 ∉ l ∧ 164 ∉ l ∧ 165 ∉ l ∧ 170 ∉ l) : RE g J := w.fr h (by rw [h 161 q.1]) q.2
section RL
variable {u : Nat} {n : Nat} {g : GT}
def rIn (g : GT) (I L : Nat → Nat → Int) (k : Nat) (s : (Nat → Nat → Int) × (Nat → Nat → Int)) : Prop := Fr [176, 177, 178, 180] I s.1 ∧ Fr [179] L s.2 ∧ ∀ j, j < k → s.1 176 j = 0 ∧ s.1 177 j = (if j = Gt g then 256 else 0) ∧ s.1 178 j = 101 ∧ s.2 179 j = 0 ∧ s.1 180 j = 0
theorem X12_fi20 {I L : Nat → Nat → Int} (w : RE g I) : zLP (16) (fun f k (s : (Nat → Nat → Int) × (Nat → Nat → Int)) => l_X12_finds_20 n f 161 (k : Int) (hp u s.1 s.2))
    (rIn g I L)
    (fun r => ∃ s', r = b_X12_finds_87 n 161 (hp u s'.1 s'.2) ∧ rIn g I L 16 s') := by
  have hg := w.gr
  refine zlp ?_ ?_
  · rintro f k ⟨J, K⟩ hk ⟨h1, h2, h3⟩
    right
    dsimp only at h1 h2 h3 ⊢
    have wJ : RE g J := w.fr h1 (by rw [h1 161 (by decide)]) (by decide)
    have h9 := re_w wJ
    have ht := re_t wJ
    have htg := hg.2.1
    refine ⟨(gx_u (gx_u (gx_u (gx_u J 176 k 0) 177 k (if k = Gt g then 256 else 0)) 178 k 101) 180 k 0, gx_u K 179 k 0), ?_, (((h1.wr (by decide)).wr (by decide)).wr (by decide)).wr (by decide), h2.wr (by decide), fun j hj => ?_⟩
    · simp (disch := omega) only [l_X12_finds_20, b_X12_finds_20, b_X12_finds_58, hi_M, hG_M_0, hG_M_1, hG_M_2, hG_M_3, hG_M_4, hG_M_5, hG_M_6, hG_M_7, hG_M_8, hg_M_9, hq_M_9, hG_M_10, hG_M_11, hG_M_12, hg_M_13, hq_M_13, hG_M_14, hg_M_15, hq_M_15, hG_M_16, hg_M_17, hq_M_17, hg_M_18, hq_M_18, hG_M_19, hG_M_20, hG_M_21, hG_M_22, hG_M_23, hG_M_24, hg_M_25, hq_M_25, hG_M_26, hG_M_27, hG_M_28, hg_M_29, hq_M_29, hG_M_30, hG_M_31, hg_M_32, hq_M_32, hg_M_33, hq_M_33, hg_M_34, hq_M_34, hg_M_35, hq_M_35, hG_M_36, hG_M_37, hg_M_38, hq_M_38, hg_M_39, hq_M_39, hG_M_40, hG_M_41, hG_M_42, hG_M_43, hg_M_44, hq_M_44, ha_170, hs_170, hl_170, ha_176, hs_176, hl_176, ha_177, hs_177, hl_177, ha_178, hs_178, hl_178, ha_179, hs_179, hl_179, ha_180, hs_180, hl_180, Option.bind_some, nm_eq, sm_inl, sm_inr, zo_0, zo_1, rg_ok, h9.1, Int.toNat_natCast, gu_ne (show (161 : Nat) ≠ 176 by decide), gu_ne (show (170 : Nat) ≠ 176 by decide), ht]
      rw [if_neg (by omega), show (k : Int) + 1 = ((k + 1 : Nat) : Int) by omega]
      by_cases e : k = Gt g
      · rw [if_pos (by omega), if_pos e]
      · rw [if_neg (by omega), if_neg e]
    · dsimp only
      simp only [gx_u]
      by_cases e : j = k
      · subst e; simp
      · have := h3 j (by omega)
        simp [e, this]
  · rintro f ⟨J, K⟩ h
    refine ⟨(J, K), ?_, h⟩
    simp (disch := omega) only [l_X12_finds_20, b_X12_finds_20, Option.bind_some, nm_eq, sm_inl, sm_inr, zo_0, zo_1, rg_ok]
    rw [if_pos (by decide)]
theorem nRl : 162 ∉ [176, 177, 178, 180, 161] ∧ 163 ∉ [176, 177, 178, 180, 161] ∧ 164 ∉ [176, 177, 178, 180, 161] ∧ 165 ∉ [176, 177, 178, 180, 161] ∧ 170 ∉ [176, 177, 178, 180, 161] := by decide
theorem X12_finds (hn : 1000000000000000000000000000000 ≤ n) {I L : Nat → Nat → Int} (w : RE g I) (hk : I 161 33 = 0 ∨ (I 161 33 = 1 ∧ rF g I L)) :
    ∃ J K : Nat → Nat → Int, f_X12_finds n 161 (hp u I L) = some (hp u J K) ∧ Fr [176, 177, 178, 180, 161] I J ∧ Fr [179] L K ∧ (∀ k, k ≠ 18 → k ≠ 33 → J 161 k = I 161 k) ∧ J 161 33 = 1 ∧ rF g J K := by
  rcases hk with hk | ⟨hk, hF⟩
  · have hg := w.gr
    have h24 := hg.1
    have ht7 := hg.2.1
    have w0 : RE g (gx_u (gx_u I 161 33 1) 161 18 0) := w.fr ((Fr.rf.wr (List.mem_singleton.mpr rfl)).wr (List.mem_singleton.mpr rfl)) (by rw [gu_at_ne (by decide), gu_at_ne (by decide)]) (by decide)
    obtain ⟨⟨I1, K1⟩, e1, f1, g1, z1⟩ := X12_fi20 (u := u) (n := n) (I := gx_u (gx_u I 161 33 1) 161 18 0) (L := L) w0 16 n 0 (gx_u (gx_u I 161 33 1) 161 18 0, L) (by omega) (by omega) ⟨Fr.rf, Fr.rf, fun j hj => absurd hj (by omega)⟩
    dsimp only at f1 g1 z1
    have q1 : I1 161 = gx_u (gx_u I 161 33 1) 161 18 0 161 := f1 161 (by decide)
    have w1 : RE g I1 := w0.fr f1 (by rw [q1]) (by decide)
    have m1 : I1 161 18 = 0 := by rw [q1, gu_at_eq rfl]
    -- firsts and nullable ones
    have b1 : rBI (rG I1) I1 := by
      refine ⟨⟨fun a ha => ?_, by rw [m1]; decide, fun i hi => by rw [m1, bt_zero] at hi; exact absurd hi (by decide)⟩, fun N' F' _ => ⟨fun a q => ?_, fun a t q => ?_⟩⟩
      · rw [(z1 a ha).1]; exact ⟨by decide, fun i hi => by rw [bt_zero] at hi; exact absurd hi (by decide)⟩
      · have := q.2; rw [m1, bt_zero] at this; exact absurd this (by decide)
      · have := q.2.2; rw [(z1 a q.1).1, bt_zero] at this; exact absurd this (by decide)
    obtain ⟨I2, e2, f2, t2, s2⟩ := X12_finds89 (u := u) (L := K1) hn w1.1 545 n I1 (by omega) (by omega) ⟨Fr.rf, fun _ _ => rfl⟩ b1
    rw [w1.2] at s2
    have w2 : RE g I2 := w1.fr f2.1 (f2.2 9 (by decide)) (by decide)
    have p2 : I2 177 = I1 177 := f2.1 177 (by decide)
    -- what is behind
    have b2 : rI2 (rG I2) (rNi I2) (rFi I2) I2 := by
      have hz : ∀ a, a < 16 → I2 177 a = if a = Gt g then 256 else 0 := fun a ha => by rw [p2]; exact (z1 a ha).2.1
      rw [w2.2]
      refine ⟨fun a ha => ?_, fun a ha i hi => ?_, fun B' hB a t q => ?_, ?_⟩
      · rw [hz a ha]; split <;> decide
      · rw [hz a ha] at hi; split at hi
        · rw [bt_256, decide_eq_true_eq] at hi; omega
        · rw [bt_zero] at hi; exact absurd hi (by decide)
      · have h1 := q.2.2
        rw [hz a q.1] at h1
        split at h1
        · next e => rw [bt_256, decide_eq_true_eq] at h1; rw [e, h1]; exact hB.1
        · rw [bt_zero] at h1; exact absurd h1 (by decide)
      · rw [hz _ (by omega), if_pos rfl, bt_256]; decide
    obtain ⟨I3, e3, f3, t3, s3⟩ := X12_finds103 (u := u) (L := K1) hn w2.1 t2 513 n I2 (by omega) (by omega) Fr.rf b2
    rw [w2.2] at t3 s3
    have w3 : RE g I3 := w2.fr f3 (by rw [f3 161 (by decide)]) (by decide)
    have p3 : I3 178 = I1 178 := (f3 178 (by decide)).trans (f2.1 178 (by decide))
    -- shortest sentences
    have hz3 : ∀ a, a < 16 → rLn I3 a = 1000 := fun a ha => by unfold rLn; rw [p3, (z1 a ha).2.2.1]; rfl
    have b3 : rBL (rG I3) I3 K1 := by
      refine ⟨fun a ha => ?_, fun d hd _ a ha => ?_, fun f hf _ a ha => ?_⟩
      · rw [p3, (z1 a ha).2.2.1, (z1 a ha).2.2.2.1]; exact ⟨by decide, by decide, fun q => absurd q (by decide), fun _ => rfl⟩
      · have := hd a ha; have := hz3 a ha; omega
      · have h1 : eR I3 K1 a = 1000 * 1152921504606846976 := by unfold eR; rw [if_pos (hz3 a ha)]
        rw [h1]; exact okc_le (hf a ha)
    obtain ⟨I4, K4, e4, f4, g4, o4, d4, j4⟩ := X12_finds117 (u := u) hn w3.1 b3
    rw [w3.2] at d4 j4
    have w4 : RE g I4 := w3.fr f4 (by rw [f4 161 (by decide)]) (by decide)
    -- who leads to whom
    have n34 : I4 161 = I2 161 := (f4 161 (by decide)).trans (f3 161 (by decide))
    have n4 : I4 161 18 = I2 161 18 := by rw [n34]
    have p4 : I4 176 = I2 176 := (f4 176 (by decide)).trans (f3 176 (by decide))
    have t4 : rTb I4 := rTb_fr p4 n4 t2
    have c4 : I4 180 = I1 180 := (f4 180 (by decide)).trans ((f3 180 (by decide)).trans (f2.1 180 (by decide)))
    obtain ⟨I5, e5, f5, k5, T, s5, v5⟩ := X12_leadsAll (u := u) (n := n) (L := K4) hn w4 t4 (fun k hk => by rw [c4]; exact (z1 k hk).2.2.2.2)
    have n5 : I5 161 = I2 161 := (f5 161 (by decide)).trans n34
    have p5 : I5 176 = I2 176 := (f5 176 (by decide)).trans p4
    have q5 : I5 177 = I3 177 := (f5 177 (by decide)).trans (f4 177 (by decide))
    have r5 : I5 178 = I4 178 := f5 178 (by decide)
    have n518 : I5 161 18 = I2 161 18 := by rw [n5]
    have fr5 : Fr [176, 177, 178, 180, 161] I I5 := ((((Fr.rf.wr (by decide)).wr (by decide)).tr (f1.up (by simp))).tr (f2.1.up (by simp))).tr ((f3.up (by simp)).tr ((f4.up (by simp)).tr (f5.up (by simp))))
    refine ⟨I5, K4, ?_, fr5, g1.tr g4, fun k hk1 hk2 => ?_, ?_, rTb_fr p5 n518 t2, ?_, ?_, ?_, rOk_fr r5 rfl o4, ?_, ?_, k5, T, ?_, v5⟩
    · have e1' : l_X12_finds_20 n n 161 0 (hp u (gx_u (gx_u I 161 33 1) 161 18 0) L) = b_X12_finds_87 n 161 (hp u I1 K1) := e1
      rw [f_X12_finds]
      simp (disch := omega) only [hi_M, hG_M_0, hG_M_1, hG_M_2, hG_M_3, hG_M_4, hG_M_5, hG_M_6, hG_M_7, hG_M_8, hg_M_9, hq_M_9, hG_M_10, hG_M_11, hG_M_12, hg_M_13, hq_M_13, hG_M_14, hg_M_15, hq_M_15, hG_M_16, hg_M_17, hq_M_17, hg_M_18, hq_M_18, hG_M_19, hG_M_20, hG_M_21, hG_M_22, hG_M_23, hG_M_24, hg_M_25, hq_M_25, hG_M_26, hG_M_27, hG_M_28, hg_M_29, hq_M_29, hG_M_30, hG_M_31, hg_M_32, hq_M_32, hg_M_33, hq_M_33, hg_M_34, hq_M_34, hg_M_35, hq_M_35, hG_M_36, hG_M_37, hg_M_38, hq_M_38, hg_M_39, hq_M_39, hG_M_40, hG_M_41, hG_M_42, hG_M_43, hg_M_44, hq_M_44, Option.bind_some, nm_eq, sm_inl, sm_inr, zo_0, zo_1, rg_ok, hk]
      rw [if_pos trivial, e1', b_X12_finds_87, e2, b_X12_finds_101, e3, e4, b_X12_finds_165]
      simp only [hi_M, hG_M_0, hG_M_1, hG_M_2, hG_M_3, hG_M_4, hG_M_5, hG_M_6, hG_M_7, hG_M_8, hg_M_9, hq_M_9, hG_M_10, hG_M_11, hG_M_12, hg_M_13, hq_M_13, hG_M_14, hg_M_15, hq_M_15, hG_M_16, hg_M_17, hq_M_17, hg_M_18, hq_M_18, hG_M_19, hG_M_20, hG_M_21, hG_M_22, hG_M_23, hG_M_24, hg_M_25, hq_M_25, hG_M_26, hG_M_27, hG_M_28, hg_M_29, hq_M_29, hG_M_30, hG_M_31, hg_M_32, hq_M_32, hg_M_33, hq_M_33, hg_M_34, hq_M_34, hg_M_35, hq_M_35, hG_M_36, hG_M_37, hg_M_38, hq_M_38, hg_M_39, hq_M_39, hG_M_40, hG_M_41, hG_M_42, hG_M_43, hg_M_44, hq_M_44, Option.bind_some, nm_eq, sm_inl, sm_inr, zo_0, zo_1, e5]
    · rw [n5, f2.2 k hk1, q1, gu_at_ne hk1, gu_at_ne hk2]
    · rw [n5, f2.2 33 (by decide), q1, gu_at_ne (by decide), gu_at_eq rfl]
    · rw [rNi_fr n518, rFi_fr p5]; exact s2
    · rw [rNi_fr n518, rFi_fr p5]; exact rI2_fr q5 t3
    · rw [rNi_fr n518, rFi_fr p5, rBe_fr q5]; exact s3
    · rw [rLn_fr r5]; exact d4
    · rw [eR_fr r5 rfl]; exact j4
    · rw [rNi_fr n518, ← rNi_fr n4]; exact s5
  · refine ⟨I, L, ?_, Fr.rf, Fr.rf, fun _ _ _ => rfl, hk, hF⟩
    rw [f_X12_finds]
    simp (disch := omega) only [hi_M, hG_M_0, hG_M_1, hG_M_2, hG_M_3, hG_M_4, hG_M_5, hG_M_6, hG_M_7, hG_M_8, hg_M_9, hq_M_9, hG_M_10, hG_M_11, hG_M_12, hg_M_13, hq_M_13, hG_M_14, hg_M_15, hq_M_15, hG_M_16, hg_M_17, hq_M_17, hg_M_18, hq_M_18, hG_M_19, hG_M_20, hG_M_21, hG_M_22, hG_M_23, hG_M_24, hg_M_25, hq_M_25, hG_M_26, hG_M_27, hG_M_28, hg_M_29, hq_M_29, hG_M_30, hG_M_31, hg_M_32, hq_M_32, hg_M_33, hq_M_33, hg_M_34, hq_M_34, hg_M_35, hq_M_35, hG_M_36, hG_M_37, hg_M_38, hq_M_38, hg_M_39, hq_M_39, hG_M_40, hG_M_41, hG_M_42, hG_M_43, hg_M_44, hq_M_44, Option.bind_some, nm_eq, sm_inl, sm_inr, zo_0, zo_1, rg_ok, hk]
    rw [if_neg (by decide)]
end RL
