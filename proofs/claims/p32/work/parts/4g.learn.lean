/-! ===== Facts.learn ===== -/
def cF (g : GT) (I L : Nat → Nat → Int) : Prop := cTb I ∧ ls1 g (cNi I) (cFi I) ∧ ls2 g (cNi I) (cFi I) (cBe I) ∧ (cOk 66 16 I ∧ ∀ a, a < 16 → ∀ i, bt (I 66 a) i = true → i < 9) ∧ (gi_ok (I 64 2) ∧ ls3 g (fun a => bt (I 64 2) a = true)) ∧ (gi_ok (I 64 3) ∧ ∃ T, isTC (rlL g (cNi I)) T ∧ ∀ a, bt (I 64 3) a = true ↔ T a a) ∧ (gi_ok (I 64 4) ∧ ∃ T, isTC (rlC g (cNi I)) T ∧ ∀ a, bt (I 64 4) a = true ↔ T a a) ∧ (cLo I ∧ grD 99 g (cLe I)) ∧ (∃ v, grJ g v ∧ (∀ a, a < 16 → ln v a = if cLe I a = 1000 then 1000 else if cLe I a ≤ 21 then cLe I a else 21) ∧ ∀ a, a < 16 → cLe I a ≤ 20 → L 69 (16 + a) = (tx v a : Int)) ∧ (∀ p, p < 24 → cPd g (cNi I) (cFi I) (cBe I) I p) ∧ cItm g (cNi I) (cFi I) I
theorem cF_fr {g : GT} {I L J K : Nat → Nat → Int} (h5 : J 65 = I 65) (h6 : J 66 = I 66) (h7 : J 67 = I 67) (h8 : J 68 = I 68) (h1 : J 71 = I 71) (h2 : J 72 = I 72) (m2 : J 64 2 = I 64 2) (m3 : J 64 3 = I 64 3) (m4 : J 64 4 = I 64 4) (h9 : K 69 = L 69) (h : cF g I L) : cF g J K := by
  have e1 : cNi J = cNi I := cNi_fr h5
  have e2 : cFi J = cFi I := cFi_fr h5
  have e3 : cBe J = cBe I := by funext a t; unfold cBe; rw [h6]
  have e4 : cLe J = cLe I := cLe_fr h8
  obtain ⟨a1, a2, a3, a4, a5, a6, a7, a8, a9, b1, b2⟩ := h
  unfold cF
  rw [e1, e2, e3, e4, m2, m3, m4, h9]
  refine ⟨cTb_fr h5 a1, a2, a3, ⟨fun k hk => by rw [h6]; exact a4.1 k hk, by rw [h6]; exact a4.2⟩, a5, a6, a7, ⟨cLo_fr h8 a8.1, a8.2⟩, a9, fun p hp => ?_, ?_⟩
  · unfold cPd; rw [h7]; exact b1 p hp
  · unfold cItm cIt; rw [h1, h2]; exact b2
section FK
variable {u : Nat} {n : Nat}
theorem nFl1 : 3 ∉ [65, 66, 70, 64, 68, 67, 71, 72] ∧ 4 ∉ [65, 66, 70, 64, 68, 67, 71, 72] ∧ 5 ∉ [65, 66, 70, 64, 68, 67, 71, 72] ∧ 6 ∉ [65, 66, 70, 64, 68, 67, 71, 72] ∧ 87 ∉ [65, 66, 70, 64, 68, 67, 71, 72] ∧ 88 ∉ [65, 66, 70, 64, 68, 67, 71, 72] ∧ 89 ∉ [65, 66, 70, 64, 68, 67, 71, 72] ∧ 90 ∉ [65, 66, 70, 64, 68, 67, 71, 72] := by decide
theorem X3_learn (hn : 1000000000000000000000000000000 ≤ n) {I L : Nat → Nat → Int} (hw : GW (gU u) I) (hk : I 64 1 = 0 ∨ (I 64 1 = 1 ∧ cF (cG I (gU u)) I L)) :
    ∃ J K : Nat → Nat → Int, f_X3_learn n 64 (hp u I L) = some (hp u J K) ∧ Fr [65, 66, 70, 64, 68, 67, 71, 72] I J ∧ Fr [69] L K ∧ (∀ k, k ≠ 1 → k ≠ 2 → k ≠ 3 → k ≠ 4 → k ≠ 10 → J 64 k = I 64 k) ∧ J 64 1 = 1 ∧ cF (cG I (gU u)) J K ∧ (I 64 1 = 1 → J = I ∧ K = L) := by
  rcases hk with hk | ⟨hk, hF⟩
  · obtain ⟨I1, e1, f1, t1, s1⟩ := X3_findBeginnings (u := u) (L := L) hn hw
    have g1 : Fr [65, 66, 70, 64, 68, 67, 71, 72] I I1 := f1.up (by simp)
    have w1 := GWu_fr g1 nFl1 hw
    obtain ⟨I2, e2, f2, o2, n2, s2⟩ := X3_findBehinds (u := u) (L := L) hn w1 t1
    have g2 : Fr [65, 66, 70, 64, 68, 67, 71, 72] I I2 := g1.tr (f2.up (by simp))
    have w2 := GWu_fr g2 nFl1 hw
    obtain ⟨I3, e3, f3, k3, o3, s3⟩ := X3_findReached (u := u) (L := L) hn w2
    have g3 : Fr [65, 66, 70, 64, 68, 67, 71, 72] I I3 := g2.tr (f3.up (by simp))
    have w3 := GWu_fr g3 nFl1 hw
    have q3 : I3 65 = I1 65 := (f3 65 (by decide)).trans (f2 65 (by decide))
    obtain ⟨I4, T4, e4, f4, k4, o4, s4, v4⟩ := X3_findLeftRecursive (u := u) (L := L) hn w3 (cTb_fr q3 t1)
    have g4 : Fr [65, 66, 70, 64, 68, 67, 71, 72] I I4 := g3.tr (f4.up (by simp))
    have w4 := GWu_fr g4 nFl1 hw
    have q4 : I4 65 = I1 65 := (f4 65 (by decide)).trans q3
    obtain ⟨I5, T5, e5, f5, k5, o5, s5, v5⟩ := X3_findCircular (u := u) (L := L) hn w4 (cTb_fr q4 t1)
    have g5 : Fr [65, 66, 70, 64, 68, 67, 71, 72] I I5 := g4.tr (f5.up (by simp))
    have w5 := GWu_fr g5 nFl1 hw
    obtain ⟨I6, e6, f6, l6, d6⟩ := X3_findLeasts (u := u) (L := L) hn w5
    have g6 : Fr [65, 66, 70, 64, 68, 67, 71, 72] I I6 := g5.tr (f6.up (by simp))
    have w6 := GWu_fr g6 nFl1 hw
    obtain ⟨I7, K7, v, e7, f7, j7, l7, x7⟩ := X3_findSpellings (u := u) (L := L) hn w6 l6 (by rw [cGu_fr (u := u) g6 nFl1, ← cGu_fr (u := u) g5 nFl1]; exact d6)
    have g7 : Fr [65, 66, 70, 64, 68, 67, 71, 72] I I7 := g6.tr (f7.1.up (by simp))
    have w7 := GWu_fr g7 nFl1 hw
    have q7 : I7 65 = I1 65 := (f7.1 65 (by decide)).trans ((f6 65 (by decide)).trans ((f5 65 (by decide)).trans q4))
    have p7 : I7 66 = I2 66 := (f7.1 66 (by decide)).trans ((f6 66 (by decide)).trans ((f5 66 (by decide)).trans ((f4 66 (by decide)).trans (f3 66 (by decide)))))
    obtain ⟨I8, e8, f8, s8⟩ := X3_findPredictions (u := u) (L := K7) hn w7 (cTb_fr q7 t1) (fun k hk => by rw [p7]; exact o2 k hk) (by rw [p7]; exact n2)
    have g8 : Fr [65, 66, 70, 64, 68, 67, 71, 72] I I8 := g7.tr (f8.up (by simp))
    have w8 := GWu_fr g8 nFl1 hw
    have q8 : I8 65 = I1 65 := (f8 65 (by decide)).trans q7
    obtain ⟨I9, e9, f9, s9⟩ := X3_findItems (u := u) (L := K7) hn w8 (cTb_fr q8 t1)
    have g9 : Fr [65, 66, 70, 64, 68, 67, 71, 72] I I9 := g8.tr (f9.up (by simp))
    have q9 : I9 65 = I1 65 := (f9 65 (by decide)).trans q8
    have p9 : I9 66 = I2 66 := (f9 66 (by decide)).trans ((f8 66 (by decide)).trans p7)
    have r9 : I9 68 = I6 68 := (f9 68 (by decide)).trans ((f8 68 (by decide)).trans (f7.1 68 (by decide)))
    have z9 : I9 67 = I8 67 := f9 67 (by decide)
    have y97 : I9 64 = I7 64 := (f9 64 (by decide)).trans (f8 64 (by decide))
    have y65 : I6 64 = I5 64 := f6 64 (by decide)
    have y21 : I2 64 = I 64 := (f2 64 (by decide)).trans (f1 64 (by decide))
    have m2 : I9 64 2 = I3 64 2 := by rw [y97, f7.2.2 2 (by decide), y65, k5 2 (by decide), k4 2 (by decide)]
    have m3 : I9 64 3 = I4 64 3 := by rw [y97, f7.2.2 3 (by decide), y65, k5 3 (by decide)]
    have m4 : I9 64 4 = I5 64 4 := by rw [y97, f7.2.2 4 (by decide), y65]
    have c1 : cNi I9 = cNi I1 := cNi_fr q9
    have c2 : cFi I9 = cFi I1 := cFi_fr q9
    have c3 : cBe I9 = cBe I2 := by funext a t; unfold cBe; rw [p9]
    have c4 : cLe I9 = cLe I6 := cLe_fr r9
    rw [cGu_fr (u := u) g1 nFl1] at s2
    rw [cGu_fr (u := u) g2 nFl1] at s3
    rw [cGu_fr (u := u) g3 nFl1, cNi_fr q3] at s4
    rw [cGu_fr (u := u) g4 nFl1, cNi_fr q4] at s5
    rw [cGu_fr (u := u) g5 nFl1] at d6
    rw [cGu_fr (u := u) g6 nFl1] at j7
    have c37 : cBe I7 = cBe I2 := by funext a t; unfold cBe; rw [p7]
    have n21 : cNi I2 = cNi I1 := cNi_fr (f2 65 (by decide))
    have n22 : cFi I2 = cFi I1 := cFi_fr (f2 65 (by decide))
    rw [cGu_fr (u := u) g7 nFl1, cNi_fr q7, cFi_fr q7, c37] at s8
    rw [cGu_fr (u := u) g8 nFl1, cNi_fr q8, cFi_fr q8] at s9
    have hF9 : cF (cG I (gU u)) I9 K7 := by
      unfold cF
      rw [c1, c2, c3, c4, m2, m3, m4]
      refine ⟨cTb_fr q9 t1, s1, s2, ⟨fun k hk => by rw [p9]; exact o2 k hk, by rw [p9]; exact n2⟩, ⟨o3, s3⟩, ⟨o4, T4, s4, v4⟩, ⟨o5, T5, s5, v5⟩, ⟨cLo_fr r9 l6, d6⟩, ⟨v, j7, l7, x7⟩, fun p hp => ?_, s9⟩
      have := s8 p hp
      unfold cPd at *
      rw [z9]; exact this
    refine ⟨gx_u I9 64 1 1, K7, ?_, g9.wr (by decide), f7.2.1, fun k z1 z2 z3 z4 z10 => ?_, gu_at_eq rfl, ?_, fun q => by omega⟩
    · simp (disch := omega) only [f_X3_learn, hi_F, hG_F_0, hg_F_1, hq_F_1, hg_F_2, hq_F_2, hg_F_3, hq_F_3, hg_F_4, hq_F_4, hG_F_5, hG_F_6, hG_F_7, hG_F_8, hG_F_9, hg_F_10, hq_F_10, hG_F_11, hG_F_12, hG_F_13, Option.bind_some, nm_eq, sm_inl, sm_inr, zo_0, zo_1, rg_ok, hk, e1, e2, e3, e4, e5, e6, e7, e8, e9]
      rw [if_pos trivial]
    · rw [gu_at_ne z1, y97, f7.2.2 k z10, y65, k5 k z4, k4 k z3, k3 k z2, y21]
    · exact cF_fr (gu_ne (by decide)) (gu_ne (by decide)) (gu_ne (by decide)) (gu_ne (by decide)) (gu_ne (by decide)) (gu_ne (by decide)) (gu_at_ne (by decide)) (gu_at_ne (by decide)) (gu_at_ne (by decide)) rfl hF9
  · refine ⟨I, L, ?_, Fr.rf, Fr.rf, fun _ _ _ _ _ _ => rfl, hk, hF, fun _ => ⟨rfl, rfl⟩⟩
    simp (disch := omega) only [f_X3_learn, hi_F, hG_F_0, hg_F_1, hq_F_1, hg_F_2, hq_F_2, hg_F_3, hq_F_3, hg_F_4, hq_F_4, hG_F_5, hG_F_6, hG_F_7, hG_F_8, hG_F_9, hg_F_10, hq_F_10, hG_F_11, hG_F_12, hG_F_13, Option.bind_some, nm_eq, sm_inl, sm_inr, zo_0, zo_1, rg_ok, hk]
    rw [if_neg (by decide)]
end FK
