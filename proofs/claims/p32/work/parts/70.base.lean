/-! ===== the state between calls ===== -/
def CLQ : List Nat := [64, 65, 66, 67, 68, 69, 70, 71, 72, 73, 74, 75, 76, 77, 78, 79, 80, 81, 82, 83, 84, 85, 86, 145, 146, 147, 148, 149, 150, 151, 152, 153, 154, 155, 156, 157, 158, 159, 160]
theorem CST.eq {u : Nat} {g : GT} {J J' L L' : Nat → Nat → Int} (h : CST u g J L) (e : ∀ a, a ∈ CKL → J' a = J a) (e2 : ∀ a, a ∈ [148, 151, 154] → J' a 2 = J a 2) (eL : L' 69 = L 69) : CST u g J' L' := by
  obtain ⟨⟨w, hg⟩, hF, hm, h1, h2⟩ := h
  have ev : J' (gU u) = J (gU u) ∧ J' (gU u + 1) = J (gU u + 1) ∧ J' (gU u + 2) = J (gU u + 2) ∧ J' (gU u + 3) = J (gU u + 3) := by
    rcases gG4 (gU_mem u) with q | q <;> rw [q] <;> exact ⟨e _ (by decide), e _ (by decide), e _ (by decide), e _ (by decide)⟩
  have w' : GW (gU u) J' := by unfold GW at *; rw [ev.1, ev.2.1, ev.2.2.1, ev.2.2.2]; exact w
  have hg' : cG J' (gU u) = g := by rw [← hg]; unfold cG; rw [ev.1, ev.2.1, ev.2.2.1, ev.2.2.2]
  refine ⟨⟨w', hg'⟩, ?_, ?_, ?_, ?_⟩
  · rcases hF with z | ⟨z1, z2⟩
    · exact Or.inl (by rw [e 64 (by decide)]; exact z)
    · exact Or.inr ⟨by rw [e 64 (by decide)]; exact z1, cF_fr (e 65 (by decide)) (e 66 (by decide)) (e 67 (by decide)) (e 68 (by decide)) (e 71 (by decide)) (e 72 (by decide)) (by rw [e 64 (by decide)]) (by rw [e 64 (by decide)]) (by rw [e 64 (by decide)]) eL z2⟩
  · rw [e2 148 (by decide), e2 151 (by decide), e2 154 (by decide), e 73 (by decide), e 79 (by decide)]; exact hm
  · exact h1.fr (fun k _ => by rw [e (va true) (by decide)]) (e _ (by decide)) (e _ (by decide))
  · exact h2.fr (fun k _ => by rw [e (va false) (by decide)]) (e _ (by decide)) (e _ (by decide))
theorem CST.forgot {u : Nat} {g : GT} {J L : Nat → Nat → Int} (hw : GW (gU u) J) (hg : cG J (gU u) = g) (hm : J 73 1 = 1 ∧ J 79 1 = 0 ∧ J 148 2 = 1 ∧ J 151 2 = 0 ∧ J 154 2 = 0) (h : J 64 1 = 0 ∧ J 73 2 = 0 ∧ J 79 2 = 0) : CST u g J L := ⟨⟨hw, hg⟩, Or.inl h.1, hm, Or.inl h.2.1, Or.inl h.2.2⟩
theorem CG.eq {v : Nat} {J J' : Nat → Nat → Int} {ps : List (Nat × List Nat)} {rs : List (Nat × List Int)} (h : CG v J ps rs) (hps : rs.length ≤ 24) (e : ∀ a, v ≤ a → a < v + 58 → J' a = J a) : CG v J' ps rs := by
  obtain ⟨h1, h2, h3⟩ := h
  refine ⟨?_, by rw [e v (by omega) (by omega)]; exact h2, fun i hi => ?_⟩
  · unfold CP GW at *
    rw [e v (by omega) (by omega), e (v + 1) (by omega) (by omega), e (v + 2) (by omega) (by omega), e (v + 3) (by omega) (by omega)]; exact h1
  · rw [e (v + 5) (by omega) (by omega)]
    exact ⟨(h3 i hi).1, (h3 i hi).2.fr (e _ (by omega) (by omega)) (e _ (by omega) (by omega))⟩
theorem gUO (u : Nat) : (gU u = 3 ∧ gO u = 87) ∨ (gU u = 87 ∧ gO u = 3) := by
  unfold gU gO; split
  · exact Or.inl ⟨rfl, rfl⟩
  · exact Or.inr ⟨rfl, rfl⟩
section IVS
variable {u : Nat} {ps ps1 : List (Nat × List Nat)} {rs rs1 : List (Nat × List Int)} {t : List Int} {lv sd : Nat → Int} {w : Nat → Nat} {nw tp tq : Nat} {J L J' L' : Nat → Nat → Int}
/-- what a question of the class leaves -/
def CQO (u : Nat) (g : GT) (J L J' L' : Nat → Nat → Int) : Prop := Fr CLQ J J' ∧ Fr [69] L L' ∧ CST u g J' L'
theorem CQO.rf {g : GT} (h : CST u g J L) : CQO u g J L J L := ⟨Fr.rf, Fr.rf, h⟩
end IVS
/-! heaps with other references -/
section HX
variable {I L : Nat → Nat → Int} {R : Nat → Nat → Option Nat}
theorem hxS (a : Nat) {s : Nat × Nat} (h : h0S.getD a (0, 0) = s) (ha : a < 162) : gi_S ((162, S0, I, L, R) : gi_H) a = s := by
  have e : gi_S ((162, S0, I, L, R) : gi_H) = S0 := by simp only [gi_S]
  rw [e, ← h]; exact h0_S a ha
theorem hxp {b ci k t : Nat} (h : h0S.getD b (0, 0) = (0, ci)) (ha : b < 162) : gi_pR ((162, S0, I, L, R) : gi_H) b ci k t = some ((162, S0, I, L, gx_u R b k (some t)) : gi_H) := if_pos ⟨ha, hxS b h ha⟩
theorem hxg {b ci k : Nat} (h : h0S.getD b (0, 0) = (0, ci)) (ha : b < 162) : gi_gR ((162, S0, I, L, R) : gi_H) b ci k = R b k := if_pos ⟨ha, hxS b h ha⟩
theorem hxI {b ci k : Nat} {x : Int} (h : h0S.getD b (0, 0) = (0, ci)) (ha : b < 162) : gi_pI ((162, S0, I, L, R) : gi_H) b ci k x = some ((162, S0, gx_u I b k x, L, R) : gi_H) := if_pos ⟨ha, hxS b h ha⟩
theorem hxi {b ci : Nat} (h : h0S.getD b (0, 0) = (0, ci)) (ha : b < 162) : gi_is ((162, S0, I, L, R) : gi_H) b ci = some () := if_pos ⟨ha, hxS b h ha⟩
end HX
section FGT
variable {u : Nat} {I L : Nat → Nat → Int}
def fgt (I : Nat → Nat → Int) : Nat → Nat → Int := gx_u (gx_u (gx_u I 64 1 0) 73 2 0) 79 2 0
theorem hpR_same : gi_pR (hp u I L) 64 2 0 (gU u) = some (hp u I L) := by
  have e : gx_u (hR u) 64 0 (some (gU u)) = hR u := by
    funext a k
    show (if a = 64 then (if k = 0 then some (gU u) else hR u a k) else hR u a k) = hR u a k
    by_cases c : a = 64
    · rw [if_pos c]
      by_cases c2 : k = 0
      · rw [if_pos c2, c, c2]; rfl
      · rw [if_neg c2]
    · rw [if_neg c]
  have h := hxp (I := I) (L := L) (R := hR u) (b := 64) (ci := 2) (k := 0) (t := gU u) rfl (by decide)
  rw [e] at h
  exact h
theorem X11_forget : f_X11_forget 0 (hp u I L) = some (hp u (fgt I) L) := by
  have h73 : (73 : Nat) ∈ [73, 79] := by decide
  have h79 : (79 : Nat) ∈ [73, 79] := by decide
  have z0 : (0 : Int) = 0 ∨ (0 : Int) = 1 := Or.inl rfl
  simp (disch := first | omega | exact Or.inl rfl) only [f_X11_forget, f_X3_forget, f_X0_forget, ↓bnd hpR_same, ↓dhq_A_2 h73 z0, ↓dhq_A_2 h79 z0, ↓dhi_A h73, ↓dhi_A h79, ↓dhi_X, ↓dhG_X_0, ↓dhG_X_1, ↓dhG_X_2, ↓dhg_X_3, ↓dhq_X_3, ↓dhG_X_4, ↓dhG_X_5, ↓dhG_X_6, ↓dhg_X_7, ↓dhq_X_7, ↓dhG_X_8, ↓dhG_X_9, ↓dhG_X_10, ↓dhG_X_11, ↓dhG_X_12, ↓dhG_X_13, ↓dhG_X_14, ↓dhG_X_15, ↓dhG_X_16, ↓dhi_F, ↓dhG_F_0, ↓dhg_F_1, ↓dhq_F_1, ↓dhg_F_2, ↓dhq_F_2, ↓dhg_F_3, ↓dhq_F_3, ↓dhg_F_4, ↓dhq_F_4, ↓dhG_F_5, ↓dhG_F_6, ↓dhG_F_7, ↓dhG_F_8, ↓dhG_F_9, ↓dhg_F_10, ↓dhq_F_10, ↓dhG_F_11, ↓dhG_F_12, ↓dhG_F_13, Option.bind_some, ↓nm_eq, ↓sm_inl, ↓sm_inr, ↓dzo_0, ↓dzo_1, ↓drg_ok, ↓if_pos, ↓if_neg, if_pos, if_neg, if_true, if_false, Int.toNat_natCast, rg_ok]
  rfl
theorem fgt_fr : Fr [64, 73, 79] I (fgt I) := ((Fr.rf.wr (by simp)).wr (by simp)).wr (by simp)
theorem fgt_0 : fgt I 64 1 = 0 ∧ fgt I 73 2 = 0 ∧ fgt I 79 2 = 0 := by
  unfold fgt
  refine ⟨?_, ?_, gu_same _ _ _ _⟩
  · rw [gu_ne (by decide), gu_ne (by decide), gu_same]
  · rw [gu_ne (by decide), gu_same]
theorem fgt_1 : fgt I 73 1 = I 73 1 ∧ fgt I 79 1 = I 79 1 := by
  unfold fgt
  refine ⟨?_, ?_⟩
  · rw [gu_ne (by decide), gu_at_ne (by decide), gu_ne (by decide)]
  · rw [gu_at_ne (by decide), gu_ne (by decide), gu_ne (by decide)]
end FGT
