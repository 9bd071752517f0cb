/-! ===== the state between calls ===== -/
def CLQ : List Nat := [64, 65, 66, 67, 68, 69, 70, 71, 72, 73, 74, 75, 76, 77, 78, 79, 80, 81, 82, 83, 84, 85, 86, 145, 146, 147, 148, 149, 150, 151, 152, 153, 154, 155, 156, 157, 158, 159, 160]
def RLQ : List Nat := [161, 176, 177, 178, 179, 180, 181, 182, 183, 184, 185, 186, 187, 188, 189, 190, 191, 192]
theorem CST.eq {u : Nat} {g : GT} {J J' L L' : Nat → Nat → Int} (h : CST u g J L) (e : ∀ a, a ∈ CKL → J' a = J a) (e2 : ∀ a, a ∈ [148, 151, 154] → J' a 2 = J a 2) (eL : L' 69 = L 69) : CST u g J' L' := by
  obtain ⟨⟨w, hg⟩, hF, hm, h1, h2⟩ := h
  have ev : J' (gU u) = J (gU u) ∧ J' (gU u + 1) = J (gU u + 1) ∧ J' (gU u + 2) = J (gU u + 2) ∧ J' (gU u + 3) = J (gU u + 3) := by
    rcases gG4 (gU_mem u) with q | q <;> rw [q] <;> exact ⟨e _ (by decide), e _ (by decide), e _ (by decide), e _ (by decide)⟩
  have w' : GW (gU u) J' := by unfold GW at *; rw [ev.1, ev.2.1, ev.2.2.1, ev.2.2.2]; exact w
  have hg' : cG J' (gU u) = g := by rw [← hg]; unfold cG; rw [ev.1, ev.2.1, ev.2.2.1, ev.2.2.2]
  refine ⟨⟨w', hg'⟩, ?_, ?_, ?_, ?_⟩
  · rcases hF with z | ⟨z1, z2⟩
    · exact Or.inl (by rw [e 64 (by decide)]; exact z)
    · exact Or.inr ⟨by rw [e 64 (by decide)]; exact z1, cF_fr (e 65 (by decide)) (e 66 (by decide)) (e 67 (by decide)) (e 68 (by decide)) (e 71 (by decide)) (e 72 (by decide)) (by rw [e 64 (by decide)]) (by rw [e 64 (by decide)]) (by rw [e 64 (by decide)]) eL z2⟩
  · rw [e2 148 (by decide), e2 151 (by decide), e2 154 (by decide), e 73 (by decide), e 79 (by decide)]; exact hm
  · exact h1.fr (fun k _ => by rw [e (va true) (by decide)]) (e _ (by decide)) (e _ (by decide))
  · exact h2.fr (fun k _ => by rw [e (va false) (by decide)]) (e _ (by decide)) (e _ (by decide))
theorem RST.eq {g : GT} {J L J' L' : Nat → Nat → Int} (h : RST g J L) (hE : RE g J') (e : ∀ a, a ∈ [176, 177, 178, 180, 181, 183, 184, 185, 186] → J' a = J a) (h9 : ∀ k, k = 18 ∨ k = 25 ∨ k = 29 ∨ k = 32 ∨ k = 33 ∨ k = 34 ∨ k = 35 → J' 161 k = J 161 k) (hL : L' 179 = L 179) : RST g J' L' := by
  obtain ⟨a1, a2, a3, a4⟩ := h
  have hNU : NU g J → NU g J' := fun u => u.fr (e 181 (by decide)) (h9 25 (by omega))
  have hF : rF g J L → rF g J' L' := fun z => rF_fr (e 176 (by decide)) (e 177 (by decide)) (e 178 (by decide)) (e 180 (by decide)) (h9 18 (by omega)) hL z
  have hA : ∀ b, RADn g b J → RADn g b J' := fun b z => by
    have e1 : J' 161 (mF b) = J 161 (mF b) := h9 _ (by cases b <;> simp [mF])
    have e2 : J' 161 (mS b) = J 161 (mS b) := h9 _ (by cases b <;> simp [mS])
    have e3 : J' (mA b) = J (mA b) := e _ (by cases b <;> decide)
    have e4 : J' (mG b) = J (mG b) := e _ (by cases b <;> decide)
    rcases z with z | ⟨z1, z2, z3, z4⟩
    · exact Or.inl (e1.trans z)
    · exact Or.inr ⟨e1.trans z1, (h9 33 (by omega)).trans z2, z3.fr e2 e3 e4, hNU z4⟩
  exact ⟨hE, a2.elim (fun z => Or.inl ((h9 33 (by omega)).trans z)) (fun z => Or.inr ⟨(h9 33 (by omega)).trans z.1, hF z.2⟩), hA _ a3, hA _ a4⟩
theorem RST.forgot {g : GT} {J L : Nat → Nat → Int} (hE : RE g J) (h : J 161 33 = 0 ∧ J 161 34 = 0 ∧ J 161 35 = 0) : RST g J L := ⟨hE, Or.inl h.1, Or.inl h.2.1, Or.inl h.2.2⟩
theorem CST.forgot {u : Nat} {g : GT} {J L : Nat → Nat → Int} (hw : GW (gU u) J) (hg : cG J (gU u) = g) (hm : J 73 1 = 1 ∧ J 79 1 = 0 ∧ J 148 2 = 1 ∧ J 151 2 = 0 ∧ J 154 2 = 0) (h : J 64 1 = 0 ∧ J 73 2 = 0 ∧ J 79 2 = 0) : CST u g J L := ⟨⟨hw, hg⟩, Or.inl h.1, hm, Or.inl h.2.1, Or.inl h.2.2⟩
/-- everything that is the same in class and reference -/
def IV (u : Nat) (ps : List (Nat × List Nat)) (rs : List (Nat × List Int)) (ps1 : List (Nat × List Nat)) (rs1 : List (Nat × List Int)) (t : List Int) (lv sd : Nat → Int) (w : Nat → Nat) (nw tp tq : Nat) (J L : Nat → Nat → Int) : Prop :=
  (u < 2 ∧ AO ps rs ∧ AO ps1 rs1 ∧ SW w nw ∧ tp < 8 ∧ tq < 8) ∧
  (CG (gU u) J ps rs ∧ CG (gO u) J ps1 rs1 ∧ J (gU u) 7 = (tp : Int) ∧ J (gO u) 7 = (tq : Int) ∧ TL 1 J t ∧ CLV lv sd J ∧ CSE w J ∧ J 0 7 = (nw : Int) ∧ J 0 3 = (u : Int)) ∧
  (RG u J ps rs ∧ RG (1 - u) J ps1 rs1 ∧ J 161 9 = (u : Int) ∧ J 170 u = (tp : Int) ∧ J 170 (1 - u) = (tq : Int) ∧ RT J t ∧ RLV lv sd J ∧ WSE w nw J) ∧
  CST u (gtp ps tp) J L ∧ RST (gtp ps tp) J L
theorem CG.eq {v : Nat} {J J' : Nat → Nat → Int} {ps : List (Nat × List Nat)} {rs : List (Nat × List Int)} (h : CG v J ps rs) (hps : rs.length ≤ 24) (e : ∀ a, v ≤ a → a < v + 58 → J' a = J a) : CG v J' ps rs := by
  obtain ⟨h1, h2, h3⟩ := h
  refine ⟨?_, by rw [e v (by omega) (by omega)]; exact h2, fun i hi => ?_⟩
  · unfold CP GW at *
    rw [e v (by omega) (by omega), e (v + 1) (by omega) (by omega), e (v + 2) (by omega) (by omega), e (v + 3) (by omega) (by omega)]; exact h1
  · rw [e (v + 5) (by omega) (by omega)]
    exact ⟨(h3 i hi).1, (h3 i hi).2.fr (e _ (by omega) (by omega)) (e _ (by omega) (by omega))⟩
theorem RG.eq {v : Nat} {J J' : Nat → Nat → Int} {ps : List (Nat × List Nat)} {rs : List (Nat × List Int)} (h : RG v J ps rs) (e : ∀ a, 162 ≤ a → a ≤ 170 → J' a = J a) (e9 : J' 161 9 = J 161 9) : RG v J' ps rs := by
  obtain ⟨h1, h2, h3⟩ := h
  refine ⟨?_, by rw [e 166 (by decide) (by decide)]; exact h2, ?_⟩
  · unfold RQ RW at *
    rw [e9, e 162 (by decide) (by decide), e 163 (by decide) (by decide), e 164 (by decide) (by decide), e 165 (by decide) (by decide), e 170 (by decide) (by decide)]; exact h1
  · rw [e 167 (by decide) (by decide), e 168 (by decide) (by decide), e 169 (by decide) (by decide)]; exact h3
theorem gUO (u : Nat) : (gU u = 3 ∧ gO u = 87) ∨ (gU u = 87 ∧ gO u = 3) := by
  unfold gU gO; split
  · exact Or.inl ⟨rfl, rfl⟩
  · exact Or.inr ⟨rfl, rfl⟩
section IVS
variable {u : Nat} {ps ps1 : List (Nat × List Nat)} {rs rs1 : List (Nat × List Int)} {t : List Int} {lv sd : Nat → Int} {w : Nat → Nat} {nw tp tq : Nat} {J L J' L' : Nat → Nat → Int}
theorem IV.r24 (h : IV u ps rs ps1 rs1 t lv sd w nw tp tq J L) : rs.length ≤ 24 ∧ rs1.length ≤ 24 ∧ ps.length ≤ 24 ∧ ps1.length ≤ 24 := by
  have h1 := h.1.2.1.lt
  have h2 := h.1.2.2.1.lt
  have h3 := h.2.1.1.1.po.1
  have h4 := h.2.1.2.1.1.po.1
  omega
/-- where only what is found and built has changed -/
theorem IV.rest (h : IV u ps rs ps1 rs1 t lv sd w nw tp tq J L) (e : ∀ a, (a < 64 ∨ (87 ≤ a ∧ a ≤ 144) ∨ (162 ≤ a ∧ a ≤ 175)) → J' a = J a) (e9 : ∀ k, k = 9 ∨ k = 13 ∨ k = 17 → J' 161 k = J 161 k) (hc : CST u (gtp ps tp) J' L') (hr : RST (gtp ps tp) J' L') : IV u ps rs ps1 rs1 t lv sd w nw tp tq J' L' := by
  have h24 := h.r24
  obtain ⟨h0, ⟨c1, c2, c3, c4, c5, c6, c7, c8, c9⟩, ⟨r1, r2, r3, r4, r5, r6, r7, r8⟩, -, -⟩ := h
  have hv : ∀ v, v = gU u ∨ v = gO u → ∀ a, v ≤ a → a < v + 58 → J' a = J a := fun v hv a h1 h2 => e a (by rcases gUO u with ⟨q1, q2⟩ | ⟨q1, q2⟩ <;> rcases hv with z | z <;> omega)
  refine ⟨h0, ⟨c1.eq h24.1 (hv _ (Or.inl rfl)), c2.eq h24.2.1 (hv _ (Or.inr rfl)), ?_, ?_, c5.fr (e 1 (by omega)) (e 2 (by omega)), c6.fr (e 61 (by omega)) (e 62 (by omega)), ?_, ?_, ?_⟩, ⟨r1.eq (fun a h1 h2 => e a (by omega)) (e9 9 (by omega)), r2.eq (fun a h1 h2 => e a (by omega)) (e9 9 (by omega)), ?_, ?_, ?_, ?_, r7.fr (e 171 (by omega)) (e 172 (by omega)), ?_⟩, hc, hr⟩
  · rw [hv _ (Or.inl rfl) _ (Nat.le_refl _) (by omega)]; exact c3
  · rw [hv _ (Or.inr rfl) _ (Nat.le_refl _) (by omega)]; exact c4
  · unfold CSE at *; rw [e 63 (by omega)]; exact c7
  · rw [e 0 (by omega)]; exact c8
  · rw [e 0 (by omega)]; exact c9
  · rw [e9 9 (by omega)]; exact r3
  · rw [e 170 (by omega)]; exact r4
  · rw [e 170 (by omega)]; exact r5
  · unfold RT at *; rw [e9 13 (by omega), e 173 (by omega)]; exact r6
  · unfold WSE at *; rw [e9 17 (by omega), e 175 (by omega)]; exact r8
/-- what a question of the class leaves -/
def CQO (u : Nat) (g : GT) (J L J' L' : Nat → Nat → Int) : Prop := Fr CLQ J J' ∧ Fr [69] L L' ∧ CST u g J' L'
/-- what a question of the reference leaves -/
def RQO (g : GT) (J L J' L' : Nat → Nat → Int) : Prop := Fr RLQ J J' ∧ (∀ k, k = 9 ∨ k = 13 ∨ k = 17 → J' 161 k = J 161 k) ∧ (∀ a, a < 161 ∨ a = 193 → L' a = L a) ∧ RST g J' L'
theorem CQO.rf {g : GT} (h : CST u g J L) : CQO u g J L J L := ⟨Fr.rf, Fr.rf, h⟩
theorem IV.c (h : IV u ps rs ps1 rs1 t lv sd w nw tp tq J L) {L1 : Nat → Nat → Int} (q : CQO u (gtp ps tp) J L J' L') (hL : ∀ a, a ≠ 193 → L1 a = L' a) : IV u ps rs ps1 rs1 t lv sd w nw tp tq J' L1 := by
  obtain ⟨f, fL, hc⟩ := q
  have e : ∀ a, a ∉ CLQ → J' a = J a := f
  have hn : ∀ a, (a < 64 ∨ (87 ≤ a ∧ a ≤ 144) ∨ 161 ≤ a) → J' a = J a := fun a ha => f a (fun z => by simp [CLQ] at z; omega)
  refine h.rest (fun a ha => hn a (by omega)) (fun k _ => by rw [hn 161 (by omega)]) (hc.eq (fun _ _ => rfl) (fun _ _ => rfl) (hL 69 (by decide))) ?_
  have hr := h.2.2.2.2
  refine hr.eq (hr.1.fr f (by rw [hn 161 (by omega)]) (by decide)) (fun a ha => hn a (by simp at ha; omega)) (fun k _ => by rw [hn 161 (by omega)]) ?_
  rw [hL 179 (by decide), fL 179 (by decide)]
theorem IV.r (h : IV u ps rs ps1 rs1 t lv sd w nw tp tq J L) (q : RQO (gtp ps tp) J L J' L') : IV u ps rs ps1 rs1 t lv sd w nw tp tq J' L' := by
  obtain ⟨f, f9, fL, hr⟩ := q
  have hn : ∀ a, (a < 161 ∨ (162 ≤ a ∧ a ≤ 175)) → J' a = J a := fun a ha => f a (fun z => by simp [RLQ] at z; omega)
  refine h.rest (fun a ha => hn a (by omega)) f9 ?_ hr
  exact h.2.2.2.1.eq (fun a ha => hn a (by simp [CKL] at ha; omega)) (fun a ha => by rw [hn a (by simp at ha; omega)]) (fL 69 (by omega))
theorem IV.gr (h : IV u ps rs ps1 rs1 t lv sd w nw tp tq J L) : GR (gtp ps tp) := h.2.2.2.1.gr
end IVS
/-! heaps with other references -/
section HX
variable {I L : Nat → Nat → Int} {R : Nat → Nat → Option Nat}
theorem hxS (a : Nat) {s : Nat × Nat} (h : h0S.getD a (0, 0) = s) (ha : a < 194) : gi_S ((194, S0, I, L, R) : gi_H) a = s := by
  have e : gi_S ((194, S0, I, L, R) : gi_H) = S0 := by simp only [gi_S]
  rw [e, ← h]; exact h0_S a ha
theorem hxp {b ci k t : Nat} (h : h0S.getD b (0, 0) = (0, ci)) (ha : b < 194) : gi_pR ((194, S0, I, L, R) : gi_H) b ci k t = some ((194, S0, I, L, gx_u R b k (some t)) : gi_H) := if_pos ⟨ha, hxS b h ha⟩
theorem hxg {b ci k : Nat} (h : h0S.getD b (0, 0) = (0, ci)) (ha : b < 194) : gi_gR ((194, S0, I, L, R) : gi_H) b ci k = R b k := if_pos ⟨ha, hxS b h ha⟩
theorem hxI {b ci k : Nat} {x : Int} (h : h0S.getD b (0, 0) = (0, ci)) (ha : b < 194) : gi_pI ((194, S0, I, L, R) : gi_H) b ci k x = some ((194, S0, gx_u I b k x, L, R) : gi_H) := if_pos ⟨ha, hxS b h ha⟩
theorem hxi {b ci : Nat} (h : h0S.getD b (0, 0) = (0, ci)) (ha : b < 194) : gi_is ((194, S0, I, L, R) : gi_H) b ci = some () := if_pos ⟨ha, hxS b h ha⟩
end HX
section FGT
variable {u : Nat} {I L : Nat → Nat → Int}
def fgt (I : Nat → Nat → Int) : Nat → Nat → Int := gx_u (gx_u (gx_u I 64 1 0) 73 2 0) 79 2 0
theorem hpR_same : gi_pR (hp u I L) 64 2 0 (gU u) = some (hp u I L) := by
  have e : gx_u (hR u) 64 0 (some (gU u)) = hR u := by
    funext a k
    show (if a = 64 then (if k = 0 then some (gU u) else hR u a k) else hR u a k) = hR u a k
    by_cases c : a = 64
    · rw [if_pos c]
      by_cases c2 : k = 0
      · rw [if_pos c2, c, c2]; rfl
      · rw [if_neg c2]
    · rw [if_neg c]
  have h := hxp (I := I) (L := L) (R := hR u) (b := 64) (ci := 2) (k := 0) (t := gU u) rfl (by decide)
  rw [e] at h
  exact h
theorem X11_forget : f_X11_forget 0 (hp u I L) = some (hp u (fgt I) L) := by
  have h73 : (73 : Nat) ∈ [73, 79] := by decide
  have h79 : (79 : Nat) ∈ [73, 79] := by decide
  have z0 : (0 : Int) = 0 ∨ (0 : Int) = 1 := Or.inl rfl
  simp (disch := first | omega | exact Or.inl rfl) only [f_X11_forget, f_X3_forget, f_X0_forget, ↓bnd hpR_same, ↓dhq_A_2 h73 z0, ↓dhq_A_2 h79 z0, ↓dhi_A h73, ↓dhi_A h79, ↓dhi_X, ↓dhG_X_0, ↓dhG_X_1, ↓dhG_X_2, ↓dhg_X_3, ↓dhq_X_3, ↓dhG_X_4, ↓dhG_X_5, ↓dhG_X_6, ↓dhg_X_7, ↓dhq_X_7, ↓dhG_X_8, ↓dhG_X_9, ↓dhG_X_10, ↓dhG_X_11, ↓dhG_X_12, ↓dhG_X_13, ↓dhG_X_14, ↓dhG_X_15, ↓dhG_X_16, ↓dhi_F, ↓dhG_F_0, ↓dhg_F_1, ↓dhq_F_1, ↓dhg_F_2, ↓dhq_F_2, ↓dhg_F_3, ↓dhq_F_3, ↓dhg_F_4, ↓dhq_F_4, ↓dhG_F_5, ↓dhG_F_6, ↓dhG_F_7, ↓dhG_F_8, ↓dhG_F_9, ↓dhg_F_10, ↓dhq_F_10, ↓dhG_F_11, ↓dhG_F_12, ↓dhG_F_13, Option.bind_some, ↓nm_eq, ↓sm_inl, ↓sm_inr, ↓dzo_0, ↓dzo_1, ↓drg_ok, ↓if_pos, ↓if_neg, if_pos, if_neg, if_true, if_false, Int.toNat_natCast, rg_ok]
  rfl
theorem fgt_fr : Fr [64, 73, 79] I (fgt I) := ((Fr.rf.wr (by simp)).wr (by simp)).wr (by simp)
theorem fgt_0 : fgt I 64 1 = 0 ∧ fgt I 73 2 = 0 ∧ fgt I 79 2 = 0 := by
  unfold fgt
  refine ⟨?_, ?_, gu_same _ _ _ _⟩
  · rw [gu_ne (by decide), gu_ne (by decide), gu_same]
  · rw [gu_ne (by decide), gu_same]
theorem fgt_1 : fgt I 73 1 = I 73 1 ∧ fgt I 79 1 = I 79 1 := by
  unfold fgt
  refine ⟨?_, ?_⟩
  · rw [gu_ne (by decide), gu_at_ne (by decide), gu_ne (by decide)]
  · rw [gu_at_ne (by decide), gu_ne (by decide), gu_ne (by decide)]
end FGT
