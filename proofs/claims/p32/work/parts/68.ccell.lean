/-! ===== cells of the tables of states; the class reads one ===== -/
noncomputable def zdb (P : Prop) : Bool := @decide P (Classical.propDecidable P)
theorem zdb_t {P : Prop} : zdb P = true ↔ P := @decide_eq_true_iff P (Classical.propDecidable P)
theorem zdb_f {P : Prop} : zdb P = false ↔ ¬ P := by
  unfold zdb; exact @decide_eq_false_iff_not P (Classical.propDecidable P)
/-- how many of the last m ahead of N, and the lowest of them -/
def cU (f : Nat → Bool) (N : Nat) : Nat → Nat
  | 0 => 0
  | m + 1 => cU f N m + (if f (N - 1 - m) = true then 1 else 0)
def zl (f : Nat → Bool) (N : Nat) : Nat → Int
  | 0 => -1
  | m + 1 => if f (N - 1 - m) = true then ((N - 1 - m : Nat) : Int) else zl f N m
theorem cU_s {f : Nat → Bool} {N m : Nat} : cU f N (m + 1) = cU f N m + (if f (N - 1 - m) = true then 1 else 0) := rfl
theorem zl_s {f : Nat → Bool} {N m : Nat} : zl f N (m + 1) = if f (N - 1 - m) = true then ((N - 1 - m : Nat) : Int) else zl f N m := rfl
theorem cU_le {f : Nat → Bool} {N : Nat} : ∀ m, cU f N m ≤ m
  | 0 => Nat.le_refl _
  | m + 1 => by have := cU_le (f := f) (N := N) m; rw [cU_s]; split <;> omega
theorem zl_rg {f : Nat → Bool} {N : Nat} : ∀ m, m ≤ N → (zl f N m = -1 ∧ cU f N m = 0) ∨ ∃ p : Nat, zl f N m = (p : Int) ∧ p < N ∧ f p = true ∧ 1 ≤ cU f N m
  | 0, _ => Or.inl ⟨rfl, rfl⟩
  | m + 1, h => by
    rw [cU_s, zl_s]
    by_cases c : f (N - 1 - m) = true
    · rw [if_pos c, if_pos c]
      exact Or.inr ⟨_, rfl, by omega, c, by omega⟩
    · rw [if_neg c, if_neg c]
      rcases zl_rg (f := f) (N := N) m (by omega) with ⟨z1, z2⟩ | ⟨p, z1, z2, z3, z4⟩
      · exact Or.inl ⟨z1, z2⟩
      · exact Or.inr ⟨p, z1, z2, z3, by omega⟩
/-- a production may be reduced by -/
def zrd (g : GT) (kd t p y : Nat) : Prop := zR g (kb kd) t p (Gl (gX g) p) 9 ∧ (if kd = 1 then (if p = 24 then y = 8 else zB g (Go g p) y) else zR g (kb kd) t p (Gl (gX g) p) y)
noncomputable def zfr (g : GT) (kd t y : Nat) : Nat → Bool := fun p => zdb (zrd g kd t p y)
noncomputable def zct (g : GT) (kd t y : Nat) : Nat := cU (zfr g kd t y) (Gn g) (Gn g)
noncomputable def zlo (g : GT) (kd t y : Nat) : Int := zl (zfr g kd t y) (Gn g) (Gn g)
noncomputable def zac (g : GT) (kd t y : Nat) : Bool := zdb (zR g (kb kd) t 24 1 9 ∧ y = 8)
noncomputable def zsh (g : GT) (kd t y : Nat) : Bool := zdb (y < 8 ∧ Sm (zS g (kb kd)) t y ≠ -1)
theorem zrd_24 {g : GT} (hg : GR g) {kd t y : Nat} (hb : Sb (zS g (kb kd)) = false) (ht : t < Sn (zS g (kb kd))) (hy : y < 9) : zrd g kd t 24 y ↔ zR g (kb kd) t 24 1 9 ∧ y = 8 := by
  unfold zrd
  rw [gX_l24]
  by_cases c : kd = 1
  · rw [if_pos c, if_pos rfl]
  · rw [if_neg c, zR_24 (y := y) hg hb ht]
    constructor
    · rintro ⟨z1, z2, z3⟩; exact ⟨z1, by omega⟩
    · rintro ⟨z1, z2⟩; exact ⟨z1, z1, Or.inl z2⟩
def b01 (b : Bool) : Int := if b = true then 1 else 0
theorem b01_rg (b : Bool) : b01 b = 0 ∨ b01 b = 1 := by cases b <;> simp [b01]
/-- the cells that the class's grammar and what it keeps of it lie in -/
def CKL : List Nat := [3, 4, 5, 6, 87, 88, 89, 90, 64, 65, 66, 67, 68, 71, 72, 73, 74, 75, 79, 80, 81]
theorem CTB.fr {u : Nat} {g : GT} {kd : Nat} {l : List Nat} {J J' L L' : Nat → Nat → Int} (h : CTB u g kd J L) (f : Fr l J J') (q : ∀ a, a ∈ CKL → a ∉ l) (q2 : ∀ a, a ∈ [148, 151, 154] → J' a 2 = J a 2) (qL : L' 69 = L 69) : CTB u g kd J' L' := by
  obtain ⟨hc, q1, hF, hE, hA⟩ := h
  have e : ∀ a, a ∈ CKL → J' a = J a := fun a ha => f a (q a ha)
  have hF' : cF g J' L' := cF_fr (e 65 (by decide)) (e 66 (by decide)) (e 67 (by decide)) (e 68 (by decide)) (e 71 (by decide)) (e 72 (by decide)) (by rw [e 64 (by decide)]) (by rw [e 64 (by decide)]) (by rw [e 64 (by decide)]) qL hF
  have hE' : CE u g (zN g) (zF g) J' := hE.fr f ⟨⟨q 3 (by decide), q 4 (by decide), q 5 (by decide), q 6 (by decide), q 87 (by decide), q 88 (by decide), q 89 (by decide), q 90 (by decide)⟩, q 71 (by decide), q 72 (by decide)⟩
  have ev : ∀ b, (∀ k, J' (va b) k = J (va b) k) ∧ J' (va b + 1) = J (va b + 1) ∧ J' (va b + 2) = J (va b + 2) := fun b => by
    cases b
    · exact ⟨fun k => by rw [e (va false) (by decide)], e _ (by decide), e _ (by decide)⟩
    · exact ⟨fun k => by rw [e (va true) (by decide)], e _ (by decide), e _ (by decide)⟩
  have q64 : J' 64 1 = 1 := by rw [e 64 (by decide)]; exact q1
  refine ⟨⟨⟨hE'.1, hE'.2.1⟩, Or.inr ⟨q64, hF'⟩, ?_, ?_, ?_⟩, q64, hF', hE', fun hk1 => ?_⟩
  · rw [q2 148 (by decide), q2 151 (by decide), q2 154 (by decide), e 73 (by decide), e 79 (by decide)]; exact hc.2.2.1
  · exact hc.2.2.2.1.fr (fun k _ => (ev true).1 k) (ev true).2.1 (ev true).2.2
  · exact hc.2.2.2.2.fr (fun k _ => (ev false).1 k) (ev false).2.1 (ev false).2.2
  · obtain ⟨a1, a2⟩ := hA hk1
    exact ⟨((ev (kb kd)).1 2).trans a1, CAU_fr a2 (fun k _ => (ev (kb kd)).1 k) (ev (kb kd)).2.1 (ev (kb kd)).2.2⟩
section CC_
variable {u : Nat} {n : Nat} {L : Nat → Nat → Int} {g : GT}
/-- a row of the class's automaton, built -/
theorem ctb_row {kd : Nat} {J : Nat → Nat → Int} (h : CTB u g kd J L) (hk : 1 ≤ kd) (hb : Sb (zS g (kb kd)) = false) :
    J (va (kb kd)) 3 = 0 ∧ J (va (kb kd)) 4 = (Sn (zS g (kb kd)) : Int) ∧ (∀ t, t < Sn (zS g (kb kd)) → ∀ p k, vI g p k → gi_ok (J (va (kb kd) + 1) (150 * t + (6 * p + k))) ∧ (J (va (kb kd) + 1) (150 * t + (6 * p + k)) = 0 ↔ ¬ zR g (kb kd) t p k 9) ∧ ∀ y, bt (J (va (kb kd) + 1) (150 * t + (6 * p + k))) y = true ↔ zR g (kb kd) t p k y) ∧
    ∀ s X, s < Sn (zS g (kb kd)) → X < 32 → J (va (kb kd) + 2) (32 * s + X) = if X < 8 ∨ 16 ≤ X then Sm (zS g (kb kd)) s (zix X) else -1 := by
  rcases (h.2.2.2.2 hk).2 with ⟨z, -⟩ | ⟨-, c3, c4, c5, c6⟩
  · have z' : Sb (zS g (kb kd)) = true := z
    rw [hb] at z'; exact absurd z' (by decide)
  · refine ⟨c3, c4, fun t ht p k hv => ?_, c6⟩
    obtain ⟨d1, d2, d3⟩ := c5 t ht
    have hz : SR g (va (kb kd) + 1) (ac t) J = zR g (kb kd) t := d3
    obtain ⟨v1, v2, v3⟩ := d1 p k hv
    have hbt : ∀ y, bt (J (va (kb kd) + 1) (150 * t + (6 * p + k))) y = true ↔ zR g (kb kd) t p k y := fun y => by
      rw [← hz]; exact ⟨fun q => ⟨hv, q⟩, fun q => q.2⟩
    refine ⟨v1, ⟨fun q r => ?_, fun q => ?_⟩, hbt⟩
    · have := (hbt 9).mpr r
      rw [q, bt_zero] at this; exact absurd this (by decide)
    · rcases v3 with w | w
      · exact w
      · exact absurd ((hbt 9).mp w) q
theorem tb_m {kd : Nat} (hk : 1 ≤ kd ∧ kd ≤ 3) : tb kd ∈ [148, 151, 154] ∧ (if tb kd = 154 then 79 else 73) = va (kb kd) := by
  have : kd = 1 ∨ kd = 2 ∨ kd = 3 := by omega
  rcases this with rfl | rfl | rfl <;> decide
theorem CTB.simple {kd : Nat} {J : Nat → Nat → Int} (h : CTB u g kd J L) (hk : 1 ≤ kd ∧ kd ≤ 3) : J (tb kd) 2 = if kd = 1 then 1 else 0 := by
  obtain ⟨-, -, hm, -⟩ := h.1
  have : kd = 1 ∨ kd = 2 ∨ kd = 3 := by omega
  rcases this with rfl | rfl | rfl
  · exact hm.2.2.1
  · exact hm.2.2.2.1
  · exact hm.2.2.2.2
theorem cF_be {J : Nat → Nat → Int} (h : cF g J L) {a : Nat} (ha : a < 16) : gi_ok (J 66 a) ∧ ∀ y, y < 9 → (bt (J 66 a) y = true ↔ zB g a y) := by
  obtain ⟨-, -, e3⟩ := cF_NF h
  refine ⟨h.2.2.2.1.1 a ha, fun y hy => ?_⟩
  rw [← e3]
  exact ⟨fun z => ⟨ha, hy, z⟩, fun z => z.2.2⟩
theorem X9_reducedBy {kd : Nat} {J : Nat → Nat → Int} (h : CTB u g kd J L) (hk : 1 ≤ kd ∧ kd ≤ 3) (hb : Sb (zS g (kb kd)) = false) {t p : Nat} (ht : t < Sn (zS g (kb kd))) (hp1 : p < Gn g) :
    ∃ r : Int, f_X9_reducedBy (tb kd) (t : Int) (p : Int) (hp u J L) = some r ∧ ∀ y, y < 9 → (bt r y = true ↔ zrd g kd t p y) := by
  have hg := h.1.gr
  have h24 := hg.1
  obtain ⟨hv, hva⟩ := tb_m hk
  have hs := h.simple hk
  obtain ⟨⟨hw, hcg⟩, -⟩ := h.1
  have hm := gU_mem u
  have hne : p ≠ 24 := by omega
  have hl := hg.2.2.2.1 p
  have ho := hg.2.2.1 p
  have h80 := (zS_n (b := kb kd) hg).2.1
  have el := X4_length (u := u) (L := L) hm hw (p := p) (by omega)
  have eo := X4_owner (u := u) (L := L) hm hw (p := p) (by rw [hcg]; exact hp1)
  rw [hcg] at el eo
  have hvI : vI g p (Gl g p) := ⟨Or.inl hp1, by rw [gX_l hne]; exact Nat.le_refl _⟩
  obtain ⟨-, -, hrow, -⟩ := ctb_row h hk.1 hb
  obtain ⟨r1, r2, r3⟩ := hrow t ht p (Gl g p) hvI
  have er := X0_row (u := u) (L := L) (va_m (kb kd)) (J := J) (s := t) (x := 6 * p + Gl g p) (by omega) (by omega)
  have ei : (p : Int) * 6 + (Gl g p : Int) = ((6 * p + Gl g p : Nat) : Int) := by omega
  have hA : gi_is (hp u J L) (va (kb kd)) 0 = some () := hi_A (va_m (kb kd))
  have hA0 : f_X0_facts (va (kb kd)) (hp u J L) = some 64 := by
    simp only [f_X0_facts, hG_A_0 (va_m (kb kd)), Option.bind_some]
  have hAg : gi_gR (hp u J L) (tb kd) 8 1 = some (va (kb kd)) := by rw [← hva]; exact hG_S_1 hv
  have hrg : gi_ok (J (va (kb kd) + 1) (150 * t + (6 * p + Gl g p))) := r1
  have hrg' : -2147483648 ≤ J (va (kb kd) + 1) (150 * t + (6 * p + Gl g p)) ∧ J (va (kb kd) + 1) (150 * t + (6 * p + Gl g p)) ≤ 2147483647 := hrg
  have hzl : Gl (gX g) p = Gl g p := gX_l hne
  by_cases c : J (va (kb kd) + 1) (150 * t + (6 * p + Gl g p)) = 0
  · refine ⟨0, ?_, fun y hy => ?_⟩
    · simp (disch := omega) only [f_X9_reducedBy, ↓dhi_F, ↓dhG_F_0, ↓dhg_F_1, ↓dhq_F_1, ↓dhg_F_2, ↓dhq_F_2, ↓dhg_F_3, ↓dhq_F_3, ↓dhg_F_4, ↓dhq_F_4, ↓dhG_F_5, ↓dhG_F_6, ↓dhG_F_7, ↓dhG_F_8, ↓dhG_F_9, ↓dhg_F_10, ↓dhq_F_10, ↓dhG_F_11, ↓dhG_F_12, ↓dhG_F_13, ↓dhi_G hm, ↓dhG_G_0 hm, ↓dhG_G_1 hm, ↓dhG_G_2 hm, ↓dhg_G_3 hm, ↓dhq_G_3 hm, ↓dhG_G_4 hm, ↓dhG_G_5 hm, ↓dhg_G_6 hm, ↓dhq_G_6 hm, ↓dhg_G_7 hm, ↓dhq_G_7 hm, ↓dhG_G_8 hm, ↓dhG_G_9 hm, ↓dha_G_1 hm, ↓dhs_G_1 hm, ↓dhl_G_1 hm, ↓dha_G_2 hm, ↓dhs_G_2 hm, ↓dhl_G_2 hm, ↓dha_G_3 hm, ↓dhs_G_3 hm, ↓dhl_G_3 hm, ↓dha_G_4 hm, ↓dhl_G_4 hm, ↓dha_G_5 hm, ↓dhs_G_5 hm, ↓dhl_G_5 hm, Option.bind_some, ↓nm_eq, ↓sm_inl, ↓sm_inr, ↓dzo_0, ↓dzo_1, ↓drg_ok, ↓if_pos, ↓if_neg, if_pos, if_neg, if_true, if_false, Int.toNat_natCast, rg_ok, ↓bnd hAg, ↓bnd hA, ↓bnd hA0, ↓bnd X3_grammar, ↓bnd el, ei, ↓bnd er, c]
    · rw [bt_zero]
      refine ⟨fun z => absurd z (by decide), fun z => ?_⟩
      have := z.1
      rw [hzl] at this
      exact absurd this (r2.mp c)
  · have h9 : zR g (kb kd) t p (Gl g p) 9 := by
      apply Classical.byContradiction
      intro w; exact c (r2.mpr w)
    by_cases ck : kd = 1
    · have hs1 : J (tb kd) 2 = 1 := by rw [hs, if_pos ck]
      obtain ⟨b1, b2⟩ := cF_be h.2.2.1 ho
      have eb := X3_behind (u := u) (L := L) (I := J) (Go g p) ho
      refine ⟨J 66 (Go g p), ?_, fun y hy => ?_⟩
      · simp (disch := omega) only [f_X9_reducedBy, ↓dhi_F, ↓dhG_F_0, ↓dhg_F_1, ↓dhq_F_1, ↓dhg_F_2, ↓dhq_F_2, ↓dhg_F_3, ↓dhq_F_3, ↓dhg_F_4, ↓dhq_F_4, ↓dhG_F_5, ↓dhG_F_6, ↓dhG_F_7, ↓dhG_F_8, ↓dhG_F_9, ↓dhg_F_10, ↓dhq_F_10, ↓dhG_F_11, ↓dhG_F_12, ↓dhG_F_13, ↓dhi_S hv, ↓dhg_S_0 hv, ↓dhq_S_0 hv, ↓dhG_S_1 hv, ↓dhg_S_2 hv, ↓dhq_S_2 hv, ↓dhG_S_3 hv, ↓dhG_S_4 hv, ↓dhG_S_5 hv, ↓dhg_S_6 hv, ↓dhq_S_6 hv, ↓dhg_S_7 hv, ↓dhq_S_7 hv, ↓dhg_S_8 hv, ↓dhq_S_8 hv, ↓dhg_S_9 hv, ↓dhq_S_9 hv, ↓dhG_S_10 hv, ↓dhG_S_11 hv, ↓dhg_S_12 hv, ↓dhq_S_12 hv, ↓dha_S_1 hv, ↓dhs_S_1 hv, ↓dhl_S_1 hv, ↓dha_S_2 hv, ↓dhs_S_2 hv, ↓dhl_S_2 hv, ↓dhi_G hm, ↓dhG_G_0 hm, ↓dhG_G_1 hm, ↓dhG_G_2 hm, ↓dhg_G_3 hm, ↓dhq_G_3 hm, ↓dhG_G_4 hm, ↓dhG_G_5 hm, ↓dhg_G_6 hm, ↓dhq_G_6 hm, ↓dhg_G_7 hm, ↓dhq_G_7 hm, ↓dhG_G_8 hm, ↓dhG_G_9 hm, ↓dha_G_1 hm, ↓dhs_G_1 hm, ↓dhl_G_1 hm, ↓dha_G_2 hm, ↓dhs_G_2 hm, ↓dhl_G_2 hm, ↓dha_G_3 hm, ↓dhs_G_3 hm, ↓dhl_G_3 hm, ↓dha_G_4 hm, ↓dhl_G_4 hm, ↓dha_G_5 hm, ↓dhs_G_5 hm, ↓dhl_G_5 hm, Option.bind_some, ↓nm_eq, ↓sm_inl, ↓sm_inr, ↓dzo_0, ↓dzo_1, ↓drg_ok, ↓if_pos, ↓if_neg, if_pos, if_neg, if_true, if_false, Int.toNat_natCast, rg_ok, hva, ↓bnd hAg, ↓bnd hA, ↓bnd hA0, ↓bnd X3_grammar, ↓bnd el, ei, ↓bnd er, hs1, ↓bnd eo, ↓bnd eb]
      · rw [b2 y hy]
        unfold zrd
        rw [hzl, if_pos ck, if_neg hne]
        exact ⟨fun z => ⟨h9, z⟩, fun z => z.2⟩
    · have hs1 : J (tb kd) 2 = 0 := by rw [hs, if_neg ck]
      refine ⟨gi_and (J (va (kb kd) + 1) (150 * t + (6 * p + Gl g p))) 511, ?_, fun y hy => ?_⟩
      · simp (disch := omega) only [f_X9_reducedBy, ↓dhi_F, ↓dhG_F_0, ↓dhg_F_1, ↓dhq_F_1, ↓dhg_F_2, ↓dhq_F_2, ↓dhg_F_3, ↓dhq_F_3, ↓dhg_F_4, ↓dhq_F_4, ↓dhG_F_5, ↓dhG_F_6, ↓dhG_F_7, ↓dhG_F_8, ↓dhG_F_9, ↓dhg_F_10, ↓dhq_F_10, ↓dhG_F_11, ↓dhG_F_12, ↓dhG_F_13, ↓dhi_S hv, ↓dhg_S_0 hv, ↓dhq_S_0 hv, ↓dhG_S_1 hv, ↓dhg_S_2 hv, ↓dhq_S_2 hv, ↓dhG_S_3 hv, ↓dhG_S_4 hv, ↓dhG_S_5 hv, ↓dhg_S_6 hv, ↓dhq_S_6 hv, ↓dhg_S_7 hv, ↓dhq_S_7 hv, ↓dhg_S_8 hv, ↓dhq_S_8 hv, ↓dhg_S_9 hv, ↓dhq_S_9 hv, ↓dhG_S_10 hv, ↓dhG_S_11 hv, ↓dhg_S_12 hv, ↓dhq_S_12 hv, ↓dha_S_1 hv, ↓dhs_S_1 hv, ↓dhl_S_1 hv, ↓dha_S_2 hv, ↓dhs_S_2 hv, ↓dhl_S_2 hv, ↓dhi_G hm, ↓dhG_G_0 hm, ↓dhG_G_1 hm, ↓dhG_G_2 hm, ↓dhg_G_3 hm, ↓dhq_G_3 hm, ↓dhG_G_4 hm, ↓dhG_G_5 hm, ↓dhg_G_6 hm, ↓dhq_G_6 hm, ↓dhg_G_7 hm, ↓dhq_G_7 hm, ↓dhG_G_8 hm, ↓dhG_G_9 hm, ↓dha_G_1 hm, ↓dhs_G_1 hm, ↓dhl_G_1 hm, ↓dha_G_2 hm, ↓dhs_G_2 hm, ↓dhl_G_2 hm, ↓dha_G_3 hm, ↓dhs_G_3 hm, ↓dhl_G_3 hm, ↓dha_G_4 hm, ↓dhl_G_4 hm, ↓dha_G_5 hm, ↓dhs_G_5 hm, ↓dhl_G_5 hm, Option.bind_some, ↓nm_eq, ↓sm_inl, ↓sm_inr, ↓dzo_0, ↓dzo_1, ↓drg_ok, ↓if_pos, ↓if_neg, if_pos, if_neg, if_true, if_false, Int.toNat_natCast, rg_ok, hva, ↓bnd hAg, ↓bnd hA, ↓bnd hA0, ↓bnd X3_grammar, ↓bnd el, ei, ↓bnd er, hs1]
      · rw [bt_511i, r3 y]
        unfold zrd
        rw [hzl, if_neg ck]
        exact ⟨fun z => ⟨h9, z.1⟩, fun z => ⟨z.2, hy⟩⟩
theorem X9_readCell (hn : 1000000000000000000000000000000 ≤ n) {kd : Nat} {J0 : Nat → Nat → Int} (h : CTB u g kd J0 L) (hk : 1 ≤ kd ∧ kd ≤ 3) (hb : Sb (zS g (kb kd)) = false) {t y : Nat} (ht : t < Sn (zS g (kb kd))) (hy : y < 9) :
    ∃ J, f_X9_readCell n (tb kd) (t : Int) (y : Int) (hp u J0 L) = some (hp u J L) ∧ Fr [tb kd] J0 J ∧ (∀ k, k ≠ 6 → k ≠ 7 → k ≠ 8 → k ≠ 9 → J (tb kd) k = J0 (tb kd) k) ∧ J (tb kd) 6 = b01 (zsh g kd t y) ∧ J (tb kd) 7 = b01 (zac g kd t y) ∧ J (tb kd) 8 = (zct g kd t y : Int) ∧ J (tb kd) 9 = zlo g kd t y := by
  have hg := h.1.gr
  have h24 := hg.1
  obtain ⟨hv, hva⟩ := tb_m hk
  have hvne : tb kd ≠ 64 ∧ tb kd ≠ 66 ∧ tb kd ≠ 73 ∧ tb kd ≠ 74 ∧ tb kd ≠ 75 ∧ tb kd ≠ 79 ∧ tb kd ≠ 80 ∧ tb kd ≠ 81 := by
    have : kd = 1 ∨ kd = 2 ∨ kd = 3 := by omega
    rcases this with rfl | rfl | rfl <;> decide
  have hm := gU_mem u
  have h80 := (zS_n (b := kb kd) hg).2.1
  have hA : ∀ J, gi_is (hp u J L) (va (kb kd)) 0 = some () := fun J => hi_A (va_m (kb kd))
  have hA0 : ∀ J, f_X0_facts (va (kb kd)) (hp u J L) = some 64 := fun J => by
    simp only [f_X0_facts, hG_A_0 (va_m (kb kd)), Option.bind_some]
  have hAg : ∀ J, gi_gR (hp u J L) (tb kd) 8 1 = some (va (kb kd)) := fun J => by rw [← hva]; exact hG_S_1 hv
  have hfr : ∀ J, Fr [tb kd] J0 J → J (tb kd) 2 = J0 (tb kd) 2 → CTB u g kd J L := fun J f q2 => by
    have hk3 : kd = 1 ∨ kd = 2 ∨ kd = 3 := by omega
    refine h.fr f ?_ (fun a ha => ?_) rfl
    · rcases hk3 with rfl | rfl | rfl <;> decide
    · by_cases c : a = tb kd
      · rw [c]; exact q2
      · rw [f a (by simpa using c)]
  obtain ⟨-, -, hrow, hmov⟩ := ctb_row h hk.1 hb
  -- the productions, from the last one down
  have lp : zLP (Gn g) (fun f m (J : Nat → Nat → Int) => l_X9_readCell_81 n f (tb kd) (t : Int) (y : Int) ((Gn g : Int) - 1 - (m : Int)) (hp u J L))
      (fun m J => Fr [tb kd] J0 J ∧ (∀ k, k ≠ 6 → k ≠ 7 → k ≠ 8 → k ≠ 9 → J (tb kd) k = J0 (tb kd) k) ∧ J (tb kd) 6 = b01 (zsh g kd t y) ∧ J (tb kd) 7 = b01 (zac g kd t y) ∧ J (tb kd) 8 = (cU (zfr g kd t y) (Gn g) m : Int) ∧ J (tb kd) 9 = zl (zfr g kd t y) (Gn g) m)
      (fun res => ∃ J, res = some (hp u J L) ∧ Fr [tb kd] J0 J ∧ (∀ k, k ≠ 6 → k ≠ 7 → k ≠ 8 → k ≠ 9 → J (tb kd) k = J0 (tb kd) k) ∧ J (tb kd) 6 = b01 (zsh g kd t y) ∧ J (tb kd) 7 = b01 (zac g kd t y) ∧ J (tb kd) 8 = (zct g kd t y : Int) ∧ J (tb kd) 9 = zlo g kd t y) := by
    refine zlp ?_ ?_
    · rintro f m J hm1 ⟨f1, f2, f3, f4, f5, f6⟩
      right
      have hC := hfr J f1 (f2 2 (by decide) (by decide) (by decide) (by decide))
      obtain ⟨r, er, hr⟩ := X9_reducedBy (u := u) hC hk hb ht (p := Gn g - 1 - m) (by omega)
      have ep : ((Gn g : Int) - 1 - (m : Int)) = ((Gn g - 1 - m : Nat) : Int) := by omega
      have eh := X11_has r y (by omega) (hp u J L)
      have ek : ((Gn g - 1 - m : Nat) : Int) + -1 = (Gn g : Int) - 1 - ((m + 1 : Nat) : Int) := by omega
      have hcle := cU_le (f := zfr g kd t y) (N := Gn g) m
      by_cases c : bt r y = true
      · rw [if_pos c] at eh
        have hz : zfr g kd t y (Gn g - 1 - m) = true := zdb_t.mpr ((hr y hy).mp c)
        refine ⟨gx_u (gx_u J (tb kd) 8 ((cU (zfr g kd t y) (Gn g) m : Int) + 1)) (tb kd) 9 ((Gn g - 1 - m : Nat) : Int), ?_, (f1.wr (by simp)).wr (by simp), fun k h1 h2 h3 h4 => by rw [gu_at_ne h4, gu_at_ne h3]; exact f2 k h1 h2 h3 h4, ?_, ?_, ?_, ?_⟩
        · rw [ep]
          simp (disch := omega) only [l_X9_readCell_81, b_X9_readCell_81, b_X9_readCell_116, ↓dhi_S hv, ↓dhg_S_0 hv, ↓dhq_S_0 hv, ↓dhG_S_1 hv, ↓dhg_S_2 hv, ↓dhq_S_2 hv, ↓dhG_S_3 hv, ↓dhG_S_4 hv, ↓dhG_S_5 hv, ↓dhg_S_6 hv, ↓dhq_S_6 hv, ↓dhg_S_7 hv, ↓dhq_S_7 hv, ↓dhg_S_8 hv, ↓dhq_S_8 hv, ↓dhg_S_9 hv, ↓dhq_S_9 hv, ↓dhG_S_10 hv, ↓dhG_S_11 hv, ↓dhg_S_12 hv, ↓dhq_S_12 hv, ↓dha_S_1 hv, ↓dhs_S_1 hv, ↓dhl_S_1 hv, ↓dha_S_2 hv, ↓dhs_S_2 hv, ↓dhl_S_2 hv, Option.bind_some, ↓nm_eq, ↓sm_inl, ↓sm_inr, ↓dzo_0, ↓dzo_1, ↓drg_ok, ↓if_pos, ↓if_neg, if_pos, if_neg, if_true, if_false, Int.toNat_natCast, rg_ok, ↓bnd er, ↓bnd eh, f5, ek]
        · rw [gu_at_ne (by decide), gu_at_ne (by decide)]; exact f3
        · rw [gu_at_ne (by decide), gu_at_ne (by decide)]; exact f4
        · rw [gu_at_ne (by decide), gu_at_eq rfl]; rw [cU_s, if_pos hz]; omega
        · rw [gu_at_eq rfl]; rw [zl_s, if_pos hz]
      · rw [if_neg c] at eh
        have hz : ¬ zfr g kd t y (Gn g - 1 - m) = true := fun z => c ((hr y hy).mpr (zdb_t.mp z))
        refine ⟨J, ?_, f1, f2, f3, f4, ?_, ?_⟩
        · rw [ep]
          simp (disch := omega) only [l_X9_readCell_81, b_X9_readCell_81, b_X9_readCell_116, ↓dhi_S hv, ↓dhg_S_0 hv, ↓dhq_S_0 hv, ↓dhG_S_1 hv, ↓dhg_S_2 hv, ↓dhq_S_2 hv, ↓dhG_S_3 hv, ↓dhG_S_4 hv, ↓dhG_S_5 hv, ↓dhg_S_6 hv, ↓dhq_S_6 hv, ↓dhg_S_7 hv, ↓dhq_S_7 hv, ↓dhg_S_8 hv, ↓dhq_S_8 hv, ↓dhg_S_9 hv, ↓dhq_S_9 hv, ↓dhG_S_10 hv, ↓dhG_S_11 hv, ↓dhg_S_12 hv, ↓dhq_S_12 hv, ↓dha_S_1 hv, ↓dhs_S_1 hv, ↓dhl_S_1 hv, ↓dha_S_2 hv, ↓dhs_S_2 hv, ↓dhl_S_2 hv, Option.bind_some, ↓nm_eq, ↓sm_inl, ↓sm_inr, ↓dzo_0, ↓dzo_1, ↓drg_ok, ↓if_pos, ↓if_neg, if_pos, if_neg, if_true, if_false, Int.toNat_natCast, rg_ok, ↓bnd er, ↓bnd eh, ek]
        · rw [cU_s, if_neg hz]; exact f5
        · rw [zl_s, if_neg hz]; exact f6
    · rintro f J ⟨f1, f2, f3, f4, f5, f6⟩
      refine ⟨J, ?_, f1, f2, f3, f4, f5, f6⟩
      have ep : ((Gn g : Int) - 1 - (Gn g : Int)) = -1 := by omega
      rw [ep]
      simp (disch := omega) only [l_X9_readCell_81, b_X9_readCell_81, Option.bind_some, ↓nm_eq, ↓sm_inl, ↓sm_inr, ↓dzo_0, ↓dzo_1, ↓drg_ok, ↓if_pos, ↓if_neg, if_pos, if_neg, if_true, if_false, Int.toNat_natCast, rg_ok]
  -- the head
  have hv24 : vI g 24 1 := ⟨Or.inr rfl, by rw [gX_l24]; exact Nat.le_refl _⟩
  obtain ⟨r1, r2, r3⟩ := hrow t ht 24 1 hv24
  have hac : ∀ J : Nat → Nat → Int, f_X11_has (gi_and (J0 (va (kb kd) + 1) (150 * t + (6 * 24 + 1))) 511) (y : Int) (hp u J L) = some (b01 (zac g kd t y)) := fun J => by
    rw [X11_has _ y (by omega)]
    congr 1
    unfold b01
    by_cases c : bt (gi_and (J0 (va (kb kd) + 1) (150 * t + (6 * 24 + 1))) 511) y = true
    · rw [if_pos c, if_pos]
      rw [bt_511i, r3, zR_24 hg hb ht] at c
      exact zdb_t.mpr ⟨c.1.1, by omega⟩
    · rw [if_neg c, if_neg]
      intro z
      have := zdb_t.mp z
      exact c (by rw [bt_511i, r3, zR_24 hg hb ht]; exact ⟨⟨this.1, Or.inl this.2⟩, hy⟩)
  have hM : ∀ s : Int, ∃ J1, J1 = gx_u (gx_u (gx_u (gx_u J0 (tb kd) 6 s) (tb kd) 7 (b01 (zac g kd t y))) (tb kd) 8 0) (tb kd) 9 (-1) := fun s => ⟨_, rfl⟩
  have h37 : b_X9_readCell_37 n (tb kd) (t : Int) (y : Int) (gU u) (tb kd) (b01 (zsh g kd t y)) (hp u J0 L) = l_X9_readCell_81 n n (tb kd) (t : Int) (y : Int) ((Gn g : Int) - 1) (hp u (gx_u (gx_u (gx_u (gx_u J0 (tb kd) 6 (b01 (zsh g kd t y))) (tb kd) 7 (b01 (zac g kd t y))) (tb kd) 8 0) (tb kd) 9 (-1)) L) := by
    have hs01 := b01_rg (zsh g kd t y)
    have ha01 := b01_rg (zac g kd t y)
    have er := X0_row (u := u) (L := L) (va_m (kb kd)) (J := gx_u J0 (tb kd) 6 (b01 (zsh g kd t y))) (s := t) (x := 145) (by omega) (by omega)
    have e145 : ((145 : Nat) : Int) = 145 := rfl
    have en : ∀ x, gx_u J0 (tb kd) 6 x (va (kb kd) + 1) = J0 (va (kb kd) + 1) := fun x => gu_ne (by cases kb kd <;> simp [va] <;> omega)
    rw [en, e145] at er
    have hac' := hac (gx_u J0 (tb kd) 6 (b01 (zsh g kd t y)))
    obtain ⟨⟨hw, hcg⟩, -⟩ := h.1
    have f4 : Fr [tb kd] J0 (gx_u (gx_u (gx_u (gx_u J0 (tb kd) 6 (b01 (zsh g kd t y))) (tb kd) 7 (b01 (zac g kd t y))) (tb kd) 8 0) (tb kd) 9 (-1)) := (((Fr.rf.wr (by simp)).wr (by simp)).wr (by simp)).wr (by simp)
    have hC4 := hfr _ f4 (by rw [gu_at_ne (by decide), gu_at_ne (by decide), gu_at_ne (by decide), gu_at_ne (by decide)])
    have ec := X4_count (u := u) (L := L) hm hC4.1.1.1
    rw [hC4.1.1.2] at ec
    simp (disch := omega) only [b_X9_readCell_37, ↓dhi_F, ↓dhG_F_0, ↓dhg_F_1, ↓dhq_F_1, ↓dhg_F_2, ↓dhq_F_2, ↓dhg_F_3, ↓dhq_F_3, ↓dhg_F_4, ↓dhq_F_4, ↓dhG_F_5, ↓dhG_F_6, ↓dhG_F_7, ↓dhG_F_8, ↓dhG_F_9, ↓dhg_F_10, ↓dhq_F_10, ↓dhG_F_11, ↓dhG_F_12, ↓dhG_F_13, ↓dhi_S hv, ↓dhg_S_0 hv, ↓dhq_S_0 hv, ↓dhG_S_1 hv, ↓dhg_S_2 hv, ↓dhq_S_2 hv, ↓dhG_S_3 hv, ↓dhG_S_4 hv, ↓dhG_S_5 hv, ↓dhg_S_6 hv, ↓dhq_S_6 hv, ↓dhg_S_7 hv, ↓dhq_S_7 hv, ↓dhg_S_8 hv, ↓dhq_S_8 hv, ↓dhg_S_9 hv, ↓dhq_S_9 hv, ↓dhG_S_10 hv, ↓dhG_S_11 hv, ↓dhg_S_12 hv, ↓dhq_S_12 hv, ↓dha_S_1 hv, ↓dhs_S_1 hv, ↓dhl_S_1 hv, ↓dha_S_2 hv, ↓dhs_S_2 hv, ↓dhl_S_2 hv, ↓dhi_G hm, ↓dhG_G_0 hm, ↓dhG_G_1 hm, ↓dhG_G_2 hm, ↓dhg_G_3 hm, ↓dhq_G_3 hm, ↓dhG_G_4 hm, ↓dhG_G_5 hm, ↓dhg_G_6 hm, ↓dhq_G_6 hm, ↓dhg_G_7 hm, ↓dhq_G_7 hm, ↓dhG_G_8 hm, ↓dhG_G_9 hm, ↓dha_G_1 hm, ↓dhs_G_1 hm, ↓dhl_G_1 hm, ↓dha_G_2 hm, ↓dhs_G_2 hm, ↓dhl_G_2 hm, ↓dha_G_3 hm, ↓dhs_G_3 hm, ↓dhl_G_3 hm, ↓dha_G_4 hm, ↓dhl_G_4 hm, ↓dha_G_5 hm, ↓dhs_G_5 hm, ↓dhl_G_5 hm, Option.bind_some, ↓nm_eq, ↓sm_inl, ↓sm_inr, ↓dzo_0, ↓dzo_1, ↓drg_ok, ↓if_pos, ↓if_neg, if_pos, if_neg, if_true, if_false, Int.toNat_natCast, rg_ok, hva, ↓bnd (hAg _), ↓bnd (hA _), ↓bnd er, ↓bnd hac', ↓bnd ec]
  have hw0 := h.1.1.1
  have hrd : f_X9_readCell n (tb kd) (t : Int) (y : Int) (hp u J0 L) = b_X9_readCell_37 n (tb kd) (t : Int) (y : Int) (gU u) (tb kd) (b01 (zsh g kd t y)) (hp u J0 L) := by
    by_cases c8 : y < 8
    · have et := X11_isT1 y c8 (hp u J0 L)
      have hmv := hmov t y ht (by omega)
      rw [if_pos (Or.inl c8)] at hmv
      have hzx : zix y = y := if_pos (by omega)
      rw [hzx] at hmv
      have emv : f_X0_move (va (kb kd)) (t : Int) (y : Int) (hp u J0 L) = some (Sm (zS g (kb kd)) t y) := by
        rw [← hmv]
        have hv2 := va_m (kb kd)
        have ei : ((t : Int) * 32 + (y : Int)).toNat = 32 * t + y := by omega
        simp (disch := omega) only [f_X0_move, b_X0_move_25, ↓dhi_A hv2, ↓dhG_A_0 hv2, ↓dhg_A_1 hv2, ↓dhq_A_1 hv2, ↓dhg_A_2 hv2, ↓dhq_A_2 hv2, ↓dhg_A_3 hv2, ↓dhq_A_3 hv2, ↓dhg_A_4 hv2, ↓dhq_A_4 hv2, ↓dhG_A_5 hv2, ↓dhG_A_6 hv2, ↓dhG_A_7 hv2, ↓dhG_A_8 hv2, ↓dhG_A_9 hv2, ↓dha_A_1 hv2, ↓dhs_A_1 hv2, ↓dhl_A_1 hv2, ↓dha_A_2 hv2, ↓dhs_A_2 hv2, ↓dhl_A_2 hv2, ↓dha_A_3 hv2, ↓dhs_A_3 hv2, ↓dhl_A_3 hv2, ↓dha_A_4 hv2, ↓dhs_A_4 hv2, ↓dhl_A_4 hv2, ↓dha_A_5 hv2, ↓dhs_A_5 hv2, ↓dhl_A_5 hv2, Option.bind_some, ↓nm_eq, ↓sm_inl, ↓sm_inr, ↓dzo_0, ↓dzo_1, ↓drg_ok, ↓if_pos, ↓if_neg, if_pos, if_neg, if_true, if_false, Int.toNat_natCast, rg_ok, ei]
      rcases zS_go hg hb ht (x := y) (by omega) with ⟨w, -⟩ | ⟨t0, w, w2, -⟩
      · have hz : zsh g kd t y = false := zdb_f.mpr (fun z => z.2 w)
        rw [w] at emv
        rw [hz]
        show _ = b_X9_readCell_37 n (tb kd) (t : Int) (y : Int) (gU u) (tb kd) 0 (hp u J0 L)
        simp (disch := omega) only [f_X9_readCell, b_X9_readCell_36, ↓dhi_F, ↓dhG_F_0, ↓dhg_F_1, ↓dhq_F_1, ↓dhg_F_2, ↓dhq_F_2, ↓dhg_F_3, ↓dhq_F_3, ↓dhg_F_4, ↓dhq_F_4, ↓dhG_F_5, ↓dhG_F_6, ↓dhG_F_7, ↓dhG_F_8, ↓dhG_F_9, ↓dhg_F_10, ↓dhq_F_10, ↓dhG_F_11, ↓dhG_F_12, ↓dhG_F_13, ↓dhi_S hv, ↓dhg_S_0 hv, ↓dhq_S_0 hv, ↓dhG_S_1 hv, ↓dhg_S_2 hv, ↓dhq_S_2 hv, ↓dhG_S_3 hv, ↓dhG_S_4 hv, ↓dhG_S_5 hv, ↓dhg_S_6 hv, ↓dhq_S_6 hv, ↓dhg_S_7 hv, ↓dhq_S_7 hv, ↓dhg_S_8 hv, ↓dhq_S_8 hv, ↓dhg_S_9 hv, ↓dhq_S_9 hv, ↓dhG_S_10 hv, ↓dhG_S_11 hv, ↓dhg_S_12 hv, ↓dhq_S_12 hv, ↓dha_S_1 hv, ↓dhs_S_1 hv, ↓dhl_S_1 hv, ↓dha_S_2 hv, ↓dhs_S_2 hv, ↓dhl_S_2 hv, ↓dhi_G hm, ↓dhG_G_0 hm, ↓dhG_G_1 hm, ↓dhG_G_2 hm, ↓dhg_G_3 hm, ↓dhq_G_3 hm, ↓dhG_G_4 hm, ↓dhG_G_5 hm, ↓dhg_G_6 hm, ↓dhq_G_6 hm, ↓dhg_G_7 hm, ↓dhq_G_7 hm, ↓dhG_G_8 hm, ↓dhG_G_9 hm, ↓dha_G_1 hm, ↓dhs_G_1 hm, ↓dhl_G_1 hm, ↓dha_G_2 hm, ↓dhs_G_2 hm, ↓dhl_G_2 hm, ↓dha_G_3 hm, ↓dhs_G_3 hm, ↓dhl_G_3 hm, ↓dha_G_4 hm, ↓dhl_G_4 hm, ↓dha_G_5 hm, ↓dhs_G_5 hm, ↓dhl_G_5 hm, Option.bind_some, ↓nm_eq, ↓sm_inl, ↓sm_inr, ↓dzo_0, ↓dzo_1, ↓drg_ok, ↓if_pos, ↓if_neg, if_pos, if_neg, if_true, if_false, Int.toNat_natCast, rg_ok, hva, ↓bnd (hAg _), ↓bnd (hA _), ↓bnd (hA0 _), ↓bnd X3_grammar, ↓bnd et, ↓bnd emv]
      · have hz : zsh g kd t y = true := zdb_t.mpr ⟨c8, by rw [w]; omega⟩
        rw [w] at emv
        rw [hz]
        show _ = b_X9_readCell_37 n (tb kd) (t : Int) (y : Int) (gU u) (tb kd) 1 (hp u J0 L)
        simp (disch := omega) only [f_X9_readCell, b_X9_readCell_36, ↓dhi_F, ↓dhG_F_0, ↓dhg_F_1, ↓dhq_F_1, ↓dhg_F_2, ↓dhq_F_2, ↓dhg_F_3, ↓dhq_F_3, ↓dhg_F_4, ↓dhq_F_4, ↓dhG_F_5, ↓dhG_F_6, ↓dhG_F_7, ↓dhG_F_8, ↓dhG_F_9, ↓dhg_F_10, ↓dhq_F_10, ↓dhG_F_11, ↓dhG_F_12, ↓dhG_F_13, ↓dhi_S hv, ↓dhg_S_0 hv, ↓dhq_S_0 hv, ↓dhG_S_1 hv, ↓dhg_S_2 hv, ↓dhq_S_2 hv, ↓dhG_S_3 hv, ↓dhG_S_4 hv, ↓dhG_S_5 hv, ↓dhg_S_6 hv, ↓dhq_S_6 hv, ↓dhg_S_7 hv, ↓dhq_S_7 hv, ↓dhg_S_8 hv, ↓dhq_S_8 hv, ↓dhg_S_9 hv, ↓dhq_S_9 hv, ↓dhG_S_10 hv, ↓dhG_S_11 hv, ↓dhg_S_12 hv, ↓dhq_S_12 hv, ↓dha_S_1 hv, ↓dhs_S_1 hv, ↓dhl_S_1 hv, ↓dha_S_2 hv, ↓dhs_S_2 hv, ↓dhl_S_2 hv, ↓dhi_G hm, ↓dhG_G_0 hm, ↓dhG_G_1 hm, ↓dhG_G_2 hm, ↓dhg_G_3 hm, ↓dhq_G_3 hm, ↓dhG_G_4 hm, ↓dhG_G_5 hm, ↓dhg_G_6 hm, ↓dhq_G_6 hm, ↓dhg_G_7 hm, ↓dhq_G_7 hm, ↓dhG_G_8 hm, ↓dhG_G_9 hm, ↓dha_G_1 hm, ↓dhs_G_1 hm, ↓dhl_G_1 hm, ↓dha_G_2 hm, ↓dhs_G_2 hm, ↓dhl_G_2 hm, ↓dha_G_3 hm, ↓dhs_G_3 hm, ↓dhl_G_3 hm, ↓dha_G_4 hm, ↓dhl_G_4 hm, ↓dha_G_5 hm, ↓dhs_G_5 hm, ↓dhl_G_5 hm, Option.bind_some, ↓nm_eq, ↓sm_inl, ↓sm_inr, ↓dzo_0, ↓dzo_1, ↓drg_ok, ↓if_pos, ↓if_neg, if_pos, if_neg, if_true, if_false, Int.toNat_natCast, rg_ok, hva, ↓bnd (hAg _), ↓bnd (hA _), ↓bnd (hA0 _), ↓bnd X3_grammar, ↓bnd et, ↓bnd emv]
    · have et := X11_isT0 y (by omega) (by omega) (hp u J0 L)
      have hz : zsh g kd t y = false := zdb_f.mpr (fun z => c8 z.1)
      rw [hz]
      show _ = b_X9_readCell_37 n (tb kd) (t : Int) (y : Int) (gU u) (tb kd) 0 (hp u J0 L)
      simp (disch := omega) only [f_X9_readCell, b_X9_readCell_36, ↓dhi_F, ↓dhG_F_0, ↓dhg_F_1, ↓dhq_F_1, ↓dhg_F_2, ↓dhq_F_2, ↓dhg_F_3, ↓dhq_F_3, ↓dhg_F_4, ↓dhq_F_4, ↓dhG_F_5, ↓dhG_F_6, ↓dhG_F_7, ↓dhG_F_8, ↓dhG_F_9, ↓dhg_F_10, ↓dhq_F_10, ↓dhG_F_11, ↓dhG_F_12, ↓dhG_F_13, ↓dhi_S hv, ↓dhg_S_0 hv, ↓dhq_S_0 hv, ↓dhG_S_1 hv, ↓dhg_S_2 hv, ↓dhq_S_2 hv, ↓dhG_S_3 hv, ↓dhG_S_4 hv, ↓dhG_S_5 hv, ↓dhg_S_6 hv, ↓dhq_S_6 hv, ↓dhg_S_7 hv, ↓dhq_S_7 hv, ↓dhg_S_8 hv, ↓dhq_S_8 hv, ↓dhg_S_9 hv, ↓dhq_S_9 hv, ↓dhG_S_10 hv, ↓dhG_S_11 hv, ↓dhg_S_12 hv, ↓dhq_S_12 hv, ↓dha_S_1 hv, ↓dhs_S_1 hv, ↓dhl_S_1 hv, ↓dha_S_2 hv, ↓dhs_S_2 hv, ↓dhl_S_2 hv, ↓dhi_G hm, ↓dhG_G_0 hm, ↓dhG_G_1 hm, ↓dhG_G_2 hm, ↓dhg_G_3 hm, ↓dhq_G_3 hm, ↓dhG_G_4 hm, ↓dhG_G_5 hm, ↓dhg_G_6 hm, ↓dhq_G_6 hm, ↓dhg_G_7 hm, ↓dhq_G_7 hm, ↓dhG_G_8 hm, ↓dhG_G_9 hm, ↓dha_G_1 hm, ↓dhs_G_1 hm, ↓dhl_G_1 hm, ↓dha_G_2 hm, ↓dhs_G_2 hm, ↓dhl_G_2 hm, ↓dha_G_3 hm, ↓dhs_G_3 hm, ↓dhl_G_3 hm, ↓dha_G_4 hm, ↓dhl_G_4 hm, ↓dha_G_5 hm, ↓dhs_G_5 hm, ↓dhl_G_5 hm, Option.bind_some, ↓nm_eq, ↓sm_inl, ↓sm_inr, ↓dzo_0, ↓dzo_1, ↓drg_ok, ↓if_pos, ↓if_neg, if_pos, if_neg, if_true, if_false, Int.toNat_natCast, rg_ok, hva, ↓bnd (hAg _), ↓bnd (hA _), ↓bnd (hA0 _), ↓bnd X3_grammar, ↓bnd et]
  have f4 : Fr [tb kd] J0 (gx_u (gx_u (gx_u (gx_u J0 (tb kd) 6 (b01 (zsh g kd t y))) (tb kd) 7 (b01 (zac g kd t y))) (tb kd) 8 0) (tb kd) 9 (-1)) := (((Fr.rf.wr (by simp)).wr (by simp)).wr (by simp)).wr (by simp)
  obtain ⟨J, e, q⟩ := lp (Gn g) n 0 _ (by omega) (by omega) ⟨f4, fun k h1 h2 h3 h4 => by rw [gu_at_ne h4, gu_at_ne h3, gu_at_ne h2, gu_at_ne h1], by rw [gu_at_ne (by decide), gu_at_ne (by decide), gu_at_ne (by decide), gu_at_eq rfl], by rw [gu_at_ne (by decide), gu_at_ne (by decide), gu_at_eq rfl], by rw [gu_at_ne (by decide), gu_at_eq rfl]; rfl, by rw [gu_at_eq rfl]; rfl⟩
  refine ⟨J, ?_, q⟩
  rw [hrd, h37, ← e]
  have ez : (Gn g : Int) - 1 - ((0 : Nat) : Int) = (Gn g : Int) - 1 := by omega
  dsimp only
  rw [ez]
end CC_
