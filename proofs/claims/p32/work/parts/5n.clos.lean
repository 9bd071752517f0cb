/-! ===== rows of items in a heap; the class's closure ===== -/
def SR (g : GT) (A : Nat) (ad : Nat → Nat → Nat) (J : Nat → Nat → Int) : AS := fun p k t => vI g p k ∧ bt (J A (ad p k)) t = true
def VR (g : GT) (A : Nat) (ad : Nat → Nat → Nat) (J : Nat → Nat → Int) : Prop := ∀ p k, vI g p k → gi_ok (J A (ad p k)) ∧ (∀ t, bt (J A (ad p k)) t = true → t < 10) ∧ (J A (ad p k) = 0 ∨ bt (J A (ad p k)) 9 = true)
def INJ (g : GT) (ad : Nat → Nat → Nat) : Prop := ∀ p k p' k', vI g p k → vI g p' k' → ad p k = ad p' k' → p = p' ∧ k = k'
noncomputable def mR (g : GT) (A : Nat) (ad : Nat → Nat → Nat) (J : Nat → Nat → Int) : Nat := cM (fun x => zif (vI g (x / 6) (x % 6)) (J A (ad (x / 6) (x % 6))) 0) 150
def CI (g : GT) (N : Nat → Prop) (F : Nat → Nat → Prop) (A : Nat) (ad : Nat → Nat → Nat) (K : AS) (J : Nat → Nat → Int) : Prop := VR g A ad J ∧ sAS K (SR g A ad J) ∧ sAS (SR g A ad J) (CL g N F K)
/-- what an item brings about -/
def mvb (g : GT) (N : Nat → Prop) (F : Nat → Nat → Prop) (p k : Nat) (r : Int) (t : Nat) : Prop := t = 9 ∨ (t < 8 ∧ fsF (gX g) N F p (k + 1) t) ∨ (emF (gX g) N p (k + 1) ∧ t < 9 ∧ bt r t = true)
def CAt (g : GT) (N : Nat → Prop) (F : Nat → Nat → Prop) (A : Nat) (ad : Nat → Nat → Nat) (J : Nat → Nat → Int) (p k : Nat) : Prop := SR g A ad J p k 9 → k < Gl (gX g) p → ∀ q, q < Gn g → Gs (gX g) p k = 16 + Go g q → ∀ t, mvb g N F p k (J A (ad p k)) t → SR g A ad J q 0 t
theorem mR_le {g : GT} {A : Nat} {ad : Nat → Nat → Nat} {J : Nat → Nat → Int} : mR g A ad J ≤ 4800 := cM_le _ 150
theorem vI_6 {g : GT} (hg : GR g) {p k : Nat} (h : vI g p k) : p ≤ 24 ∧ k ≤ 5 := by
  have h1 := h.1; have h2 := h.2; have h3 := gX_l5 hg p; have h4 := hg.1
  unfold pv at h1; omega
section CB
variable {g : GT} {N : Nat → Prop} {F : Nat → Nat → Prop} {A : Nat} {ad : Nat → Nat → Nat}
theorem SR_fr {J K : Nat → Nat → Int} (h : ∀ p k, vI g p k → K A (ad p k) = J A (ad p k)) : SR g A ad K = SR g A ad J := by
  funext p k t
  apply propext
  constructor
  · rintro ⟨a, b⟩; rw [h p k a] at b; exact ⟨a, b⟩
  · rintro ⟨a, b⟩; rw [← h p k a] at b; exact ⟨a, b⟩
theorem VR_fr {J K : Nat → Nat → Int} (h : ∀ p k, vI g p k → K A (ad p k) = J A (ad p k)) (v : VR g A ad J) : VR g A ad K := fun p k a => by rw [h p k a]; exact v p k a
theorem cA_of {J : Nat → Nat → Int} (h : ∀ p k, CAt g N F A ad J p k) : cA g N F (SR g A ad J) := by
  rintro q t ⟨a, p, k, b, c, d, e, f⟩
  refine h p k e c q a d t ?_
  rcases f with f | f | f
  · exact Or.inl f
  · exact Or.inr (Or.inl f)
  · exact Or.inr (Or.inr ⟨f.1, f.2.1, f.2.2.2⟩)
theorem wid_ok (hg : GR g) (hinj : INJ g ad) {K : AS} {J : Nat → Nat → Int} (h : CI g N F A ad K J) {q : Nat} {m : Int} (hq : q < Gn g) (m9 : bt m 9 = true) (hmo : ∀ t, bt m t = true → opA g N F (SR g A ad J) q t) :
    CI g N F A ad K (gx_u J A (ad q 0) (gi_or (J A (ad q 0)) m)) ∧ sAS (SR g A ad J) (SR g A ad (gx_u J A (ad q 0) (gi_or (J A (ad q 0)) m))) ∧ (∀ t, bt m t = true → SR g A ad (gx_u J A (ad q 0) (gi_or (J A (ad q 0)) m)) q 0 t) ∧
    ((gi_or (J A (ad q 0)) m = J A (ad q 0) ∧ gx_u J A (ad q 0) (gi_or (J A (ad q 0)) m) = J) ∨ (gi_or (J A (ad q 0)) m ≠ J A (ad q 0) ∧ mR g A ad J < mR g A ad (gx_u J A (ad q 0) (gi_or (J A (ad q 0)) m)))) := by
  have hv0 : vI g q 0 := ⟨Or.inl hq, Nat.zero_le _⟩
  obtain ⟨h1, h2, h3⟩ := h
  have hval : ∀ p k, vI g p k → gx_u J A (ad q 0) (gi_or (J A (ad q 0)) m) A (ad p k) = if p = q ∧ k = 0 then gi_or (J A (ad q 0)) m else J A (ad p k) := fun p k hv => by
    by_cases e : p = q ∧ k = 0
    · rw [if_pos e, e.1, e.2, gu_at_eq rfl]
    · rw [if_neg e, gu_at_ne (fun z => e (hinj p k q 0 hv hv0 z))]
  have hsub : sAS (SR g A ad J) (SR g A ad (gx_u J A (ad q 0) (gi_or (J A (ad q 0)) m))) := fun p k t z => by
    refine ⟨z.1, ?_⟩
    rw [hval p k z.1]; split
    · next e => rw [bt_or, Bool.or_eq_true, ← e.1, ← e.2]; exact Or.inl z.2
    · exact z.2
  have hback : ∀ p k t, SR g A ad (gx_u J A (ad q 0) (gi_or (J A (ad q 0)) m)) p k t → SR g A ad J p k t ∨ (p = q ∧ k = 0 ∧ bt m t = true) := fun p k t z => by
    obtain ⟨z1, z2⟩ := z
    rw [hval p k z1] at z2
    split at z2
    · next e =>
      rw [bt_or, Bool.or_eq_true] at z2
      rcases z2 with z2 | z2
      · rw [← e.1, ← e.2] at z2; exact Or.inl ⟨z1, z2⟩
      · exact Or.inr ⟨e.1, e.2, z2⟩
    · exact Or.inl ⟨z1, z2⟩
  have hmt : ∀ t, bt m t = true → t < 10 := fun t ht => by
    obtain ⟨-, p, k, -, -, -, -, z⟩ := hmo t ht
    omega
  refine ⟨⟨fun p k hv => ?_, fun p k t z => hsub p k t (h2 p k t z), fun p k t z => ?_⟩, hsub, fun t ht => ⟨hv0, ?_⟩, ?_⟩
  · rw [hval p k hv]
    have hv1 := h1 p k hv
    split
    · next e =>
      refine ⟨bt_ok_or _ _, fun t ht => ?_, Or.inr ?_⟩
      · rw [bt_or, Bool.or_eq_true] at ht
        rcases ht with ht | ht
        · rw [← e.1, ← e.2] at ht; exact hv1.2.1 t ht
        · exact hmt t ht
      · rw [bt_or, m9, Bool.or_true]
    · exact hv1
  · rcases hback p k t z with z | ⟨e1, e2, z⟩
    · exact h3 p k t z
    · rw [e1, e2]; exact CL_cl q t (opA_mono h3 (hmo t z))
  · rw [hval q 0 hv0, if_pos ⟨rfl, rfl⟩, bt_or, Bool.or_eq_true]; exact Or.inr ht
  · by_cases e : gi_or (J A (ad q 0)) m = J A (ad q 0)
    · exact Or.inl ⟨e, by rw [e, gu_id]⟩
    · right
      refine ⟨e, ?_⟩
      have hq24 := (vI_6 hg hv0).1
      have hd : (6 * q) / 6 = q ∧ (6 * q) % 6 = 0 := by omega
      refine cM_lt (fun x hx y hy z => ?_) ⟨6 * q, by have := hg.1; omega, ?_⟩
      · by_cases hv : vI g (x / 6) (x % 6)
        · rw [zif_p hv] at z ⊢; exact (hsub _ _ y ⟨hv, z⟩).2
        · rw [zif_n hv] at z; rw [bt_zero] at z; exact absurd z (by decide)
      · have hok := (h1 q 0 hv0).1
        have hex : ∃ i, i < 32 ∧ bt m i = true ∧ bt (J A (ad q 0)) i = false := by
          apply Classical.byContradiction
          intro hno
          apply e
          rw [bt_or_left hok]
          intro i hi hb
          cases hb2 : bt (J A (ad q 0)) i with
          | true => rfl
          | false => exact absurd ⟨i, hi, hb, hb2⟩ hno
        obtain ⟨i, hi, hb1, hb2⟩ := hex
        refine ⟨i, hi, ?_, ?_⟩
        · rw [hd.1, hd.2, zif_p hv0, hval q 0 hv0, if_pos ⟨rfl, rfl⟩, bt_or, hb1, Bool.or_true]
        · rw [hd.1, hd.2, zif_p hv0]; exact hb2
end CB
/-- the class's grammar and what it has found for the automata -/
def CE (u : Nat) (g : GT) (N : Nat → Prop) (F : Nat → Nat → Prop) (J : Nat → Nat → Int) : Prop := GW (gU u) J ∧ cG J (gU u) = g ∧ cItm g N F J
theorem CE.fr {u : Nat} {g : GT} {N : Nat → Prop} {F : Nat → Nat → Prop} {J K : Nat → Nat → Int} (h : CE u g N F J) {l : List Nat} (f : Fr l J K) (q : (3 ∉ l ∧ 4 ∉ l ∧ 5 ∉ l ∧ 6 ∉ l ∧ 87 ∉ l ∧ 88 ∉ l ∧ 89 ∉ l ∧ 90 ∉ l) ∧ 71 ∉ l ∧ 72 ∉ l) : CE u g N F K := by
  refine ⟨GWu_fr f q.1 h.1, (cGu_fr f q.1).trans h.2.1, ?_⟩
  unfold cItm cIt
  rw [f 71 q.2.1, f 72 q.2.2]; exact h.2.2
theorem CE.gr {u : Nat} {g : GT} {N : Nat → Prop} {F : Nat → Nat → Prop} {J : Nat → Nat → Int} (h : CE u g N F J) : GR g := h.2.1 ▸ GR_of h.1
theorem CE.it {u : Nat} {g : GT} {N : Nat → Prop} {F : Nat → Nat → Prop} {J : Nat → Nat → Int} (h : CE u g N F J) {p k : Nat} (hp : p ≤ 24) (hk : k ≤ 5) :
    J 71 (6 * p + k) = (if k < Gl (gX g) p then (Gs (gX g) p k : Int) else -1) ∧ (k < Gl (gX g) p → gi_ok (J 72 (6 * p + k)) ∧ ∀ i, bt (J 72 (6 * p + k)) i = true ↔ (i < 8 ∧ fsF (gX g) N F p (k + 1) i) ∨ (i = 9 ∧ emF (gX g) N p (k + 1))) := by
  have hg := h.gr
  obtain ⟨-, -, i1, i2, i3, i4⟩ := h
  by_cases e : p = 24
  · subst e
    by_cases ek : k = 0
    · subst ek
      rw [gX_l24, gX_s24, if_pos (by omega)]
      refine ⟨i3, fun _ => ?_⟩
      have i4' : J 72 (6 * 24 + 0) = 512 := i4
      rw [i4']
      refine ⟨by decide, fun i => ?_⟩
      rw [bt_512, decide_eq_true_eq]
      constructor
      · intro z; exact Or.inr ⟨z, emF_end (by rw [gX_l24]; omega)⟩
      · rintro (⟨-, z⟩ | z)
        · exact absurd z (fsF_end (by rw [gX_l24]; omega))
        · exact z.1
    · have h2 := i2 (6 * 24 + k) (by omega) (by omega)
      rw [gX_l24, if_neg (by omega)]
      exact ⟨h2.1, fun z => absurd z (by omega)⟩
  · rw [gX_l e]
    by_cases ek : k = 5
    · subst ek
      have h2 := i2 (6 * p + 5) (by omega) (by omega)
      have h5 := hg.2.2.2.1 p
      rw [if_neg (by omega)]
      exact ⟨h2.1, fun z => absurd z (by omega)⟩
    · obtain ⟨h1, h2, h3⟩ := i1 p k (by omega) (by omega)
      rw [h1]
      refine ⟨?_, fun z => ⟨h2, fun i => ?_⟩⟩
      · split
        · rw [gX_s e]
        · rfl
      · rw [h3 i, gX_fs e, gX_em e]
def ac (s : Nat) (p k : Nat) : Nat := 150 * s + (6 * p + k)
theorem ac_inj {g : GT} (hg : GR g) (s : Nat) : INJ g (ac s) := fun p k p' k' h1 h2 e => by
  have := vI_6 hg h1; have := vI_6 hg h2
  unfold ac at e; omega
section CC
variable {u : Nat} {n : Nat} {L : Nat → Nat → Int} {g : GT} {N : Nat → Prop} {F : Nat → Nat → Prop}
theorem X3_front {J : Nat → Nat → Int} {x : Nat} (hx : x < 150) : f_X3_front 64 (x : Int) (hp u J L) = some (J 71 x) := by
  simp (disch := omega) only [f_X3_front, ↓dhi_F, ↓dhG_F_0, ↓dhg_F_1, ↓dhq_F_1, ↓dhg_F_2, ↓dhq_F_2, ↓dhg_F_3, ↓dhq_F_3, ↓dhg_F_4, ↓dhq_F_4, ↓dhG_F_5, ↓dhG_F_6, ↓dhG_F_7, ↓dhG_F_8, ↓dhG_F_9, ↓dhg_F_10, ↓dhq_F_10, ↓dhG_F_11, ↓dhG_F_12, ↓dhG_F_13, ↓dha_71, ↓dhs_71, ↓dhl_71, Option.bind_some, ↓nm_eq, ↓sm_inl, ↓sm_inr, ↓dzo_0, ↓dzo_1, ↓drg_ok, ↓if_pos, ↓if_neg, if_pos, if_neg, if_true, if_false, Int.toNat_natCast, rg_ok]
theorem X3_rest {J : Nat → Nat → Int} {x : Nat} (hx : x < 150) : f_X3_rest 64 (x : Int) (hp u J L) = some (J 72 x) := by
  simp (disch := omega) only [f_X3_rest, ↓dhi_F, ↓dhG_F_0, ↓dhg_F_1, ↓dhq_F_1, ↓dhg_F_2, ↓dhq_F_2, ↓dhg_F_3, ↓dhq_F_3, ↓dhg_F_4, ↓dhq_F_4, ↓dhG_F_5, ↓dhG_F_6, ↓dhG_F_7, ↓dhG_F_8, ↓dhG_F_9, ↓dhg_F_10, ↓dhq_F_10, ↓dhG_F_11, ↓dhG_F_12, ↓dhG_F_13, ↓dha_72, ↓dhs_72, ↓dhl_72, Option.bind_some, ↓nm_eq, ↓sm_inl, ↓sm_inr, ↓dzo_0, ↓dzo_1, ↓drg_ok, ↓if_pos, ↓if_neg, if_pos, if_neg, if_true, if_false, Int.toNat_natCast, rg_ok]
theorem X3_grammar {J : Nat → Nat → Int} : f_X3_grammar 64 (hp u J L) = some (gU u) := by
  simp (disch := omega) only [f_X3_grammar, ↓dhi_F, ↓dhG_F_0, ↓dhg_F_1, ↓dhq_F_1, ↓dhg_F_2, ↓dhq_F_2, ↓dhg_F_3, ↓dhq_F_3, ↓dhg_F_4, ↓dhq_F_4, ↓dhG_F_5, ↓dhG_F_6, ↓dhG_F_7, ↓dhG_F_8, ↓dhG_F_9, ↓dhg_F_10, ↓dhq_F_10, ↓dhG_F_11, ↓dhG_F_12, ↓dhG_F_13, Option.bind_some, ↓nm_eq, ↓sm_inl, ↓sm_inr, ↓dzo_0, ↓dzo_1, ↓drg_ok, ↓if_pos, ↓if_neg, if_pos, if_neg, if_true, if_false, Int.toNat_natCast, rg_ok]
theorem X0_row {v : Nat} (hv : v ∈ [73, 79]) {J : Nat → Nat → Int} {s x : Nat} (hs : s < 80) (hx : x < 150) : f_X0_row v (s : Int) (x : Int) (hp u J L) = some (J (v + 1) (150 * s + x)) := by
  have e : ((s : Int) * 150 + (x : Int)).toNat = 150 * s + x := by omega
  simp (disch := omega) only [f_X0_row, b_X0_row_26, ↓dhi_A hv, ↓dhG_A_0 hv, ↓dhg_A_1 hv, ↓dhq_A_1 hv, ↓dhg_A_2 hv, ↓dhq_A_2 hv, ↓dhg_A_3 hv, ↓dhq_A_3 hv, ↓dhg_A_4 hv, ↓dhq_A_4 hv, ↓dhG_A_5 hv, ↓dhG_A_6 hv, ↓dhG_A_7 hv, ↓dhG_A_8 hv, ↓dhG_A_9 hv, ↓dha_A_1 hv, ↓dhs_A_1 hv, ↓dhl_A_1 hv, ↓dha_A_2 hv, ↓dhs_A_2 hv, ↓dhl_A_2 hv, ↓dha_A_3 hv, ↓dhs_A_3 hv, ↓dhl_A_3 hv, ↓dha_A_4 hv, ↓dhs_A_4 hv, ↓dhl_A_4 hv, ↓dha_A_5 hv, ↓dhs_A_5 hv, ↓dhl_A_5 hv, Option.bind_some, ↓nm_eq, ↓sm_inl, ↓sm_inr, ↓dzo_0, ↓dzo_1, ↓drg_ok, ↓if_pos, ↓if_neg, if_pos, if_neg, if_true, if_false, Int.toNat_natCast, rg_ok, e]
theorem X0_widen {v : Nat} (hv : v ∈ [73, 79]) {J : Nat → Nat → Int} {s x : Nat} (hs : s < 80) (hx : x < 150) (hok : gi_ok (J (v + 1) (150 * s + x))) (m : Int) : f_X0_widen v (s : Int) (x : Int) m (hp u J L) = some (if gi_or (J (v + 1) (150 * s + x)) m = J (v + 1) (150 * s + x) then 0 else 1, hp u (gx_u J (v + 1) (150 * s + x) (gi_or (J (v + 1) (150 * s + x)) m)) L) := by
  have e : ((s : Int) * 150 + (x : Int)).toNat = 150 * s + x := by omega
  have h1 := bt_ok_or (J (v + 1) (150 * s + x)) m
  have h2 : -2147483648 ≤ J (v + 1) (150 * s + x) ∧ J (v + 1) (150 * s + x) ≤ 2147483647 := hok
  by_cases c : gi_or (J (v + 1) (150 * s + x)) m = J (v + 1) (150 * s + x)
  · rw [if_pos c]
    simp (disch := omega) only [f_X0_widen, ↓dhi_A hv, ↓dhG_A_0 hv, ↓dhg_A_1 hv, ↓dhq_A_1 hv, ↓dhg_A_2 hv, ↓dhq_A_2 hv, ↓dhg_A_3 hv, ↓dhq_A_3 hv, ↓dhg_A_4 hv, ↓dhq_A_4 hv, ↓dhG_A_5 hv, ↓dhG_A_6 hv, ↓dhG_A_7 hv, ↓dhG_A_8 hv, ↓dhG_A_9 hv, ↓dha_A_1 hv, ↓dhs_A_1 hv, ↓dhl_A_1 hv, ↓dha_A_2 hv, ↓dhs_A_2 hv, ↓dhl_A_2 hv, ↓dha_A_3 hv, ↓dhs_A_3 hv, ↓dhl_A_3 hv, ↓dha_A_4 hv, ↓dhs_A_4 hv, ↓dhl_A_4 hv, ↓dha_A_5 hv, ↓dhs_A_5 hv, ↓dhl_A_5 hv, Option.bind_some, ↓nm_eq, ↓sm_inl, ↓sm_inr, ↓dzo_0, ↓dzo_1, ↓drg_ok, ↓if_pos, ↓if_neg, if_pos, if_neg, if_true, if_false, Int.toNat_natCast, rg_ok, e, c]
  · rw [if_neg c]
    simp (disch := omega) only [f_X0_widen, ↓dhi_A hv, ↓dhG_A_0 hv, ↓dhg_A_1 hv, ↓dhq_A_1 hv, ↓dhg_A_2 hv, ↓dhq_A_2 hv, ↓dhg_A_3 hv, ↓dhq_A_3 hv, ↓dhg_A_4 hv, ↓dhq_A_4 hv, ↓dhG_A_5 hv, ↓dhG_A_6 hv, ↓dhG_A_7 hv, ↓dhG_A_8 hv, ↓dhG_A_9 hv, ↓dha_A_1 hv, ↓dhs_A_1 hv, ↓dhl_A_1 hv, ↓dha_A_2 hv, ↓dhs_A_2 hv, ↓dhl_A_2 hv, ↓dha_A_3 hv, ↓dhs_A_3 hv, ↓dhl_A_3 hv, ↓dha_A_4 hv, ↓dhs_A_4 hv, ↓dhl_A_4 hv, ↓dha_A_5 hv, ↓dhs_A_5 hv, ↓dhl_A_5 hv, Option.bind_some, ↓nm_eq, ↓sm_inl, ↓sm_inr, ↓dzo_0, ↓dzo_1, ↓drg_ok, ↓if_pos, ↓if_neg, if_pos, if_neg, if_true, if_false, Int.toNat_natCast, rg_ok, e, c]
/-- an item brings about what it brings about -/
theorem X0_addItems (hn : 1000000000000000000000000000000 ≤ n) {v : Nat} (hv : v ∈ [73, 79]) {J0 : Nat → Nat → Int} (hE : CE u g N F J0) {s p k : Nat} (hs : s < 80) {K : AS} (hI : CI g N F (v + 1) (ac s) K J0) (hk : k < Gl (gX g) p) (hp9 : SR g (v + 1) (ac s) J0 p k 9) (h16 : 16 ≤ Gs (gX g) p k) :
    ∃ (r : Int) (J' : Nat → Nat → Int), f_X0_addItems n v (s : Int) ((6 * p + k : Nat) : Int) (hp u J0 L) = some (r, hp u J' L) ∧ Fr [v + 1] J0 J' ∧ (∀ x, x < 150 * s ∨ 150 * s + 150 ≤ x → J' (v + 1) x = J0 (v + 1) x) ∧ (∀ x, x < 150 → (∀ q, q < Gn g → x ≠ 6 * q) → J' (v + 1) (150 * s + x) = J0 (v + 1) (150 * s + x)) ∧ CI g N F (v + 1) (ac s) K J' ∧ sAS (SR g (v + 1) (ac s) J0) (SR g (v + 1) (ac s) J') ∧ ((r = 0 ∧ J' = J0 ∧ CAt g N F (v + 1) (ac s) J0 p k) ∨ (r = 1 ∧ mR g (v + 1) (ac s) J0 < mR g (v + 1) (ac s) J')) := by
  have hg := hE.gr
  have h24 := hg.1
  have hvI : vI g p k := hp9.1
  have h6 := vI_6 hg hvI
  have hit := hE.it h6.1 h6.2
  have hsr := gX_sr hg hk
  have hx : 6 * p + k < 150 := by have := gX_l5 hg p; omega
  obtain ⟨rok, rbt⟩ := hit.2 hk
  have hfront := hit.1
  rw [if_pos hk] at hfront
  have hrow : J0 (v + 1) (150 * s + (6 * p + k)) = J0 (v + 1) (ac s p k) := rfl
  obtain ⟨bh, ebh, bok, bbt⟩ := X11_behindOf (J0 72 (6 * p + k)) (gi_and (J0 (v + 1) (150 * s + (6 * p + k))) 511) (hp u J0 L) (bt_ok_and _ _)
  have hm : ∀ t, bt (gi_or 512 bh) t = true ↔ mvb g N F p k (J0 (v + 1) (ac s p k)) t := fun t => by
    rw [bt_or, Bool.or_eq_true, bt_512, decide_eq_true_eq, bbt t, bt_and, Bool.and_eq_true, bt_511, decide_eq_true_eq, rbt t, rbt 9, hrow]
    unfold mvb
    constructor
    · rintro (z | ⟨z1, (⟨-, z2⟩ | ⟨z2, -⟩)⟩ | ⟨(⟨z1, -⟩ | ⟨-, z1⟩), z2, z3⟩)
      · exact Or.inl z
      · exact Or.inr (Or.inl ⟨z1, z2⟩)
      · omega
      · omega
      · exact Or.inr (Or.inr ⟨z1, z3, z2⟩)
    · rintro (z | ⟨z1, z2⟩ | ⟨z1, z2, z3⟩)
      · exact Or.inl z
      · exact Or.inr (Or.inl ⟨z1, Or.inl ⟨z1, z2⟩⟩)
      · exact Or.inr (Or.inr ⟨Or.inr ⟨rfl, z1⟩, z3, z2⟩)
  have e16 : ((Gs (gX g) p k : Nat) : Int) - 16 = ((Gs (gX g) p k - 16 : Nat) : Int) := by omega
  have hv16 : v + 1 ≠ 71 ∧ v + 1 ≠ 72 := by simp at hv; omega
  have hCE : ∀ J, Fr [v + 1] J0 J → CE u g N F J := fun J f => hE.fr f (by simp at hv ⊢; omega)
  suffices key : zLP (Gn g) (fun f q (s1 : Int × (Nat → Nat → Int)) => l_X0_addItems_50 n f v (s : Int) bh ((Gs (gX g) p k - 16 : Nat) : Int) (gU u) s1.1 (q : Int) (hp u s1.2 L))
      (fun q s1 => Fr [v + 1] J0 s1.2 ∧ (∀ x, x < 150 * s ∨ 150 * s + 150 ≤ x → s1.2 (v + 1) x = J0 (v + 1) x) ∧ (∀ x, x < 150 → (∀ q, q < Gn g → x ≠ 6 * q) → s1.2 (v + 1) (150 * s + x) = J0 (v + 1) (150 * s + x)) ∧ CI g N F (v + 1) (ac s) K s1.2 ∧ sAS (SR g (v + 1) (ac s) J0) (SR g (v + 1) (ac s) s1.2) ∧ ((s1.1 = 0 ∧ s1.2 = J0 ∧ ∀ q', q' < q → Gs (gX g) p k = 16 + Go g q' → ∀ t, mvb g N F p k (J0 (v + 1) (ac s p k)) t → SR g (v + 1) (ac s) J0 q' 0 t) ∨ (s1.1 = 1 ∧ mR g (v + 1) (ac s) J0 < mR g (v + 1) (ac s) s1.2)))
      (fun res => ∃ (r : Int) (J' : Nat → Nat → Int), res = some (r, hp u J' L) ∧ Fr [v + 1] J0 J' ∧ (∀ x, x < 150 * s ∨ 150 * s + 150 ≤ x → J' (v + 1) x = J0 (v + 1) x) ∧ (∀ x, x < 150 → (∀ q, q < Gn g → x ≠ 6 * q) → J' (v + 1) (150 * s + x) = J0 (v + 1) (150 * s + x)) ∧ CI g N F (v + 1) (ac s) K J' ∧ sAS (SR g (v + 1) (ac s) J0) (SR g (v + 1) (ac s) J') ∧ ((r = 0 ∧ J' = J0 ∧ CAt g N F (v + 1) (ac s) J0 p k) ∨ (r = 1 ∧ mR g (v + 1) (ac s) J0 < mR g (v + 1) (ac s) J'))) by
    obtain ⟨r, J', e, q⟩ := key (Gn g) n 0 (0, J0) (by omega) (by omega) ⟨Fr.rf, fun _ _ => rfl, fun _ _ _ => rfl, hI, fun _ _ _ z => z, Or.inl ⟨rfl, rfl, fun q' z => absurd z (by omega)⟩⟩
    refine ⟨r, J', ?_, q⟩
    rw [← e]
    have er := X0_row (u := u) (L := L) hv (J := J0) hs hx
    have e1 := X3_rest (u := u) (J := J0) (L := L) hx
    have e2 := X3_front (u := u) (J := J0) (L := L) hx
    rw [hfront] at e2
    simp (disch := omega) only [f_X0_addItems, ↓dhi_A hv, ↓dhG_A_0 hv, ↓dhg_A_1 hv, ↓dhq_A_1 hv, ↓dhg_A_2 hv, ↓dhq_A_2 hv, ↓dhg_A_3 hv, ↓dhq_A_3 hv, ↓dhg_A_4 hv, ↓dhq_A_4 hv, ↓dhG_A_5 hv, ↓dhG_A_6 hv, ↓dhG_A_7 hv, ↓dhG_A_8 hv, ↓dhG_A_9 hv, ↓dha_A_1 hv, ↓dhs_A_1 hv, ↓dhl_A_1 hv, ↓dha_A_2 hv, ↓dhs_A_2 hv, ↓dhl_A_2 hv, ↓dha_A_3 hv, ↓dhs_A_3 hv, ↓dhl_A_3 hv, ↓dha_A_4 hv, ↓dhs_A_4 hv, ↓dhl_A_4 hv, ↓dha_A_5 hv, ↓dhs_A_5 hv, ↓dhl_A_5 hv, Option.bind_some, ↓nm_eq, ↓sm_inl, ↓sm_inr, ↓dzo_0, ↓dzo_1, ↓drg_ok, ↓if_pos, ↓if_neg, if_pos, if_neg, if_true, if_false, Int.toNat_natCast, rg_ok, ↓bnd er, ↓bnd e1, ↓bnd e2, ↓bnd ebh, ↓dhi_F, ↓bnd (X3_grammar (u := u) (J := J0) (L := L)), e16]
    rfl
  refine zlp ?_ ?_
  · rintro f q ⟨fl, J⟩ hq ⟨f1, f2, f3, f4, f5, f6⟩
    dsimp only at f1 f2 f3 f4 f5 f6 ⊢
    right
    have hEJ := hCE J f1
    have hw := hEJ.1
    have hgJ := hEJ.2.1
    have ec := X4_count (u := u) (L := L) (gU_mem u) hw
    have eo := X4_owner (u := u) (L := L) (gU_mem u) hw (p := q) (by rw [hgJ]; exact hq)
    rw [hgJ] at ec eo
    have ek : (q : Int) + 1 = ((q + 1 : Nat) : Int) := by omega
    have hfl : fl = 0 ∨ fl = 1 := by rcases f6 with z | z <;> omega
    have ho16 := hg.2.2.1 q
    by_cases c : Gs (gX g) p k = 16 + Go g q
    · have e6 : (q : Int) * 6 = ((6 * q : Nat) : Int) := by omega
      have hv0 : vI g q 0 := ⟨Or.inl hq, Nat.zero_le _⟩
      have hokJ := (f4.1 q 0 hv0).1
      have ew := X0_widen (u := u) (L := L) hv (J := J) (s := s) (x := 6 * q) hs (by omega) hokJ (gi_or 512 bh)
      obtain ⟨w1, w2, w3, w4⟩ := wid_ok hg (ac_inj hg s) f4 (q := q) (m := gi_or 512 bh) hq ((hm 9).mpr (Or.inl rfl)) (fun t ht => by
        have z := (hm t).mp ht
        refine opA_mono f5 ⟨hq, p, k, hvI.1, hk, c, hp9, ?_⟩
        rcases z with z | z | z
        · exact Or.inl z
        · exact Or.inr (Or.inl z)
        · exact Or.inr (Or.inr ⟨z.1, z.2.1, hvI, z.2.2⟩))
      have had : ac s q 0 = 150 * s + 6 * q := rfl
      rw [had] at w1 w2 w3 w4
      refine ⟨(gi_or fl (if gi_or (J (v + 1) (150 * s + 6 * q)) (gi_or 512 bh) = J (v + 1) (150 * s + 6 * q) then 0 else 1), gx_u J (v + 1) (150 * s + 6 * q) (gi_or (J (v + 1) (150 * s + 6 * q)) (gi_or 512 bh))), ?_, f1.wr (by simp), fun x hx' => ?_, fun x hx' hx2 => ?_, w1, fun a b d z => w2 a b d (f5 a b d z), ?_⟩
      · simp (disch := omega) only [l_X0_addItems_50, b_X0_addItems_50, b_X0_addItems_92, ↓dhi_G (gU_mem u), ↓dhi_A hv, ↓dhG_A_0 hv, ↓dhg_A_1 hv, ↓dhq_A_1 hv, ↓dhg_A_2 hv, ↓dhq_A_2 hv, ↓dhg_A_3 hv, ↓dhq_A_3 hv, ↓dhg_A_4 hv, ↓dhq_A_4 hv, ↓dhG_A_5 hv, ↓dhG_A_6 hv, ↓dhG_A_7 hv, ↓dhG_A_8 hv, ↓dhG_A_9 hv, ↓dha_A_1 hv, ↓dhs_A_1 hv, ↓dhl_A_1 hv, ↓dha_A_2 hv, ↓dhs_A_2 hv, ↓dhl_A_2 hv, ↓dha_A_3 hv, ↓dhs_A_3 hv, ↓dhl_A_3 hv, ↓dha_A_4 hv, ↓dhs_A_4 hv, ↓dhl_A_4 hv, ↓dha_A_5 hv, ↓dhs_A_5 hv, ↓dhl_A_5 hv, Option.bind_some, ↓nm_eq, ↓sm_inl, ↓sm_inr, ↓dzo_0, ↓dzo_1, ↓drg_ok, ↓if_pos, ↓if_neg, if_pos, if_neg, if_true, if_false, Int.toNat_natCast, rg_ok, ↓bnd ec, ↓bnd eo, e6, ew, ek]
      · dsimp only; rw [gu_at_ne (by omega)]; exact f2 x hx'
      · dsimp only; rw [gu_at_ne (by have := hx2 q hq; omega)]; exact f3 x hx' hx2
      · dsimp only
        rcases w4 with ⟨z1, z2⟩ | ⟨z1, z2⟩
        · rw [if_pos z1, z2]
          rcases f6 with ⟨y1, y2, y3⟩ | ⟨y1, y2⟩
          · left
            refine ⟨by rw [y1]; exact or00, y2, fun q' hq' hc t ht => ?_⟩
            by_cases e : q' = q
            · rw [e]
              have := w3 t ((hm t).mpr ht)
              rw [z2, y2] at this; exact this
            · exact y3 q' (by omega) hc t ht
          · right; exact ⟨by rw [y1]; exact or10, y2⟩
        · rw [if_neg z1]
          right
          refine ⟨?_, ?_⟩
          · rcases hfl with y | y
            · rw [y]; exact or01
            · rw [y]; exact or11
          · rcases f6 with ⟨y1, y2, y3⟩ | ⟨y1, y2⟩
            · rw [← y2]; exact z2
            · exact Nat.lt_trans y2 z2
    · refine ⟨(fl, J), ?_, f1, f2, f3, f4, f5, ?_⟩
      · simp (disch := omega) only [l_X0_addItems_50, b_X0_addItems_50, b_X0_addItems_92, ↓dhi_G (gU_mem u), ↓dhi_A hv, ↓dhG_A_0 hv, ↓dhg_A_1 hv, ↓dhq_A_1 hv, ↓dhg_A_2 hv, ↓dhq_A_2 hv, ↓dhg_A_3 hv, ↓dhq_A_3 hv, ↓dhg_A_4 hv, ↓dhq_A_4 hv, ↓dhG_A_5 hv, ↓dhG_A_6 hv, ↓dhG_A_7 hv, ↓dhG_A_8 hv, ↓dhG_A_9 hv, ↓dha_A_1 hv, ↓dhs_A_1 hv, ↓dhl_A_1 hv, ↓dha_A_2 hv, ↓dhs_A_2 hv, ↓dhl_A_2 hv, ↓dha_A_3 hv, ↓dhs_A_3 hv, ↓dhl_A_3 hv, ↓dha_A_4 hv, ↓dhs_A_4 hv, ↓dhl_A_4 hv, ↓dha_A_5 hv, ↓dhs_A_5 hv, ↓dhl_A_5 hv, Option.bind_some, ↓nm_eq, ↓sm_inl, ↓sm_inr, ↓dzo_0, ↓dzo_1, ↓drg_ok, ↓if_pos, ↓if_neg, if_pos, if_neg, if_true, if_false, Int.toNat_natCast, rg_ok, ↓bnd ec, ↓bnd eo, ek]
      · rcases f6 with ⟨y1, y2, y3⟩ | y
        · left
          refine ⟨y1, y2, fun q' hq' hc t ht => ?_⟩
          by_cases e : q' = q
          · rw [e] at hc; exact absurd hc c
          · exact y3 q' (by omega) hc t ht
        · exact Or.inr y
  · rintro f ⟨fl, J⟩ ⟨f1, f2, f3, f4, f5, f6⟩
    dsimp only at f1 f2 f3 f4 f5 f6 ⊢
    have hEJ := hCE J f1
    have hw := hEJ.1
    have hgJ := hEJ.2.1
    have ec := X4_count (u := u) (L := L) (gU_mem u) hw
    rw [hgJ] at ec
    have hfl : fl = 0 ∨ fl = 1 := by rcases f6 with z | z <;> omega
    refine ⟨fl, J, ?_, f1, f2, f3, f4, f5, ?_⟩
    · simp (disch := omega) only [l_X0_addItems_50, b_X0_addItems_50, ↓dhi_G (gU_mem u), ↓dzo_ok, ↓dhi_A hv, ↓dhG_A_0 hv, ↓dhg_A_1 hv, ↓dhq_A_1 hv, ↓dhg_A_2 hv, ↓dhq_A_2 hv, ↓dhg_A_3 hv, ↓dhq_A_3 hv, ↓dhg_A_4 hv, ↓dhq_A_4 hv, ↓dhG_A_5 hv, ↓dhG_A_6 hv, ↓dhG_A_7 hv, ↓dhG_A_8 hv, ↓dhG_A_9 hv, ↓dha_A_1 hv, ↓dhs_A_1 hv, ↓dhl_A_1 hv, ↓dha_A_2 hv, ↓dhs_A_2 hv, ↓dhl_A_2 hv, ↓dha_A_3 hv, ↓dhs_A_3 hv, ↓dhl_A_3 hv, ↓dha_A_4 hv, ↓dhs_A_4 hv, ↓dhl_A_4 hv, ↓dha_A_5 hv, ↓dhs_A_5 hv, ↓dhl_A_5 hv, Option.bind_some, ↓nm_eq, ↓sm_inl, ↓sm_inr, ↓dzo_0, ↓dzo_1, ↓drg_ok, ↓if_pos, ↓if_neg, if_pos, if_neg, if_true, if_false, Int.toNat_natCast, rg_ok, ↓bnd ec]
    · rcases f6 with ⟨y1, y2, y3⟩ | y
      · exact Or.inl ⟨y1, y2, fun _ _ q hq hc t ht => y3 q hq hc t ht⟩
      · exact Or.inr y
theorem bt9_0 {x : Int} (h : bt x 9 = true) : x ≠ 0 := fun e => by rw [e, bt_zero] at h; exact absurd h (by decide)
theorem X0_complete (hn : 1000000000000000000000000000000 ≤ n) {v : Nat} (hv : v ∈ [73, 79]) {J0 : Nat → Nat → Int} (hE : CE u g N F J0) {s : Nat} (hs : s < 80) {K : AS} (hI : CI g N F (v + 1) (ac s) K J0) (hZ : ∀ x, x < 150 → ¬ vI g (x / 6) (x % 6) → J0 (v + 1) (150 * s + x) = 0) :
    ∃ J', f_X0_complete n v (s : Int) (hp u J0 L) = some (hp u J' L) ∧ Fr [v + 1] J0 J' ∧ (∀ x, x < 150 * s ∨ 150 * s + 150 ≤ x → J' (v + 1) x = J0 (v + 1) x) ∧ (∀ x, x < 150 → (∀ q, q < Gn g → x ≠ 6 * q) → J' (v + 1) (150 * s + x) = J0 (v + 1) (150 * s + x)) ∧ VR g (v + 1) (ac s) J' ∧ SR g (v + 1) (ac s) J' = CL g N F K := by
  have hg := hE.gr
  have hv16 : v + 1 ≠ 71 ∧ v + 1 ≠ 72 := by simp at hv; omega
  have hCE : ∀ J, Fr [v + 1] J0 J → CE u g N F J := fun J f => hE.fr f (by simp at hv ⊢; omega)
  -- one turn over the items
  have turn : ∀ (r4 : Nat → Int → Int → Int → gi_H → Option gi_H) (rd : Nat) (J1 : Nat → Nat → Int), zLP 150 (fun f x (s1 : Int × (Nat → Nat → Int)) => l_X0_complete_19 n r4 f v (s : Int) s1.1 (rd : Int) (x : Int) (hp u s1.2 L))
      (fun x s1 => Fr [v + 1] J0 s1.2 ∧ (∀ x, x < 150 * s ∨ 150 * s + 150 ≤ x → s1.2 (v + 1) x = J0 (v + 1) x) ∧ (∀ x, x < 150 → (∀ q, q < Gn g → x ≠ 6 * q) → s1.2 (v + 1) (150 * s + x) = J0 (v + 1) (150 * s + x)) ∧ CI g N F (v + 1) (ac s) K s1.2 ∧ ((s1.1 = 0 ∧ s1.2 = J1 ∧ ∀ p k, vI g p k → 6 * p + k < x → CAt g N F (v + 1) (ac s) J1 p k) ∨ (s1.1 = 1 ∧ mR g (v + 1) (ac s) J1 < mR g (v + 1) (ac s) s1.2)))
      (fun res => ∃ (fl : Int) (J' : Nat → Nat → Int), res = r4 v (s : Int) fl ((rd + 1 : Nat) : Int) (hp u J' L) ∧ Fr [v + 1] J0 J' ∧ (∀ x, x < 150 * s ∨ 150 * s + 150 ≤ x → J' (v + 1) x = J0 (v + 1) x) ∧ (∀ x, x < 150 → (∀ q, q < Gn g → x ≠ 6 * q) → J' (v + 1) (150 * s + x) = J0 (v + 1) (150 * s + x)) ∧ CI g N F (v + 1) (ac s) K J' ∧ ((fl = 0 ∧ J' = J1 ∧ cA g N F (SR g (v + 1) (ac s) J1)) ∨ (fl = 1 ∧ mR g (v + 1) (ac s) J1 < mR g (v + 1) (ac s) J'))) := by
    intro r4 rd J1
    refine zlp ?_ ?_
    · rintro f x ⟨fl, J⟩ hx ⟨f1, f2, f3, f4, f5⟩
      dsimp only at f1 f2 f3 f4 f5 ⊢
      right
      have hEJ := hCE J f1
      have ex : x = 6 * (x / 6) + x % 6 := by omega
      have hp24 : x / 6 ≤ 24 := by omega
      have hk5 : x % 6 ≤ 5 := by omega
      have er := X0_row (u := u) (L := L) hv (J := J) hs hx
      have ef := X3_front (u := u) (J := J) (L := L) hx
      have hit := (hEJ.it hp24 hk5).1
      rw [← ex] at hit
      have ek : (x : Int) + 1 = ((x + 1 : Nat) : Int) := by omega
      have hfl : fl = 0 ∨ fl = 1 := by rcases f5 with z | z <;> omega
      have skip : (∀ p k, vI g p k → 6 * p + k = x → CAt g N F (v + 1) (ac s) J p k) → ((fl = 0 ∧ J = J1 ∧ ∀ p k, vI g p k → 6 * p + k < x + 1 → CAt g N F (v + 1) (ac s) J1 p k) ∨ (fl = 1 ∧ mR g (v + 1) (ac s) J1 < mR g (v + 1) (ac s) J)) := fun hc => by
        rcases f5 with ⟨z1, z2, z3⟩ | z
        · left
          refine ⟨z1, z2, fun p k hv' hl => ?_⟩
          by_cases e : 6 * p + k = x
          · rw [← z2]; exact hc p k hv' e
          · exact z3 p k hv' (by omega)
        · exact Or.inr z
      have pk : ∀ p k, vI g p k → 6 * p + k = x → p = x / 6 ∧ k = x % 6 := fun p k hv' e => by have := vI_6 hg hv'; omega
      by_cases c0 : J (v + 1) (150 * s + x) = 0
      · refine ⟨(fl, J), ?_, f1, f2, f3, f4, skip (fun p k hv' e z => ?_)⟩
        · simp (disch := omega) only [l_X0_complete_19, b_X0_complete_19, b_X0_complete_62, ↓dhi_A hv, ↓dhG_A_0 hv, ↓dhg_A_1 hv, ↓dhq_A_1 hv, ↓dhg_A_2 hv, ↓dhq_A_2 hv, ↓dhg_A_3 hv, ↓dhq_A_3 hv, ↓dhg_A_4 hv, ↓dhq_A_4 hv, ↓dhG_A_5 hv, ↓dhG_A_6 hv, ↓dhG_A_7 hv, ↓dhG_A_8 hv, ↓dhG_A_9 hv, ↓dha_A_1 hv, ↓dhs_A_1 hv, ↓dhl_A_1 hv, ↓dha_A_2 hv, ↓dhs_A_2 hv, ↓dhl_A_2 hv, ↓dha_A_3 hv, ↓dhs_A_3 hv, ↓dhl_A_3 hv, ↓dha_A_4 hv, ↓dhs_A_4 hv, ↓dhl_A_4 hv, ↓dha_A_5 hv, ↓dhs_A_5 hv, ↓dhl_A_5 hv, Option.bind_some, ↓nm_eq, ↓sm_inl, ↓sm_inr, ↓dzo_0, ↓dzo_1, ↓drg_ok, ↓if_pos, ↓if_neg, if_pos, if_neg, if_true, if_false, Int.toNat_natCast, rg_ok, ↓bnd er, ek, c0]
        · exfalso
          have z2 : bt (J (v + 1) (150 * s + (6 * p + k))) 9 = true := z.2
          rw [e] at z2
          exact bt9_0 z2 c0
      · have hvi : vI g (x / 6) (x % 6) := by
          apply Classical.byContradiction
          intro q
          apply c0
          rw [f3 x hx (fun q' hq' e => q ⟨Or.inl (by rw [e]; omega), by omega⟩)]
          exact hZ x hx q
        have hrw := f4.1 _ _ hvi
        have hac : ac s (x / 6) (x % 6) = 150 * s + x := by unfold ac; omega
        rw [hac] at hrw
        have hrg : -2147483648 ≤ J (v + 1) (150 * s + x) ∧ J (v + 1) (150 * s + x) ≤ 2147483647 := hrw.1
        have h9 : SR g (v + 1) (ac s) J (x / 6) (x % 6) 9 := ⟨hvi, by rw [hac]; exact hrw.2.2.elim (fun z => absurd z c0) id⟩
        by_cases ck : x % 6 < Gl (gX g) (x / 6)
        · rw [if_pos ck] at hit
          have hsr := gX_sr hg ck
          rw [hit] at ef
          by_cases c16 : 16 ≤ Gs (gX g) (x / 6) (x % 6)
          · obtain ⟨r, J', a1, a2, a3, a4, a5, a6, a7⟩ := X0_addItems (u := u) (L := L) hn hv hEJ hs f4 ck h9 c16
            rw [← ex] at a1
            have hr : r = 0 ∨ r = 1 := by rcases a7 with z | z <;> omega
            refine ⟨(gi_or fl r, J'), ?_, f1.tr a2, fun y hy => (a3 y hy).trans (f2 y hy), fun y hy hy2 => (a4 y hy hy2).trans (f3 y hy hy2), a5, ?_⟩
            · simp (disch := omega) only [l_X0_complete_19, b_X0_complete_19, b_X0_complete_62, ↓dhi_A hv, ↓dhG_A_0 hv, ↓dhg_A_1 hv, ↓dhq_A_1 hv, ↓dhg_A_2 hv, ↓dhq_A_2 hv, ↓dhg_A_3 hv, ↓dhq_A_3 hv, ↓dhg_A_4 hv, ↓dhq_A_4 hv, ↓dhG_A_5 hv, ↓dhG_A_6 hv, ↓dhG_A_7 hv, ↓dhG_A_8 hv, ↓dhG_A_9 hv, ↓dha_A_1 hv, ↓dhs_A_1 hv, ↓dhl_A_1 hv, ↓dha_A_2 hv, ↓dhs_A_2 hv, ↓dhl_A_2 hv, ↓dha_A_3 hv, ↓dhs_A_3 hv, ↓dhl_A_3 hv, ↓dha_A_4 hv, ↓dhs_A_4 hv, ↓dhl_A_4 hv, ↓dha_A_5 hv, ↓dhs_A_5 hv, ↓dhl_A_5 hv, Option.bind_some, ↓nm_eq, ↓sm_inl, ↓sm_inr, ↓dzo_0, ↓dzo_1, ↓drg_ok, ↓if_pos, ↓if_neg, if_pos, if_neg, if_true, if_false, Int.toNat_natCast, rg_ok, ↓bnd er, ↓bnd ef, ↓bnd a1, ↓dhi_F, ↓bnd (X11_isN1 _ c16 (by omega) _), ek]
            · dsimp only
              rcases a7 with ⟨z1, z2, z3⟩ | ⟨z1, z2⟩
              · rw [z1, z2]
                have e0 : gi_or fl 0 = fl := by rcases hfl with y | y <;> rw [y] <;> decide +kernel
                rw [e0]
                exact skip (fun p k hv' e => by obtain ⟨y1, y2⟩ := pk p k hv' e; rw [y1, y2]; exact z3)
              · right
                refine ⟨by rw [z1]; rcases hfl with y | y <;> rw [y] <;> decide +kernel, ?_⟩
                rcases f5 with ⟨y1, y2, -⟩ | ⟨-, y2⟩
                · rw [← y2]; exact z2
                · exact Nat.lt_trans y2 z2
          · refine ⟨(fl, J), ?_, f1, f2, f3, f4, skip (fun p k hv' e z hk q hq hc => ?_)⟩
            · simp (disch := omega) only [l_X0_complete_19, b_X0_complete_19, b_X0_complete_62, ↓dhi_A hv, ↓dhG_A_0 hv, ↓dhg_A_1 hv, ↓dhq_A_1 hv, ↓dhg_A_2 hv, ↓dhq_A_2 hv, ↓dhg_A_3 hv, ↓dhq_A_3 hv, ↓dhg_A_4 hv, ↓dhq_A_4 hv, ↓dhG_A_5 hv, ↓dhG_A_6 hv, ↓dhG_A_7 hv, ↓dhG_A_8 hv, ↓dhG_A_9 hv, ↓dha_A_1 hv, ↓dhs_A_1 hv, ↓dhl_A_1 hv, ↓dha_A_2 hv, ↓dhs_A_2 hv, ↓dhl_A_2 hv, ↓dha_A_3 hv, ↓dhs_A_3 hv, ↓dhl_A_3 hv, ↓dha_A_4 hv, ↓dhs_A_4 hv, ↓dhl_A_4 hv, ↓dha_A_5 hv, ↓dhs_A_5 hv, ↓dhl_A_5 hv, Option.bind_some, ↓nm_eq, ↓sm_inl, ↓sm_inr, ↓dzo_0, ↓dzo_1, ↓drg_ok, ↓if_pos, ↓if_neg, if_pos, if_neg, if_true, if_false, Int.toNat_natCast, rg_ok, ↓bnd er, ↓bnd ef, ↓dhi_F, ↓bnd (X11_isN0 _ (show Gs (gX g) (x / 6) (x % 6) < 16 by omega) _), ek]
            · obtain ⟨y1, y2⟩ := pk p k hv' e
              rw [y1, y2] at hc; omega
        · rw [if_neg ck] at hit
          rw [hit] at ef
          refine ⟨(fl, J), ?_, f1, f2, f3, f4, skip (fun p k hv' e z hk => ?_)⟩
          · simp (disch := omega) only [l_X0_complete_19, b_X0_complete_19, b_X0_complete_62, ↓dhi_A hv, ↓dhG_A_0 hv, ↓dhg_A_1 hv, ↓dhq_A_1 hv, ↓dhg_A_2 hv, ↓dhq_A_2 hv, ↓dhg_A_3 hv, ↓dhq_A_3 hv, ↓dhg_A_4 hv, ↓dhq_A_4 hv, ↓dhG_A_5 hv, ↓dhG_A_6 hv, ↓dhG_A_7 hv, ↓dhG_A_8 hv, ↓dhG_A_9 hv, ↓dha_A_1 hv, ↓dhs_A_1 hv, ↓dhl_A_1 hv, ↓dha_A_2 hv, ↓dhs_A_2 hv, ↓dhl_A_2 hv, ↓dha_A_3 hv, ↓dhs_A_3 hv, ↓dhl_A_3 hv, ↓dha_A_4 hv, ↓dhs_A_4 hv, ↓dhl_A_4 hv, ↓dha_A_5 hv, ↓dhs_A_5 hv, ↓dhl_A_5 hv, Option.bind_some, ↓nm_eq, ↓sm_inl, ↓sm_inr, ↓dzo_0, ↓dzo_1, ↓drg_ok, ↓if_pos, ↓if_neg, if_pos, if_neg, if_true, if_false, Int.toNat_natCast, rg_ok, ↓bnd er, ↓bnd ef, ↓dhi_F, ↓bnd (X11_isNm _), ek]
          · obtain ⟨y1, y2⟩ := pk p k hv' e
            rw [y1, y2] at hk; omega
    · rintro f ⟨fl, J⟩ ⟨f1, f2, f3, f4, f5⟩
      dsimp only at f1 f2 f3 f4 f5 ⊢
      refine ⟨fl, J, ?_, f1, f2, f3, f4, ?_⟩
      · simp (disch := omega) only [l_X0_complete_19, b_X0_complete_19, b_X0_complete_68, Option.bind_some, ↓nm_eq, ↓sm_inl, ↓sm_inr, ↓dzo_0, ↓dzo_1, ↓drg_ok, ↓if_pos, ↓if_neg, if_pos, if_neg, if_true, if_false, Int.toNat_natCast, rg_ok]
        rw [show (rd : Int) + 1 = ((rd + 1 : Nat) : Int) by omega]
      · rcases f5 with ⟨z1, z2, z3⟩ | z
        · left
          refine ⟨z1, z2, cA_of (fun p k => ?_)⟩
          intro hs9
          have hv6 := vI_6 hg hs9.1
          have hl := gX_l5 hg p
          intro hk
          exact z3 p k hs9.1 (by omega) hs9 hk
        · exact Or.inr z
  suffices key : zWL (fun f (s1 : Int × Nat × (Nat → Nat → Int)) => l_X0_complete_4 n f v (s : Int) s1.1 (s1.2.1 : Int) (hp u s1.2.2 L)) (fun s1 => 2 * (4801 - mR g (v + 1) (ac s) s1.2.2) + s1.1.toNat)
      (fun s1 => Fr [v + 1] J0 s1.2.2 ∧ (∀ x, x < 150 * s ∨ 150 * s + 150 ≤ x → s1.2.2 (v + 1) x = J0 (v + 1) x) ∧ (∀ x, x < 150 → (∀ q, q < Gn g → x ≠ 6 * q) → s1.2.2 (v + 1) (150 * s + x) = J0 (v + 1) (150 * s + x)) ∧ CI g N F (v + 1) (ac s) K s1.2.2 ∧ ((s1.1 = 1 ∧ s1.2.1 ≤ mR g (v + 1) (ac s) s1.2.2) ∨ (s1.1 = 0 ∧ cA g N F (SR g (v + 1) (ac s) s1.2.2) ∧ s1.2.1 ≤ mR g (v + 1) (ac s) s1.2.2 + 1)))
      (fun res => ∃ J', res = some (hp u J' L) ∧ Fr [v + 1] J0 J' ∧ (∀ x, x < 150 * s ∨ 150 * s + 150 ≤ x → J' (v + 1) x = J0 (v + 1) x) ∧ (∀ x, x < 150 → (∀ q, q < Gn g → x ≠ 6 * q) → J' (v + 1) (150 * s + x) = J0 (v + 1) (150 * s + x)) ∧ VR g (v + 1) (ac s) J' ∧ SR g (v + 1) (ac s) J' = CL g N F K) by
    exact key 9603 n (1, 0, J0) (by dsimp only; omega) (by omega) ⟨Fr.rf, fun _ _ => rfl, fun _ _ _ => rfl, hI, Or.inl ⟨rfl, Nat.zero_le _⟩⟩
  refine zwl ?_
  rintro f ⟨fl, rd, J⟩ ⟨f1, f2, f3, f4, f5⟩
  dsimp only at f1 f2 f3 f4 f5 ⊢
  have hle := mR_le (g := g) (A := v + 1) (ad := ac s) (J := J)
  rcases f5 with ⟨z1, z2⟩ | ⟨z1, z2, z3⟩
  · right
    obtain ⟨fl', J', e, a1, a2, a3, a4, a5⟩ := turn (l_X0_complete_4 n f) rd J 150 n 0 (0, J) (by omega) (by omega) ⟨f1, f2, f3, f4, Or.inl ⟨rfl, rfl, fun p k _ h => absurd h (by omega)⟩⟩
    have e' : l_X0_complete_19 n (l_X0_complete_4 n f) n v (s : Int) 0 (rd : Int) 0 (hp u J L) = l_X0_complete_4 n f v (s : Int) fl' ((rd + 1 : Nat) : Int) (hp u J' L) := e
    have hle' := mR_le (g := g) (A := v + 1) (ad := ac s) (J := J')
    refine ⟨(fl', rd + 1, J'), ?_, ⟨a1, a2, a3, a4, ?_⟩, ?_⟩
    · dsimp only
      rw [← e']
      simp (disch := omega) only [l_X0_complete_4, b_X0_complete_4, Option.bind_some, ↓nm_eq, ↓sm_inl, ↓sm_inr, ↓dzo_0, ↓dzo_1, ↓drg_ok, ↓if_pos, ↓if_neg, if_pos, if_neg, if_true, if_false, Int.toNat_natCast, rg_ok]
    · dsimp only
      rcases a5 with ⟨y1, y2, y3⟩ | ⟨y1, y2⟩
      · right; rw [y2]; exact ⟨y1, y3, by omega⟩
      · left; exact ⟨y1, by omega⟩
    · dsimp only
      rcases a5 with ⟨y1, y2, y3⟩ | ⟨y1, y2⟩
      · rw [y1, y2, z1]; omega
      · rw [y1, z1]; omega
  · left
    refine ⟨J, ?_, f1, f2, f3, f4.1, CL_eq f4.2.1 f4.2.2 z2⟩
    simp (disch := omega) only [l_X0_complete_4, b_X0_complete_4, Option.bind_some, ↓nm_eq, ↓sm_inl, ↓sm_inr, ↓dzo_0, ↓dzo_1, ↓drg_ok, ↓if_pos, ↓if_neg, if_pos, if_neg, if_true, if_false, Int.toNat_natCast, rg_ok, z1]
end CC
