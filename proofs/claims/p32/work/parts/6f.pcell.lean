/-! ===== the predictive table: its cells ===== -/
noncomputable def zpf (g : GT) (a y : Nat) : Nat → Bool := fun p => zdb (Go g p = a ∧ pdF g (zN g) (zF g) (zB g) p y)
noncomputable def zpc (g : GT) (a y : Nat) : Nat := cU (zpf g a y) (Gn g) (Gn g)
noncomputable def zpl (g : GT) (a y : Nat) : Int := zl (zpf g a y) (Gn g) (Gn g)
/-- how many cells have at least so many -/
noncomputable def zpn (g : GT) (c : Nat) : Nat := cB (fun i => decide (c ≤ zpc g (i / 9) (i % 9))) 144
theorem cB_cU {f : Nat → Bool} {N : Nat} : ∀ m, m ≤ N → cB f (N - m) + cU f N m = cB f N
  | 0, _ => rfl
  | m + 1, h => by
    have ih := cB_cU (f := f) (N := N) m (by omega)
    have e : N - m = N - (m + 1) + 1 := by omega
    rw [e, cB_s] at ih
    rw [cU_s, show N - 1 - m = N - (m + 1) by omega]
    omega
theorem cB_all {f : Nat → Bool} {N : Nat} : cB f N = cU f N N := by
  have := cB_cU (f := f) (N := N) N (Nat.le_refl _)
  rw [Nat.sub_self] at this
  have e : cB f 0 = 0 := rfl
  omega
theorem zl_first {f : Nat → Bool} {N k : Nat} (hk : k < N) (h1 : f k = true) (h2 : ∀ i, i < k → f i ≠ true) : ∀ m, m ≤ N → N - m ≤ k → zl f N m = (k : Int)
  | 0, _, h => by omega
  | m + 1, hm, h => by
    rw [zl_s]
    by_cases c : f (N - 1 - m) = true
    · rw [if_pos c]
      have : ¬ N - 1 - m < k := fun z => h2 _ z c
      omega
    · rw [if_neg c]
      refine zl_first hk h1 h2 m (by omega) ?_
      by_cases e : N - 1 - m = k
      · rw [e] at c; exact absurd h1 c
      · omega
theorem zl_none {f : Nat → Bool} {N : Nat} (h : ∀ i, i < N → f i ≠ true) : ∀ m, m ≤ N → zl f N m = -1
  | 0, _ => rfl
  | m + 1, hm => by
    rw [zl_s, if_neg (h _ (by omega))]
    exact zl_none h m (by omega)
theorem zpc_le {g : GT} (hg : GR g) {a y : Nat} : zpc g a y ≤ 24 := by
  have := cU_le (f := zpf g a y) (N := Gn g) (Gn g)
  have := hg.1
  unfold zpc; omega
theorem zpl_rg (g : GT) (a y : Nat) : (zpl g a y = -1 ∧ zpc g a y = 0) ∨ ∃ p : Nat, zpl g a y = (p : Int) ∧ p < Gn g ∧ Go g p = a := by
  rcases zl_rg (f := zpf g a y) (N := Gn g) (Gn g) (Nat.le_refl _) with h | ⟨p, h1, h2, h3, -⟩
  · exact Or.inl h
  · exact Or.inr ⟨p, h1, h2, (zdb_t.mp h3).1⟩
section PC_
variable {u : Nat} {n : Nat} {L : Nat → Nat → Int} {g : GT}
theorem cF_pd {J : Nat → Nat → Int} (h : cF g J L) {p : Nat} (hp1 : p < 24) : gi_ok (J 67 p) ∧ ∀ i, bt (J 67 p) i = true ↔ pdF g (zN g) (zF g) (zB g) p i := by
  obtain ⟨e1, e2, e3⟩ := cF_NF h
  have := h.2.2.2.2.2.2.2.2.2.1 p hp1
  rw [e1, e2, e3] at this
  exact this
theorem X3_prediction {J : Nat → Nat → Int} {p : Nat} (hp1 : p < 24) : f_X3_prediction 64 (p : Int) (hp u J L) = some (J 67 p) := by
  simp (disch := omega) only [f_X3_prediction, ↓dhi_F, ↓dhG_F_0, ↓dhg_F_1, ↓dhq_F_1, ↓dhg_F_2, ↓dhq_F_2, ↓dhg_F_3, ↓dhq_F_3, ↓dhg_F_4, ↓dhq_F_4, ↓dhG_F_5, ↓dhG_F_6, ↓dhG_F_7, ↓dhG_F_8, ↓dhG_F_9, ↓dhg_F_10, ↓dhq_F_10, ↓dhG_F_11, ↓dhG_F_12, ↓dhG_F_13, ↓dha_67, ↓dhs_67, ↓dhl_67, Option.bind_some, ↓nm_eq, ↓sm_inl, ↓sm_inr, ↓dzo_0, ↓dzo_1, ↓drg_ok, ↓if_pos, ↓if_neg, if_pos, if_neg, if_true, if_false, Int.toNat_natCast, rg_ok]
theorem X5_isIn {J : Nat → Nat → Int} (h : CTB u g 0 J L) {p a y : Nat} (hp1 : p < Gn g) (ha : a < 16) (hy : y < 9) : f_X5_isIn 145 (p : Int) (a : Int) (y : Int) (hp u J L) = some (b01 (zpf g a y p)) := by
  have hg := h.1.gr
  have h24 := hg.1
  have hm := gU_mem u
  obtain ⟨⟨hw, hcg⟩, -⟩ := h.1
  have ho := hg.2.2.1 p
  have eo := X4_owner (u := u) (L := L) hm hw (p := p) (by rw [hcg]; exact hp1)
  rw [hcg] at eo
  obtain ⟨p1, p2⟩ := cF_pd h.2.2.1 (p := p) (by omega)
  have ep := X3_prediction (u := u) (L := L) (J := J) (p := p) (by omega)
  have eh := X11_has (J 67 p) y (by omega) (hp u J L)
  by_cases c : Go g p = a
  · by_cases c2 : bt (J 67 p) y = true
    · rw [if_pos c2] at eh
      have hz : zpf g a y p = true := zdb_t.mpr ⟨c, (p2 y).mp c2⟩
      rw [hz, b01_t]
      simp (disch := omega) only [f_X5_isIn, ↓dhi_F, ↓dhG_F_0, ↓dhg_F_1, ↓dhq_F_1, ↓dhg_F_2, ↓dhq_F_2, ↓dhg_F_3, ↓dhq_F_3, ↓dhg_F_4, ↓dhq_F_4, ↓dhG_F_5, ↓dhG_F_6, ↓dhG_F_7, ↓dhG_F_8, ↓dhG_F_9, ↓dhg_F_10, ↓dhq_F_10, ↓dhG_F_11, ↓dhG_F_12, ↓dhG_F_13, ↓dhi_P, ↓dhg_P_0, ↓dhq_P_0, ↓dhG_P_1, ↓dhG_P_2, ↓dhG_P_3, ↓dhg_P_4, ↓dhq_P_4, ↓dhG_P_5, ↓dhg_P_6, ↓dhq_P_6, ↓dhi_G hm, ↓dhG_G_0 hm, ↓dhG_G_1 hm, ↓dhG_G_2 hm, ↓dhg_G_3 hm, ↓dhq_G_3 hm, ↓dhG_G_4 hm, ↓dhG_G_5 hm, ↓dhg_G_6 hm, ↓dhq_G_6 hm, ↓dhg_G_7 hm, ↓dhq_G_7 hm, ↓dhG_G_8 hm, ↓dhG_G_9 hm, ↓dha_G_1 hm, ↓dhs_G_1 hm, ↓dhl_G_1 hm, ↓dha_G_2 hm, ↓dhs_G_2 hm, ↓dhl_G_2 hm, ↓dha_G_3 hm, ↓dhs_G_3 hm, ↓dhl_G_3 hm, ↓dha_G_4 hm, ↓dhl_G_4 hm, ↓dha_G_5 hm, ↓dhs_G_5 hm, ↓dhl_G_5 hm, Option.bind_some, ↓nm_eq, ↓sm_inl, ↓sm_inr, ↓dzo_0, ↓dzo_1, ↓drg_ok, ↓if_pos, ↓if_neg, if_pos, if_neg, if_true, if_false, Int.toNat_natCast, rg_ok, ↓bnd X3_grammar, ↓bnd eo, ↓bnd ep, ↓bnd eh]
    · rw [if_neg c2] at eh
      have hz : zpf g a y p = false := zdb_f.mpr (fun z => c2 ((p2 y).mpr z.2))
      rw [hz, b01_f]
      simp (disch := omega) only [f_X5_isIn, b_X5_isIn_34, ↓dhi_F, ↓dhG_F_0, ↓dhg_F_1, ↓dhq_F_1, ↓dhg_F_2, ↓dhq_F_2, ↓dhg_F_3, ↓dhq_F_3, ↓dhg_F_4, ↓dhq_F_4, ↓dhG_F_5, ↓dhG_F_6, ↓dhG_F_7, ↓dhG_F_8, ↓dhG_F_9, ↓dhg_F_10, ↓dhq_F_10, ↓dhG_F_11, ↓dhG_F_12, ↓dhG_F_13, ↓dhi_P, ↓dhg_P_0, ↓dhq_P_0, ↓dhG_P_1, ↓dhG_P_2, ↓dhG_P_3, ↓dhg_P_4, ↓dhq_P_4, ↓dhG_P_5, ↓dhg_P_6, ↓dhq_P_6, ↓dhi_G hm, ↓dhG_G_0 hm, ↓dhG_G_1 hm, ↓dhG_G_2 hm, ↓dhg_G_3 hm, ↓dhq_G_3 hm, ↓dhG_G_4 hm, ↓dhG_G_5 hm, ↓dhg_G_6 hm, ↓dhq_G_6 hm, ↓dhg_G_7 hm, ↓dhq_G_7 hm, ↓dhG_G_8 hm, ↓dhG_G_9 hm, ↓dha_G_1 hm, ↓dhs_G_1 hm, ↓dhl_G_1 hm, ↓dha_G_2 hm, ↓dhs_G_2 hm, ↓dhl_G_2 hm, ↓dha_G_3 hm, ↓dhs_G_3 hm, ↓dhl_G_3 hm, ↓dha_G_4 hm, ↓dhl_G_4 hm, ↓dha_G_5 hm, ↓dhs_G_5 hm, ↓dhl_G_5 hm, Option.bind_some, ↓nm_eq, ↓sm_inl, ↓sm_inr, ↓dzo_0, ↓dzo_1, ↓drg_ok, ↓if_pos, ↓if_neg, if_pos, if_neg, if_true, if_false, Int.toNat_natCast, rg_ok, ↓bnd X3_grammar, ↓bnd eo, ↓bnd ep, ↓bnd eh]
  · have hz : zpf g a y p = false := zdb_f.mpr (fun z => c z.1)
    rw [hz, b01_f]
    simp (disch := omega) only [f_X5_isIn, b_X5_isIn_34, ↓dhi_F, ↓dhG_F_0, ↓dhg_F_1, ↓dhq_F_1, ↓dhg_F_2, ↓dhq_F_2, ↓dhg_F_3, ↓dhq_F_3, ↓dhg_F_4, ↓dhq_F_4, ↓dhG_F_5, ↓dhG_F_6, ↓dhG_F_7, ↓dhG_F_8, ↓dhG_F_9, ↓dhg_F_10, ↓dhq_F_10, ↓dhG_F_11, ↓dhG_F_12, ↓dhG_F_13, ↓dhi_P, ↓dhg_P_0, ↓dhq_P_0, ↓dhG_P_1, ↓dhG_P_2, ↓dhG_P_3, ↓dhg_P_4, ↓dhq_P_4, ↓dhG_P_5, ↓dhg_P_6, ↓dhq_P_6, ↓dhi_G hm, ↓dhG_G_0 hm, ↓dhG_G_1 hm, ↓dhG_G_2 hm, ↓dhg_G_3 hm, ↓dhq_G_3 hm, ↓dhG_G_4 hm, ↓dhG_G_5 hm, ↓dhg_G_6 hm, ↓dhq_G_6 hm, ↓dhg_G_7 hm, ↓dhq_G_7 hm, ↓dhG_G_8 hm, ↓dhG_G_9 hm, ↓dha_G_1 hm, ↓dhs_G_1 hm, ↓dhl_G_1 hm, ↓dha_G_2 hm, ↓dhs_G_2 hm, ↓dhl_G_2 hm, ↓dha_G_3 hm, ↓dhs_G_3 hm, ↓dhl_G_3 hm, ↓dha_G_4 hm, ↓dhl_G_4 hm, ↓dha_G_5 hm, ↓dhs_G_5 hm, ↓dhl_G_5 hm, Option.bind_some, ↓nm_eq, ↓sm_inl, ↓sm_inr, ↓dzo_0, ↓dzo_1, ↓drg_ok, ↓if_pos, ↓if_neg, if_pos, if_neg, if_true, if_false, Int.toNat_natCast, rg_ok, ↓bnd X3_grammar, ↓bnd eo]
theorem X5_countIn (hn : 1000000000000000000000000000000 ≤ n) {J : Nat → Nat → Int} (h : CTB u g 0 J L) {a y : Nat} (ha : a < 16) (hy : y < 9) : f_X5_countIn n 145 (a : Int) (y : Int) (hp u J L) = some (zpc g a y : Int) := by
  have hg := h.1.gr
  have h24 := hg.1
  have hm := gU_mem u
  obtain ⟨⟨hw, hcg⟩, -⟩ := h.1
  have ec := X4_count (u := u) (L := L) hm hw
  rw [hcg] at ec
  have key : zLP (Gn g) (fun f k (_ : Unit) => l_X5_countIn_5 n f 145 (a : Int) (y : Int) (cB (zpf g a y) k : Int) (k : Int) (hp u J L)) (fun _ _ => True) (fun res => res = some (zpc g a y : Int)) := by
    refine zlp ?_ ?_
    · rintro f k _ hk -
      right
      refine ⟨(), ?_, trivial⟩
      have ei := X5_isIn (u := u) h hk ha hy
      have ek : (k : Int) + 1 = ((k + 1 : Nat) : Int) := rfl
      have es : cB (zpf g a y) (k + 1) = cB (zpf g a y) k + (if zpf g a y k = true then 1 else 0) := cB_s
      by_cases c : zpf g a y k = true
      · rw [c, b01_t] at ei
        rw [if_pos c] at es
        have e1 : (cB (zpf g a y) k : Int) + 1 = ((cB (zpf g a y) k + 1 : Nat) : Int) := rfl
        rw [es]
        simp (disch := omega) only [l_X5_countIn_5, b_X5_countIn_5, b_X5_countIn_34, ↓dhi_F, ↓dhG_F_0, ↓dhg_F_1, ↓dhq_F_1, ↓dhg_F_2, ↓dhq_F_2, ↓dhg_F_3, ↓dhq_F_3, ↓dhg_F_4, ↓dhq_F_4, ↓dhG_F_5, ↓dhG_F_6, ↓dhG_F_7, ↓dhG_F_8, ↓dhG_F_9, ↓dhg_F_10, ↓dhq_F_10, ↓dhG_F_11, ↓dhG_F_12, ↓dhG_F_13, ↓dhi_P, ↓dhg_P_0, ↓dhq_P_0, ↓dhG_P_1, ↓dhG_P_2, ↓dhG_P_3, ↓dhg_P_4, ↓dhq_P_4, ↓dhG_P_5, ↓dhg_P_6, ↓dhq_P_6, ↓dhi_G hm, ↓dhG_G_0 hm, ↓dhG_G_1 hm, ↓dhG_G_2 hm, ↓dhg_G_3 hm, ↓dhq_G_3 hm, ↓dhG_G_4 hm, ↓dhG_G_5 hm, ↓dhg_G_6 hm, ↓dhq_G_6 hm, ↓dhg_G_7 hm, ↓dhq_G_7 hm, ↓dhG_G_8 hm, ↓dhG_G_9 hm, ↓dha_G_1 hm, ↓dhs_G_1 hm, ↓dhl_G_1 hm, ↓dha_G_2 hm, ↓dhs_G_2 hm, ↓dhl_G_2 hm, ↓dha_G_3 hm, ↓dhs_G_3 hm, ↓dhl_G_3 hm, ↓dha_G_4 hm, ↓dhl_G_4 hm, ↓dha_G_5 hm, ↓dhs_G_5 hm, ↓dhl_G_5 hm, Option.bind_some, ↓nm_eq, ↓sm_inl, ↓sm_inr, ↓dzo_0, ↓dzo_1, ↓drg_ok, ↓if_pos, ↓if_neg, if_pos, if_neg, if_true, if_false, Int.toNat_natCast, rg_ok, ↓bnd X3_grammar, ↓bnd ec, ↓bnd ei, ek, e1]
      · have c' : zpf g a y k = false := by simpa using c
        rw [c', b01_f] at ei
        rw [if_neg c] at es
        rw [es]
        simp (disch := omega) only [Nat.add_zero, l_X5_countIn_5, b_X5_countIn_5, b_X5_countIn_34, ↓dhi_F, ↓dhG_F_0, ↓dhg_F_1, ↓dhq_F_1, ↓dhg_F_2, ↓dhq_F_2, ↓dhg_F_3, ↓dhq_F_3, ↓dhg_F_4, ↓dhq_F_4, ↓dhG_F_5, ↓dhG_F_6, ↓dhG_F_7, ↓dhG_F_8, ↓dhG_F_9, ↓dhg_F_10, ↓dhq_F_10, ↓dhG_F_11, ↓dhG_F_12, ↓dhG_F_13, ↓dhi_P, ↓dhg_P_0, ↓dhq_P_0, ↓dhG_P_1, ↓dhG_P_2, ↓dhG_P_3, ↓dhg_P_4, ↓dhq_P_4, ↓dhG_P_5, ↓dhg_P_6, ↓dhq_P_6, ↓dhi_G hm, ↓dhG_G_0 hm, ↓dhG_G_1 hm, ↓dhG_G_2 hm, ↓dhg_G_3 hm, ↓dhq_G_3 hm, ↓dhG_G_4 hm, ↓dhG_G_5 hm, ↓dhg_G_6 hm, ↓dhq_G_6 hm, ↓dhg_G_7 hm, ↓dhq_G_7 hm, ↓dhG_G_8 hm, ↓dhG_G_9 hm, ↓dha_G_1 hm, ↓dhs_G_1 hm, ↓dhl_G_1 hm, ↓dha_G_2 hm, ↓dhs_G_2 hm, ↓dhl_G_2 hm, ↓dha_G_3 hm, ↓dhs_G_3 hm, ↓dhl_G_3 hm, ↓dha_G_4 hm, ↓dhl_G_4 hm, ↓dha_G_5 hm, ↓dhs_G_5 hm, ↓dhl_G_5 hm, Option.bind_some, ↓nm_eq, ↓sm_inl, ↓sm_inr, ↓dzo_0, ↓dzo_1, ↓drg_ok, ↓if_pos, ↓if_neg, if_pos, if_neg, if_true, if_false, Int.toNat_natCast, rg_ok, ↓bnd X3_grammar, ↓bnd ec, ↓bnd ei, ek]
    · rintro f _ -
      have e : (cB (zpf g a y) (Gn g) : Int) = (zpc g a y : Int) := by rw [cB_all]; rfl
      rw [e]
      simp (disch := omega) only [l_X5_countIn_5, b_X5_countIn_5, ↓dhi_F, ↓dhG_F_0, ↓dhg_F_1, ↓dhq_F_1, ↓dhg_F_2, ↓dhq_F_2, ↓dhg_F_3, ↓dhq_F_3, ↓dhg_F_4, ↓dhq_F_4, ↓dhG_F_5, ↓dhG_F_6, ↓dhG_F_7, ↓dhG_F_8, ↓dhG_F_9, ↓dhg_F_10, ↓dhq_F_10, ↓dhG_F_11, ↓dhG_F_12, ↓dhG_F_13, ↓dhi_P, ↓dhg_P_0, ↓dhq_P_0, ↓dhG_P_1, ↓dhG_P_2, ↓dhG_P_3, ↓dhg_P_4, ↓dhq_P_4, ↓dhG_P_5, ↓dhg_P_6, ↓dhq_P_6, ↓dhi_G hm, ↓dhG_G_0 hm, ↓dhG_G_1 hm, ↓dhG_G_2 hm, ↓dhg_G_3 hm, ↓dhq_G_3 hm, ↓dhG_G_4 hm, ↓dhG_G_5 hm, ↓dhg_G_6 hm, ↓dhq_G_6 hm, ↓dhg_G_7 hm, ↓dhq_G_7 hm, ↓dhG_G_8 hm, ↓dhG_G_9 hm, ↓dha_G_1 hm, ↓dhs_G_1 hm, ↓dhl_G_1 hm, ↓dha_G_2 hm, ↓dhs_G_2 hm, ↓dhl_G_2 hm, ↓dha_G_3 hm, ↓dhs_G_3 hm, ↓dhl_G_3 hm, ↓dha_G_4 hm, ↓dhl_G_4 hm, ↓dha_G_5 hm, ↓dhs_G_5 hm, ↓dhl_G_5 hm, Option.bind_some, ↓nm_eq, ↓sm_inl, ↓sm_inr, ↓dzo_0, ↓dzo_1, ↓drg_ok, ↓if_pos, ↓if_neg, if_pos, if_neg, if_true, if_false, Int.toNat_natCast, rg_ok, ↓bnd X3_grammar, ↓bnd ec]
  exact key (Gn g) n 0 () (by omega) (by omega) trivial
theorem X5_lowestIn (hn : 1000000000000000000000000000000 ≤ n) {J : Nat → Nat → Int} (h : CTB u g 0 J L) {a y : Nat} (ha : a < 16) (hy : y < 9) : f_X5_lowestIn n 145 (a : Int) (y : Int) (hp u J L) = some (zpl g a y) := by
  have hg := h.1.gr
  have h24 := hg.1
  have hm := gU_mem u
  obtain ⟨⟨hw, hcg⟩, -⟩ := h.1
  have ec := X4_count (u := u) (L := L) hm hw
  rw [hcg] at ec
  have key : zLP (Gn g) (fun f k (_ : Unit) => l_X5_lowestIn_2 n f 145 (a : Int) (y : Int) (k : Int) (hp u J L)) (fun k _ => ∀ i, i < k → zpf g a y i ≠ true) (fun res => res = some (zpl g a y)) := by
    refine zlp ?_ ?_
    · rintro f k _ hk hB
      have ei := X5_isIn (u := u) h hk ha hy
      have ek : (k : Int) + 1 = ((k + 1 : Nat) : Int) := rfl
      by_cases c : zpf g a y k = true
      · rw [c, b01_t] at ei
        left
        have e : zpl g a y = (k : Int) := zl_first hk c hB (Gn g) (Nat.le_refl _) (by omega)
        rw [e]
        simp (disch := omega) only [l_X5_lowestIn_2, b_X5_lowestIn_2, ↓dhi_F, ↓dhG_F_0, ↓dhg_F_1, ↓dhq_F_1, ↓dhg_F_2, ↓dhq_F_2, ↓dhg_F_3, ↓dhq_F_3, ↓dhg_F_4, ↓dhq_F_4, ↓dhG_F_5, ↓dhG_F_6, ↓dhG_F_7, ↓dhG_F_8, ↓dhG_F_9, ↓dhg_F_10, ↓dhq_F_10, ↓dhG_F_11, ↓dhG_F_12, ↓dhG_F_13, ↓dhi_P, ↓dhg_P_0, ↓dhq_P_0, ↓dhG_P_1, ↓dhG_P_2, ↓dhG_P_3, ↓dhg_P_4, ↓dhq_P_4, ↓dhG_P_5, ↓dhg_P_6, ↓dhq_P_6, ↓dhi_G hm, ↓dhG_G_0 hm, ↓dhG_G_1 hm, ↓dhG_G_2 hm, ↓dhg_G_3 hm, ↓dhq_G_3 hm, ↓dhG_G_4 hm, ↓dhG_G_5 hm, ↓dhg_G_6 hm, ↓dhq_G_6 hm, ↓dhg_G_7 hm, ↓dhq_G_7 hm, ↓dhG_G_8 hm, ↓dhG_G_9 hm, ↓dha_G_1 hm, ↓dhs_G_1 hm, ↓dhl_G_1 hm, ↓dha_G_2 hm, ↓dhs_G_2 hm, ↓dhl_G_2 hm, ↓dha_G_3 hm, ↓dhs_G_3 hm, ↓dhl_G_3 hm, ↓dha_G_4 hm, ↓dhl_G_4 hm, ↓dha_G_5 hm, ↓dhs_G_5 hm, ↓dhl_G_5 hm, Option.bind_some, ↓nm_eq, ↓sm_inl, ↓sm_inr, ↓dzo_0, ↓dzo_1, ↓drg_ok, ↓if_pos, ↓if_neg, if_pos, if_neg, if_true, if_false, Int.toNat_natCast, rg_ok, ↓bnd X3_grammar, ↓bnd ec, ↓bnd ei]
      · have c' : zpf g a y k = false := by simpa using c
        rw [c', b01_f] at ei
        right
        refine ⟨(), ?_, fun i hi => ?_⟩
        · simp (disch := omega) only [l_X5_lowestIn_2, b_X5_lowestIn_2, ↓dhi_F, ↓dhG_F_0, ↓dhg_F_1, ↓dhq_F_1, ↓dhg_F_2, ↓dhq_F_2, ↓dhg_F_3, ↓dhq_F_3, ↓dhg_F_4, ↓dhq_F_4, ↓dhG_F_5, ↓dhG_F_6, ↓dhG_F_7, ↓dhG_F_8, ↓dhG_F_9, ↓dhg_F_10, ↓dhq_F_10, ↓dhG_F_11, ↓dhG_F_12, ↓dhG_F_13, ↓dhi_P, ↓dhg_P_0, ↓dhq_P_0, ↓dhG_P_1, ↓dhG_P_2, ↓dhG_P_3, ↓dhg_P_4, ↓dhq_P_4, ↓dhG_P_5, ↓dhg_P_6, ↓dhq_P_6, ↓dhi_G hm, ↓dhG_G_0 hm, ↓dhG_G_1 hm, ↓dhG_G_2 hm, ↓dhg_G_3 hm, ↓dhq_G_3 hm, ↓dhG_G_4 hm, ↓dhG_G_5 hm, ↓dhg_G_6 hm, ↓dhq_G_6 hm, ↓dhg_G_7 hm, ↓dhq_G_7 hm, ↓dhG_G_8 hm, ↓dhG_G_9 hm, ↓dha_G_1 hm, ↓dhs_G_1 hm, ↓dhl_G_1 hm, ↓dha_G_2 hm, ↓dhs_G_2 hm, ↓dhl_G_2 hm, ↓dha_G_3 hm, ↓dhs_G_3 hm, ↓dhl_G_3 hm, ↓dha_G_4 hm, ↓dhl_G_4 hm, ↓dha_G_5 hm, ↓dhs_G_5 hm, ↓dhl_G_5 hm, Option.bind_some, ↓nm_eq, ↓sm_inl, ↓sm_inr, ↓dzo_0, ↓dzo_1, ↓drg_ok, ↓if_pos, ↓if_neg, if_pos, if_neg, if_true, if_false, Int.toNat_natCast, rg_ok, ↓bnd X3_grammar, ↓bnd ec, ↓bnd ei, ek]
        · by_cases e : i = k
          · rw [e]; exact c
          · exact hB i (by omega)
    · rintro f _ hB
      have e : zpl g a y = -1 := zl_none hB (Gn g) (Nat.le_refl _)
      rw [e]
      simp (disch := omega) only [l_X5_lowestIn_2, b_X5_lowestIn_2, ↓dhi_F, ↓dhG_F_0, ↓dhg_F_1, ↓dhq_F_1, ↓dhg_F_2, ↓dhq_F_2, ↓dhg_F_3, ↓dhq_F_3, ↓dhg_F_4, ↓dhq_F_4, ↓dhG_F_5, ↓dhG_F_6, ↓dhG_F_7, ↓dhG_F_8, ↓dhG_F_9, ↓dhg_F_10, ↓dhq_F_10, ↓dhG_F_11, ↓dhG_F_12, ↓dhG_F_13, ↓dhi_P, ↓dhg_P_0, ↓dhq_P_0, ↓dhG_P_1, ↓dhG_P_2, ↓dhG_P_3, ↓dhg_P_4, ↓dhq_P_4, ↓dhG_P_5, ↓dhg_P_6, ↓dhq_P_6, ↓dhi_G hm, ↓dhG_G_0 hm, ↓dhG_G_1 hm, ↓dhG_G_2 hm, ↓dhg_G_3 hm, ↓dhq_G_3 hm, ↓dhG_G_4 hm, ↓dhG_G_5 hm, ↓dhg_G_6 hm, ↓dhq_G_6 hm, ↓dhg_G_7 hm, ↓dhq_G_7 hm, ↓dhG_G_8 hm, ↓dhG_G_9 hm, ↓dha_G_1 hm, ↓dhs_G_1 hm, ↓dhl_G_1 hm, ↓dha_G_2 hm, ↓dhs_G_2 hm, ↓dhl_G_2 hm, ↓dha_G_3 hm, ↓dhs_G_3 hm, ↓dhl_G_3 hm, ↓dha_G_4 hm, ↓dhl_G_4 hm, ↓dha_G_5 hm, ↓dhs_G_5 hm, ↓dhl_G_5 hm, Option.bind_some, ↓nm_eq, ↓sm_inl, ↓sm_inr, ↓dzo_0, ↓dzo_1, ↓drg_ok, ↓if_pos, ↓if_neg, if_pos, if_neg, if_true, if_false, Int.toNat_natCast, rg_ok, ↓bnd X3_grammar, ↓bnd ec]
  exact key (Gn g) n 0 () (by omega) (by omega) (fun i hi => absurd hi (by omega))
theorem X5_cellsWith (hn : 1000000000000000000000000000000 ≤ n) {J : Nat → Nat → Int} (h : CTB u g 0 J L) {c : Nat} (hc : c ≤ 100) : f_X5_cellsWith n 145 (c : Int) (hp u J L) = some (zpn g c : Int) := by
  have hg := h.1.gr
  obtain ⟨fc, hfc⟩ : ∃ fc : Nat → Bool, fc = fun i => decide (c ≤ zpc g (i / 9) (i % 9)) := ⟨_, rfl⟩
  have hz : zpn g c = cB fc 144 := by rw [hfc]; rfl
  have inn : ∀ (r4 : Nat → Int → Int → Int → gi_H → Option Int) (a : Nat), a < 16 → zLP 9 (fun f y (_ : Unit) => l_X5_cellsWith_13 n r4 f 145 (c : Int) (cB fc (9 * a + y) : Int) (a : Int) (y : Int) (hp u J L)) (fun _ _ => True)
      (fun res => res = r4 145 (c : Int) (cB fc (9 * (a + 1)) : Int) ((a + 1 : Nat) : Int) (hp u J L)) := by
    intro r4 a ha
    refine zlp ?_ ?_
    · rintro f y _ hy -
      right
      refine ⟨(), ?_, trivial⟩
      have ec := X5_countIn (u := u) hn h ha hy
      have h24 := zpc_le hg (a := a) (y := y)
      have ek : (y : Int) + 1 = ((y + 1 : Nat) : Int) := rfl
      have es : cB fc (9 * a + (y + 1)) = cB fc (9 * a + y) + (if fc (9 * a + y) = true then 1 else 0) := cB_s
      have hdv : (9 * a + y) / 9 = a ∧ (9 * a + y) % 9 = y := by omega
      have hf : fc (9 * a + y) = decide (c ≤ zpc g a y) := by rw [hfc]; dsimp only; rw [hdv.1, hdv.2]
      by_cases q : c ≤ zpc g a y
      · rw [if_pos (by rw [hf, decide_eq_true_eq]; exact q)] at es
        have e1 : (cB fc (9 * a + y) : Int) + 1 = ((cB fc (9 * a + y) + 1 : Nat) : Int) := rfl
        rw [es]
        simp (disch := omega) only [l_X5_cellsWith_13, b_X5_cellsWith_13, b_X5_cellsWith_34, ↓dhi_P, ↓dhg_P_0, ↓dhq_P_0, ↓dhG_P_1, ↓dhG_P_2, ↓dhG_P_3, ↓dhg_P_4, ↓dhq_P_4, ↓dhG_P_5, ↓dhg_P_6, ↓dhq_P_6, Option.bind_some, ↓nm_eq, ↓sm_inl, ↓sm_inr, ↓dzo_0, ↓dzo_1, ↓drg_ok, ↓if_pos, ↓if_neg, if_pos, if_neg, if_true, if_false, Int.toNat_natCast, rg_ok, ↓bnd ec, ek, e1]
      · rw [if_neg (by rw [hf, decide_eq_true_eq]; exact q)] at es
        rw [es]
        simp (disch := omega) only [Nat.add_zero, l_X5_cellsWith_13, b_X5_cellsWith_13, b_X5_cellsWith_34, ↓dhi_P, ↓dhg_P_0, ↓dhq_P_0, ↓dhG_P_1, ↓dhG_P_2, ↓dhG_P_3, ↓dhg_P_4, ↓dhq_P_4, ↓dhG_P_5, ↓dhg_P_6, ↓dhq_P_6, Option.bind_some, ↓nm_eq, ↓sm_inl, ↓sm_inr, ↓dzo_0, ↓dzo_1, ↓drg_ok, ↓if_pos, ↓if_neg, if_pos, if_neg, if_true, if_false, Int.toNat_natCast, rg_ok, ↓bnd ec, ek]
    · rintro f _ -
      have ek : (a : Int) + 1 = ((a + 1 : Nat) : Int) := rfl
      have e9 : 9 * a + 9 = 9 * (a + 1) := by omega
      rw [e9]
      simp (disch := omega) only [l_X5_cellsWith_13, b_X5_cellsWith_13, b_X5_cellsWith_40, Option.bind_some, ↓nm_eq, ↓sm_inl, ↓sm_inr, ↓dzo_0, ↓dzo_1, ↓drg_ok, ↓if_pos, ↓if_neg, if_pos, if_neg, if_true, if_false, Int.toNat_natCast, rg_ok, ek]
  have out : zLP 16 (fun f a (_ : Unit) => l_X5_cellsWith_4 n f 145 (c : Int) (cB fc (9 * a) : Int) (a : Int) (hp u J L)) (fun _ _ => True) (fun res => res = some (zpn g c : Int)) := by
    refine zlp ?_ ?_
    · rintro f a _ ha -
      right
      refine ⟨(), ?_, trivial⟩
      have e := inn (l_X5_cellsWith_4 n f) a ha 9 n 0 () (by omega) (by omega) trivial
      have e' : l_X5_cellsWith_13 n (l_X5_cellsWith_4 n f) n 145 (c : Int) (cB fc (9 * a) : Int) (a : Int) 0 (hp u J L) = l_X5_cellsWith_4 n f 145 (c : Int) (cB fc (9 * (a + 1)) : Int) ((a + 1 : Nat) : Int) (hp u J L) := e
      rw [← e']
      simp (disch := omega) only [l_X5_cellsWith_4, b_X5_cellsWith_4, Option.bind_some, ↓nm_eq, ↓sm_inl, ↓sm_inr, ↓dzo_0, ↓dzo_1, ↓drg_ok, ↓if_pos, ↓if_neg, if_pos, if_neg, if_true, if_false, Int.toNat_natCast, rg_ok]
    · rintro f _ -
      rw [hz]
      simp (disch := omega) only [l_X5_cellsWith_4, b_X5_cellsWith_4, Option.bind_some, ↓nm_eq, ↓sm_inl, ↓sm_inr, ↓dzo_0, ↓dzo_1, ↓drg_ok, ↓if_pos, ↓if_neg, if_pos, if_neg, if_true, if_false, Int.toNat_natCast, rg_ok] <;> rfl
  exact out 16 n 0 () (by omega) (by omega) trivial
/-! the reference's -/
theorem zpv_rg (hg : GR g) {a y : Nat} : (100 ≤ 100 * (zpc g a y : Int) + zpl g a y + 1 ↔ 1 ≤ zpc g a y) ∧ (200 ≤ 100 * (zpc g a y : Int) + zpl g a y + 1 ↔ 2 ≤ zpc g a y) ∧ (100 * (zpc g a y : Int) + zpl g a y + 1) % 100 - 1 = zpl g a y ∧ 0 ≤ 100 * (zpc g a y : Int) + zpl g a y + 1 ∧ 100 * (zpc g a y : Int) + zpl g a y + 1 ≤ 3000 := by
  have h24 := hg.1
  have h1 := zpc_le hg (a := a) (y := y)
  rcases zpl_rg g a y with ⟨z, z2⟩ | ⟨p, z, z2, -⟩
  · rw [z]; omega
  · rw [z]; omega
end PC_
