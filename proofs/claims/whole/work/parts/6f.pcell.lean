/-! ===== the predictive table: its cells ===== -/
noncomputable def zpf (g : GT) (a y : Nat) : Nat → Bool := fun p => zdb (Go g p = a ∧ pdF g (zN g) (zF g) (zB g) p y)
noncomputable def zpc (g : GT) (a y : Nat) : Nat := cU (zpf g a y) (Gn g) (Gn g)
noncomputable def zpl (g : GT) (a y : Nat) : Int := zl (zpf g a y) (Gn g) (Gn g)
/-- how many cells have at least so many -/
noncomputable def zpn (g : GT) (c : Nat) : Nat := cB (fun i => decide (c ≤ zpc g (i / 9) (i % 9))) 144
theorem cB_cU {f : Nat → Bool} {N : Nat} : ∀ m, m ≤ N → cB f (N - m) + cU f N m = cB f N
  | 0, _ => rfl
  | m + 1, h => by
    have ih := cB_cU (f := f) (N := N) m (by omega)
    have e : N - m = N - (m + 1) + 1 := by omega
    rw [e, cB_s] at ih
    rw [cU_s, show N - 1 - m = N - (m + 1) by omega]
    omega
theorem cB_all {f : Nat → Bool} {N : Nat} : cB f N = cU f N N := by
  have := cB_cU (f := f) (N := N) N (Nat.le_refl _)
  rw [Nat.sub_self] at this
  have e : cB f 0 = 0 := rfl
  omega
theorem zl_first {f : Nat → Bool} {N k : Nat} (hk : k < N) (h1 : f k = true) (h2 : ∀ i, i < k → f i ≠ true) : ∀ m, m ≤ N → N - m ≤ k → zl f N m = (k : Int)
  | 0, _, h => by omega
  | m + 1, hm, h => by
    rw [zl_s]
    by_cases c : f (N - 1 - m) = true
    · rw [if_pos c]
      have : ¬ N - 1 - m < k := fun z => h2 _ z c
      omega
    · rw [if_neg c]
      refine zl_first hk h1 h2 m (by omega) ?_
      by_cases e : N - 1 - m = k
      · rw [e] at c; exact absurd h1 c
      · omega
theorem zl_none {f : Nat → Bool} {N : Nat} (h : ∀ i, i < N → f i ≠ true) : ∀ m, m ≤ N → zl f N m = -1
  | 0, _ => rfl
  | m + 1, hm => by
    rw [zl_s, if_neg (h _ (by omega))]
    exact zl_none h m (by omega)
theorem zpc_le {g : GT} (hg : GR g) {a y : Nat} : zpc g a y ≤ 24 := by
  have := cU_le (f := zpf g a y) (N := Gn g) (Gn g)
  have := hg.1
  unfold zpc; omega
theorem zpl_rg (g : GT) (a y : Nat) : (zpl g a y = -1 ∧ zpc g a y = 0) ∨ ∃ p : Nat, zpl g a y = (p : Int) ∧ p < Gn g ∧ Go g p = a := by
  rcases zl_rg (f := zpf g a y) (N := Gn g) (Gn g) (Nat.le_refl _) with h | ⟨p, h1, h2, h3, -⟩
  · exact Or.inl h
  · exact Or.inr ⟨p, h1, h2, (zdb_t.mp h3).1⟩
section PC_
variable {u : Nat} {n : Nat} {L : Nat → Nat → Int} {g : GT}
theorem cF_pd {J : Nat → Nat → Int} (h : cF g J L) {p : Nat} (hp1 : p < 24) : gi_ok (J 67 p) ∧ ∀ i, bt (J 67 p) i = true ↔ pdF g (zN g) (zF g) (zB g) p i := by
  obtain ⟨e1, e2, e3⟩ := cF_NF h
  have := h.2.2.2.2.2.2.2.2.2.1 p hp1
  rw [e1, e2, e3] at this
  exact this
theorem X3_prediction {J : Nat → Nat → Int} {p : Nat} (hp1 : p < 24) : f_X3_prediction 64 (p : Int) (hp u J L) = some (J 67 p) := by
  simp (disch := omega) only [f_X3_prediction, ↓dhi_F, ↓dhG_F_0, ↓dhg_F_1, ↓dhq_F_1, ↓dhg_F_2, ↓dhq_F_2, ↓dhg_F_3, ↓dhq_F_3, ↓dhg_F_4, ↓dhq_F_4, ↓dhG_F_5, ↓dhG_F_6, ↓dhG_F_7, ↓dhG_F_8, ↓dhG_F_9, ↓dhg_F_10, ↓dhq_F_10, ↓dhG_F_11, ↓dhG_F_12, ↓dhG_F_13, ↓dha_67, ↓dhs_67, ↓dhl_67, Option.bind_some, ↓nm_eq, ↓sm_inl, ↓sm_inr, ↓dzo_0, ↓dzo_1, ↓drg_ok, ↓if_pos, ↓if_neg, if_pos, if_neg, if_true, if_false, Int.toNat_natCast, rg_ok]
theorem X5_isIn {J : Nat → Nat → Int} (h : CTB u g 0 J L) {p a y : Nat} (hp1 : p < Gn g) (ha : a < 16) (hy : y < 9) : f_X5_isIn 145 (p : Int) (a : Int) (y : Int) (hp u J L) = some (b01 (zpf g a y p)) := by
  have hg := h.1.gr
  have h24 := hg.1
  have hm := gU_mem u
  obtain ⟨⟨hw, hcg⟩, -⟩ := h.1
  have ho := hg.2.2.1 p
  have eo := X4_owner (u := u) (L := L) hm hw (p := p) (by rw [hcg]; exact hp1)
  rw [hcg] at eo
  obtain ⟨p1, p2⟩ := cF_pd h.2.2.1 (p := p) (by omega)
  have ep := X3_prediction (u := u) (L := L) (J := J) (p := p) (by omega)
  have eh := X11_has (J 67 p) y (by omega) (hp u J L)
  by_cases c : Go g p = a
  · by_cases c2 : bt (J 67 p) y = true
    · rw [if_pos c2] at eh
      have hz : zpf g a y p = true := zdb_t.mpr ⟨c, (p2 y).mp c2⟩
      rw [hz, b01_t]
      simp (disch := omega) only [f_X5_isIn, ↓dhi_F, ↓dhG_F_0, ↓dhg_F_1, ↓dhq_F_1, ↓dhg_F_2, ↓dhq_F_2, ↓dhg_F_3, ↓dhq_F_3, ↓dhg_F_4, ↓dhq_F_4, ↓dhG_F_5, ↓dhG_F_6, ↓dhG_F_7, ↓dhG_F_8, ↓dhG_F_9, ↓dhg_F_10, ↓dhq_F_10, ↓dhG_F_11, ↓dhG_F_12, ↓dhG_F_13, ↓dhi_P, ↓dhg_P_0, ↓dhq_P_0, ↓dhG_P_1, ↓dhG_P_2, ↓dhG_P_3, ↓dhg_P_4, ↓dhq_P_4, ↓dhG_P_5, ↓dhg_P_6, ↓dhq_P_6, ↓dhi_G hm, ↓dhG_G_0 hm, ↓dhG_G_1 hm, ↓dhG_G_2 hm, ↓dhg_G_3 hm, ↓dhq_G_3 hm, ↓dhG_G_4 hm, ↓dhG_G_5 hm, ↓dhg_G_6 hm, ↓dhq_G_6 hm, ↓dhg_G_7 hm, ↓dhq_G_7 hm, ↓dhG_G_8 hm, ↓dhG_G_9 hm, ↓dha_G_1 hm, ↓dhs_G_1 hm, ↓dhl_G_1 hm, ↓dha_G_2 hm, ↓dhs_G_2 hm, ↓dhl_G_2 hm, ↓dha_G_3 hm, ↓dhs_G_3 hm, ↓dhl_G_3 hm, ↓dha_G_4 hm, ↓dhl_G_4 hm, ↓dha_G_5 hm, ↓dhs_G_5 hm, ↓dhl_G_5 hm, Option.bind_some, ↓nm_eq, ↓sm_inl, ↓sm_inr, ↓dzo_0, ↓dzo_1, ↓drg_ok, ↓if_pos, ↓if_neg, if_pos, if_neg, if_true, if_false, Int.toNat_natCast, rg_ok, ↓bnd X3_grammar, ↓bnd eo, ↓bnd ep, ↓bnd eh]
    · rw [if_neg c2] at eh
      have hz : zpf g a y p = false := zdb_f.mpr (fun z => c2 ((p2 y).mpr z.2))
      rw [hz, b01_f]
      simp (disch := omega) only [f_X5_isIn, b_X5_isIn_34, ↓dhi_F, ↓dhG_F_0, ↓dhg_F_1, ↓dhq_F_1, ↓dhg_F_2, ↓dhq_F_2, ↓dhg_F_3, ↓dhq_F_3, ↓dhg_F_4, ↓dhq_F_4, ↓dhG_F_5, ↓dhG_F_6, ↓dhG_F_7, ↓dhG_F_8, ↓dhG_F_9, ↓dhg_F_10, ↓dhq_F_10, ↓dhG_F_11, ↓dhG_F_12, ↓dhG_F_13, ↓dhi_P, ↓dhg_P_0, ↓dhq_P_0, ↓dhG_P_1, ↓dhG_P_2, ↓dhG_P_3, ↓dhg_P_4, ↓dhq_P_4, ↓dhG_P_5, ↓dhg_P_6, ↓dhq_P_6, ↓dhi_G hm, ↓dhG_G_0 hm, ↓dhG_G_1 hm, ↓dhG_G_2 hm, ↓dhg_G_3 hm, ↓dhq_G_3 hm, ↓dhG_G_4 hm, ↓dhG_G_5 hm, ↓dhg_G_6 hm, ↓dhq_G_6 hm, ↓dhg_G_7 hm, ↓dhq_G_7 hm, ↓dhG_G_8 hm, ↓dhG_G_9 hm, ↓dha_G_1 hm, ↓dhs_G_1 hm, ↓dhl_G_1 hm, ↓dha_G_2 hm, ↓dhs_G_2 hm, ↓dhl_G_2 hm, ↓dha_G_3 hm, ↓dhs_G_3 hm, ↓dhl_G_3 hm, ↓dha_G_4 hm, ↓dhl_G_4 hm, ↓dha_G_5 hm, ↓dhs_G_5 hm, ↓dhl_G_5 hm, Option.bind_some, ↓nm_eq, ↓sm_inl, ↓sm_inr, ↓dzo_0, ↓dzo_1, ↓drg_ok, ↓if_pos, ↓if_neg, if_pos, if_neg, if_true, if_false, Int.toNat_natCast, rg_ok, ↓bnd X3_grammar, ↓bnd eo, ↓bnd ep, ↓bnd eh]
  · have hz : zpf g a y p = false := zdb_f.mpr (fun z => c z.1)
    rw [hz, b01_f]
    simp (disch := omega) only [f_X5_isIn, b_X5_isIn_34, ↓dhi_F, ↓dhG_F_0, ↓dhg_F_1, ↓dhq_F_1, ↓dhg_F_2, ↓dhq_F_2, ↓dhg_F_3, ↓dhq_F_3, ↓dhg_F_4, ↓dhq_F_4, ↓dhG_F_5, ↓dhG_F_6, ↓dhG_F_7, ↓dhG_F_8, ↓dhG_F_9, ↓dhg_F_10, ↓dhq_F_10, ↓dhG_F_11, ↓dhG_F_12, ↓dhG_F_13, ↓dhi_P, ↓dhg_P_0, ↓dhq_P_0, ↓dhG_P_1, ↓dhG_P_2, ↓dhG_P_3, ↓dhg_P_4, ↓dhq_P_4, ↓dhG_P_5, ↓dhg_P_6, ↓dhq_P_6, ↓dhi_G hm, ↓dhG_G_0 hm, ↓dhG_G_1 hm, ↓dhG_G_2 hm, ↓dhg_G_3 hm, ↓dhq_G_3 hm, ↓dhG_G_4 hm, ↓dhG_G_5 hm, ↓dhg_G_6 hm, ↓dhq_G_6 hm, ↓dhg_G_7 hm, ↓dhq_G_7 hm, ↓dhG_G_8 hm, ↓dhG_G_9 hm, ↓dha_G_1 hm, ↓dhs_G_1 hm, ↓dhl_G_1 hm, ↓dha_G_2 hm, ↓dhs_G_2 hm, ↓dhl_G_2 hm, ↓dha_G_3 hm, ↓dhs_G_3 hm, ↓dhl_G_3 hm, ↓dha_G_4 hm, ↓dhl_G_4 hm, ↓dha_G_5 hm, ↓dhs_G_5 hm, ↓dhl_G_5 hm, Option.bind_some, ↓nm_eq, ↓sm_inl, ↓sm_inr, ↓dzo_0, ↓dzo_1, ↓drg_ok, ↓if_pos, ↓if_neg, if_pos, if_neg, if_true, if_false, Int.toNat_natCast, rg_ok, ↓bnd X3_grammar, ↓bnd eo]
theorem X5_countIn (hn : 1000000000000000000000000000000 ≤ n) {J : Nat → Nat → Int} (h : CTB u g 0 J L) {a y : Nat} (ha : a < 16) (hy : y < 9) : f_X5_countIn n 145 (a : Int) (y : Int) (hp u J L) = some (zpc g a y : Int) := by
  have hg := h.1.gr
  have h24 := hg.1
  have hm := gU_mem u
  obtain ⟨⟨hw, hcg⟩, -⟩ := h.1
  have ec := X4_count (u := u) (L := L) hm hw
  rw [hcg] at ec
  have key : zLP (Gn g) (fun f k (_ : Unit) => l_X5_countIn_5 n f 145 (a : Int) (y : Int) (cB (zpf g a y) k : Int) (k : Int) (hp u J L)) (fun _ _ => True) (fun res => res = some (zpc g a y : Int)) := by
    refine zlp ?_ ?_
    · rintro f k _ hk -
      right
      refine ⟨(), ?_, trivial⟩
      have ei := X5_isIn (u := u) h hk ha hy
      have ek : (k : Int) + 1 = ((k + 1 : Nat) : Int) := rfl
      have es : cB (zpf g a y) (k + 1) = cB (zpf g a y) k + (if zpf g a y k = true then 1 else 0) := cB_s
      by_cases c : zpf g a y k = true
      · rw [c, b01_t] at ei
        rw [if_pos c] at es
        have e1 : (cB (zpf g a y) k : Int) + 1 = ((cB (zpf g a y) k + 1 : Nat) : Int) := rfl
        rw [es]
        simp (disch := omega) only [l_X5_countIn_5, b_X5_countIn_5, b_X5_countIn_34, ↓dhi_F, ↓dhG_F_0, ↓dhg_F_1, ↓dhq_F_1, ↓dhg_F_2, ↓dhq_F_2, ↓dhg_F_3, ↓dhq_F_3, ↓dhg_F_4, ↓dhq_F_4, ↓dhG_F_5, ↓dhG_F_6, ↓dhG_F_7, ↓dhG_F_8, ↓dhG_F_9, ↓dhg_F_10, ↓dhq_F_10, ↓dhG_F_11, ↓dhG_F_12, ↓dhG_F_13, ↓dhi_P, ↓dhg_P_0, ↓dhq_P_0, ↓dhG_P_1, ↓dhG_P_2, ↓dhG_P_3, ↓dhg_P_4, ↓dhq_P_4, ↓dhG_P_5, ↓dhg_P_6, ↓dhq_P_6, ↓dhi_G hm, ↓dhG_G_0 hm, ↓dhG_G_1 hm, ↓dhG_G_2 hm, ↓dhg_G_3 hm, ↓dhq_G_3 hm, ↓dhG_G_4 hm, ↓dhG_G_5 hm, ↓dhg_G_6 hm, ↓dhq_G_6 hm, ↓dhg_G_7 hm, ↓dhq_G_7 hm, ↓dhG_G_8 hm, ↓dhG_G_9 hm, ↓dha_G_1 hm, ↓dhs_G_1 hm, ↓dhl_G_1 hm, ↓dha_G_2 hm, ↓dhs_G_2 hm, ↓dhl_G_2 hm, ↓dha_G_3 hm, ↓dhs_G_3 hm, ↓dhl_G_3 hm, ↓dha_G_4 hm, ↓dhl_G_4 hm, ↓dha_G_5 hm, ↓dhs_G_5 hm, ↓dhl_G_5 hm, Option.bind_some, ↓nm_eq, ↓sm_inl, ↓sm_inr, ↓dzo_0, ↓dzo_1, ↓drg_ok, ↓if_pos, ↓if_neg, if_pos, if_neg, if_true, if_false, Int.toNat_natCast, rg_ok, ↓bnd X3_grammar, ↓bnd ec, ↓bnd ei, ek, e1]
      · have c' : zpf g a y k = false := by simpa using c
        rw [c', b01_f] at ei
        rw [if_neg c] at es
        rw [es]
        simp (disch := omega) only [Nat.add_zero, l_X5_countIn_5, b_X5_countIn_5, b_X5_countIn_34, ↓dhi_F, ↓dhG_F_0, ↓dhg_F_1, ↓dhq_F_1, ↓dhg_F_2, ↓dhq_F_2, ↓dhg_F_3, ↓dhq_F_3, ↓dhg_F_4, ↓dhq_F_4, ↓dhG_F_5, ↓dhG_F_6, ↓dhG_F_7, ↓dhG_F_8, ↓dhG_F_9, ↓dhg_F_10, ↓dhq_F_10, ↓dhG_F_11, ↓dhG_F_12, ↓dhG_F_13, ↓dhi_P, ↓dhg_P_0, ↓dhq_P_0, ↓dhG_P_1, ↓dhG_P_2, ↓dhG_P_3, ↓dhg_P_4, ↓dhq_P_4, ↓dhG_P_5, ↓dhg_P_6, ↓dhq_P_6, ↓dhi_G hm, ↓dhG_G_0 hm, ↓dhG_G_1 hm, ↓dhG_G_2 hm, ↓dhg_G_3 hm, ↓dhq_G_3 hm, ↓dhG_G_4 hm, ↓dhG_G_5 hm, ↓dhg_G_6 hm, ↓dhq_G_6 hm, ↓dhg_G_7 hm, ↓dhq_G_7 hm, ↓dhG_G_8 hm, ↓dhG_G_9 hm, ↓dha_G_1 hm, ↓dhs_G_1 hm, ↓dhl_G_1 hm, ↓dha_G_2 hm, ↓dhs_G_2 hm, ↓dhl_G_2 hm, ↓dha_G_3 hm, ↓dhs_G_3 hm, ↓dhl_G_3 hm, ↓dha_G_4 hm, ↓dhl_G_4 hm, ↓dha_G_5 hm, ↓dhs_G_5 hm, ↓dhl_G_5 hm, Option.bind_some, ↓nm_eq, ↓sm_inl, ↓sm_inr, ↓dzo_0, ↓dzo_1, ↓drg_ok, ↓if_pos, ↓if_neg, if_pos, if_neg, if_true, if_false, Int.toNat_natCast, rg_ok, ↓bnd X3_grammar, ↓bnd ec, ↓bnd ei, ek]
    · rintro f _ -
      have e : (cB (zpf g a y) (Gn g) : Int) = (zpc g a y : Int) := by rw [cB_all]; rfl
      rw [e]
      simp (disch := omega) only [l_X5_countIn_5, b_X5_countIn_5, ↓dhi_F, ↓dhG_F_0, ↓dhg_F_1, ↓dhq_F_1, ↓dhg_F_2, ↓dhq_F_2, ↓dhg_F_3, ↓dhq_F_3, ↓dhg_F_4, ↓dhq_F_4, ↓dhG_F_5, ↓dhG_F_6, ↓dhG_F_7, ↓dhG_F_8, ↓dhG_F_9, ↓dhg_F_10, ↓dhq_F_10, ↓dhG_F_11, ↓dhG_F_12, ↓dhG_F_13, ↓dhi_P, ↓dhg_P_0, ↓dhq_P_0, ↓dhG_P_1, ↓dhG_P_2, ↓dhG_P_3, ↓dhg_P_4, ↓dhq_P_4, ↓dhG_P_5, ↓dhg_P_6, ↓dhq_P_6, ↓dhi_G hm, ↓dhG_G_0 hm, ↓dhG_G_1 hm, ↓dhG_G_2 hm, ↓dhg_G_3 hm, ↓dhq_G_3 hm, ↓dhG_G_4 hm, ↓dhG_G_5 hm, ↓dhg_G_6 hm, ↓dhq_G_6 hm, ↓dhg_G_7 hm, ↓dhq_G_7 hm, ↓dhG_G_8 hm, ↓dhG_G_9 hm, ↓dha_G_1 hm, ↓dhs_G_1 hm, ↓dhl_G_1 hm, ↓dha_G_2 hm, ↓dhs_G_2 hm, ↓dhl_G_2 hm, ↓dha_G_3 hm, ↓dhs_G_3 hm, ↓dhl_G_3 hm, ↓dha_G_4 hm, ↓dhl_G_4 hm, ↓dha_G_5 hm, ↓dhs_G_5 hm, ↓dhl_G_5 hm, Option.bind_some, ↓nm_eq, ↓sm_inl, ↓sm_inr, ↓dzo_0, ↓dzo_1, ↓drg_ok, ↓if_pos, ↓if_neg, if_pos, if_neg, if_true, if_false, Int.toNat_natCast, rg_ok, ↓bnd X3_grammar, ↓bnd ec]
  exact key (Gn g) n 0 () (by omega) (by omega) trivial
theorem X5_lowestIn (hn : 1000000000000000000000000000000 ≤ n) {J : Nat → Nat → Int} (h : CTB u g 0 J L) {a y : Nat} (ha : a < 16) (hy : y < 9) : f_X5_lowestIn n 145 (a : Int) (y : Int) (hp u J L) = some (zpl g a y) := by
  have hg := h.1.gr
  have h24 := hg.1
  have hm := gU_mem u
  obtain ⟨⟨hw, hcg⟩, -⟩ := h.1
  have ec := X4_count (u := u) (L := L) hm hw
  rw [hcg] at ec
  have key : zLP (Gn g) (fun f k (_ : Unit) => l_X5_lowestIn_2 n f 145 (a : Int) (y : Int) (k : Int) (hp u J L)) (fun k _ => ∀ i, i < k → zpf g a y i ≠ true) (fun res => res = some (zpl g a y)) := by
    refine zlp ?_ ?_
    · rintro f k _ hk hB
      have ei := X5_isIn (u := u) h hk ha hy
      have ek : (k : Int) + 1 = ((k + 1 : Nat) : Int) := rfl
      by_cases c : zpf g a y k = true
      · rw [c, b01_t] at ei
        left
        have e : zpl g a y = (k : Int) := zl_first hk c hB (Gn g) (Nat.le_refl _) (by omega)
        rw [e]
        simp (disch := omega) only [l_X5_lowestIn_2, b_X5_lowestIn_2, ↓dhi_F, ↓dhG_F_0, ↓dhg_F_1, ↓dhq_F_1, ↓dhg_F_2, ↓dhq_F_2, ↓dhg_F_3, ↓dhq_F_3, ↓dhg_F_4, ↓dhq_F_4, ↓dhG_F_5, ↓dhG_F_6, ↓dhG_F_7, ↓dhG_F_8, ↓dhG_F_9, ↓dhg_F_10, ↓dhq_F_10, ↓dhG_F_11, ↓dhG_F_12, ↓dhG_F_13, ↓dhi_P, ↓dhg_P_0, ↓dhq_P_0, ↓dhG_P_1, ↓dhG_P_2, ↓dhG_P_3, ↓dhg_P_4, ↓dhq_P_4, ↓dhG_P_5, ↓dhg_P_6, ↓dhq_P_6, ↓dhi_G hm, ↓dhG_G_0 hm, ↓dhG_G_1 hm, ↓dhG_G_2 hm, ↓dhg_G_3 hm, ↓dhq_G_3 hm, ↓dhG_G_4 hm, ↓dhG_G_5 hm, ↓dhg_G_6 hm, ↓dhq_G_6 hm, ↓dhg_G_7 hm, ↓dhq_G_7 hm, ↓dhG_G_8 hm, ↓dhG_G_9 hm, ↓dha_G_1 hm, ↓dhs_G_1 hm, ↓dhl_G_1 hm, ↓dha_G_2 hm, ↓dhs_G_2 hm, ↓dhl_G_2 hm, ↓dha_G_3 hm, ↓dhs_G_3 hm, ↓dhl_G_3 hm, ↓dha_G_4 hm, ↓dhl_G_4 hm, ↓dha_G_5 hm, ↓dhs_G_5 hm, ↓dhl_G_5 hm, Option.bind_some, ↓nm_eq, ↓sm_inl, ↓sm_inr, ↓dzo_0, ↓dzo_1, ↓drg_ok, ↓if_pos, ↓if_neg, if_pos, if_neg, if_true, if_false, Int.toNat_natCast, rg_ok, ↓bnd X3_grammar, ↓bnd ec, ↓bnd ei]
      · have c' : zpf g a y k = false := by simpa using c
        rw [c', b01_f] at ei
        right
        refine ⟨(), ?_, fun i hi => ?_⟩
        · simp (disch := omega) only [l_X5_lowestIn_2, b_X5_lowestIn_2, ↓dhi_F, ↓dhG_F_0, ↓dhg_F_1, ↓dhq_F_1, ↓dhg_F_2, ↓dhq_F_2, ↓dhg_F_3, ↓dhq_F_3, ↓dhg_F_4, ↓dhq_F_4, ↓dhG_F_5, ↓dhG_F_6, ↓dhG_F_7, ↓dhG_F_8, ↓dhG_F_9, ↓dhg_F_10, ↓dhq_F_10, ↓dhG_F_11, ↓dhG_F_12, ↓dhG_F_13, ↓dhi_P, ↓dhg_P_0, ↓dhq_P_0, ↓dhG_P_1, ↓dhG_P_2, ↓dhG_P_3, ↓dhg_P_4, ↓dhq_P_4, ↓dhG_P_5, ↓dhg_P_6, ↓dhq_P_6, ↓dhi_G hm, ↓dhG_G_0 hm, ↓dhG_G_1 hm, ↓dhG_G_2 hm, ↓dhg_G_3 hm, ↓dhq_G_3 hm, ↓dhG_G_4 hm, ↓dhG_G_5 hm, ↓dhg_G_6 hm, ↓dhq_G_6 hm, ↓dhg_G_7 hm, ↓dhq_G_7 hm, ↓dhG_G_8 hm, ↓dhG_G_9 hm, ↓dha_G_1 hm, ↓dhs_G_1 hm, ↓dhl_G_1 hm, ↓dha_G_2 hm, ↓dhs_G_2 hm, ↓dhl_G_2 hm, ↓dha_G_3 hm, ↓dhs_G_3 hm, ↓dhl_G_3 hm, ↓dha_G_4 hm, ↓dhl_G_4 hm, ↓dha_G_5 hm, ↓dhs_G_5 hm, ↓dhl_G_5 hm, Option.bind_some, ↓nm_eq, ↓sm_inl, ↓sm_inr, ↓dzo_0, ↓dzo_1, ↓drg_ok, ↓if_pos, ↓if_neg, if_pos, if_neg, if_true, if_false, Int.toNat_natCast, rg_ok, ↓bnd X3_grammar, ↓bnd ec, ↓bnd ei, ek]
        · by_cases e : i = k
          · rw [e]; exact c
          · exact hB i (by omega)
    · rintro f _ hB
      have e : zpl g a y = -1 := zl_none hB (Gn g) (Nat.le_refl _)
      rw [e]
      simp (disch := omega) only [l_X5_lowestIn_2, b_X5_lowestIn_2, ↓dhi_F, ↓dhG_F_0, ↓dhg_F_1, ↓dhq_F_1, ↓dhg_F_2, ↓dhq_F_2, ↓dhg_F_3, ↓dhq_F_3, ↓dhg_F_4, ↓dhq_F_4, ↓dhG_F_5, ↓dhG_F_6, ↓dhG_F_7, ↓dhG_F_8, ↓dhG_F_9, ↓dhg_F_10, ↓dhq_F_10, ↓dhG_F_11, ↓dhG_F_12, ↓dhG_F_13, ↓dhi_P, ↓dhg_P_0, ↓dhq_P_0, ↓dhG_P_1, ↓dhG_P_2, ↓dhG_P_3, ↓dhg_P_4, ↓dhq_P_4, ↓dhG_P_5, ↓dhg_P_6, ↓dhq_P_6, ↓dhi_G hm, ↓dhG_G_0 hm, ↓dhG_G_1 hm, ↓dhG_G_2 hm, ↓dhg_G_3 hm, ↓dhq_G_3 hm, ↓dhG_G_4 hm, ↓dhG_G_5 hm, ↓dhg_G_6 hm, ↓dhq_G_6 hm, ↓dhg_G_7 hm, ↓dhq_G_7 hm, ↓dhG_G_8 hm, ↓dhG_G_9 hm, ↓dha_G_1 hm, ↓dhs_G_1 hm, ↓dhl_G_1 hm, ↓dha_G_2 hm, ↓dhs_G_2 hm, ↓dhl_G_2 hm, ↓dha_G_3 hm, ↓dhs_G_3 hm, ↓dhl_G_3 hm, ↓dha_G_4 hm, ↓dhl_G_4 hm, ↓dha_G_5 hm, ↓dhs_G_5 hm, ↓dhl_G_5 hm, Option.bind_some, ↓nm_eq, ↓sm_inl, ↓sm_inr, ↓dzo_0, ↓dzo_1, ↓drg_ok, ↓if_pos, ↓if_neg, if_pos, if_neg, if_true, if_false, Int.toNat_natCast, rg_ok, ↓bnd X3_grammar, ↓bnd ec]
  exact key (Gn g) n 0 () (by omega) (by omega) (fun i hi => absurd hi (by omega))
theorem X5_cellsWith (hn : 1000000000000000000000000000000 ≤ n) {J : Nat → Nat → Int} (h : CTB u g 0 J L) {c : Nat} (hc : c ≤ 100) : f_X5_cellsWith n 145 (c : Int) (hp u J L) = some (zpn g c : Int) := by
  have hg := h.1.gr
  obtain ⟨fc, hfc⟩ : ∃ fc : Nat → Bool, fc = fun i => decide (c ≤ zpc g (i / 9) (i % 9)) := ⟨_, rfl⟩
  have hz : zpn g c = cB fc 144 := by rw [hfc]; rfl
  have inn : ∀ (r4 : Nat → Int → Int → Int → gi_H → Option Int) (a : Nat), a < 16 → zLP 9 (fun f y (_ : Unit) => l_X5_cellsWith_13 n r4 f 145 (c : Int) (cB fc (9 * a + y) : Int) (a : Int) (y : Int) (hp u J L)) (fun _ _ => True)
      (fun res => res = r4 145 (c : Int) (cB fc (9 * (a + 1)) : Int) ((a + 1 : Nat) : Int) (hp u J L)) := by
    intro r4 a ha
    refine zlp ?_ ?_
    · rintro f y _ hy -
      right
      refine ⟨(), ?_, trivial⟩
      have ec := X5_countIn (u := u) hn h ha hy
      have h24 := zpc_le hg (a := a) (y := y)
      have ek : (y : Int) + 1 = ((y + 1 : Nat) : Int) := rfl
      have es : cB fc (9 * a + (y + 1)) = cB fc (9 * a + y) + (if fc (9 * a + y) = true then 1 else 0) := cB_s
      have hdv : (9 * a + y) / 9 = a ∧ (9 * a + y) % 9 = y := by omega
      have hf : fc (9 * a + y) = decide (c ≤ zpc g a y) := by rw [hfc]; dsimp only; rw [hdv.1, hdv.2]
      by_cases q : c ≤ zpc g a y
      · rw [if_pos (by rw [hf, decide_eq_true_eq]; exact q)] at es
        have e1 : (cB fc (9 * a + y) : Int) + 1 = ((cB fc (9 * a + y) + 1 : Nat) : Int) := rfl
        rw [es]
        simp (disch := omega) only [l_X5_cellsWith_13, b_X5_cellsWith_13, b_X5_cellsWith_34, ↓dhi_P, ↓dhg_P_0, ↓dhq_P_0, ↓dhG_P_1, ↓dhG_P_2, ↓dhG_P_3, ↓dhg_P_4, ↓dhq_P_4, ↓dhG_P_5, ↓dhg_P_6, ↓dhq_P_6, Option.bind_some, ↓nm_eq, ↓sm_inl, ↓sm_inr, ↓dzo_0, ↓dzo_1, ↓drg_ok, ↓if_pos, ↓if_neg, if_pos, if_neg, if_true, if_false, Int.toNat_natCast, rg_ok, ↓bnd ec, ek, e1]
      · rw [if_neg (by rw [hf, decide_eq_true_eq]; exact q)] at es
        rw [es]
        simp (disch := omega) only [Nat.add_zero, l_X5_cellsWith_13, b_X5_cellsWith_13, b_X5_cellsWith_34, ↓dhi_P, ↓dhg_P_0, ↓dhq_P_0, ↓dhG_P_1, ↓dhG_P_2, ↓dhG_P_3, ↓dhg_P_4, ↓dhq_P_4, ↓dhG_P_5, ↓dhg_P_6, ↓dhq_P_6, Option.bind_some, ↓nm_eq, ↓sm_inl, ↓sm_inr, ↓dzo_0, ↓dzo_1, ↓drg_ok, ↓if_pos, ↓if_neg, if_pos, if_neg, if_true, if_false, Int.toNat_natCast, rg_ok, ↓bnd ec, ek]
    · rintro f _ -
      have ek : (a : Int) + 1 = ((a + 1 : Nat) : Int) := rfl
      have e9 : 9 * a + 9 = 9 * (a + 1) := by omega
      rw [e9]
      simp (disch := omega) only [l_X5_cellsWith_13, b_X5_cellsWith_13, b_X5_cellsWith_40, Option.bind_some, ↓nm_eq, ↓sm_inl, ↓sm_inr, ↓dzo_0, ↓dzo_1, ↓drg_ok, ↓if_pos, ↓if_neg, if_pos, if_neg, if_true, if_false, Int.toNat_natCast, rg_ok, ek]
  have out : zLP 16 (fun f a (_ : Unit) => l_X5_cellsWith_4 n f 145 (c : Int) (cB fc (9 * a) : Int) (a : Int) (hp u J L)) (fun _ _ => True) (fun res => res = some (zpn g c : Int)) := by
    refine zlp ?_ ?_
    · rintro f a _ ha -
      right
      refine ⟨(), ?_, trivial⟩
      have e := inn (l_X5_cellsWith_4 n f) a ha 9 n 0 () (by omega) (by omega) trivial
      have e' : l_X5_cellsWith_13 n (l_X5_cellsWith_4 n f) n 145 (c : Int) (cB fc (9 * a) : Int) (a : Int) 0 (hp u J L) = l_X5_cellsWith_4 n f 145 (c : Int) (cB fc (9 * (a + 1)) : Int) ((a + 1 : Nat) : Int) (hp u J L) := e
      rw [← e']
      simp (disch := omega) only [l_X5_cellsWith_4, b_X5_cellsWith_4, Option.bind_some, ↓nm_eq, ↓sm_inl, ↓sm_inr, ↓dzo_0, ↓dzo_1, ↓drg_ok, ↓if_pos, ↓if_neg, if_pos, if_neg, if_true, if_false, Int.toNat_natCast, rg_ok]
    · rintro f _ -
      rw [hz]
      simp (disch := omega) only [l_X5_cellsWith_4, b_X5_cellsWith_4, Option.bind_some, ↓nm_eq, ↓sm_inl, ↓sm_inr, ↓dzo_0, ↓dzo_1, ↓drg_ok, ↓if_pos, ↓if_neg, if_pos, if_neg, if_true, if_false, Int.toNat_natCast, rg_ok] <;> rfl
  exact out 16 n 0 () (by omega) (by omega) trivial
/-! the reference's -/
theorem re_first (hn : 1000000000000000000000000000000 ≤ n) {J : Nat → Nat → Int} (w : RE g J) (hF : rF g J L) {p : Nat} (hp1 : p < Gn g) : ∃ r : Int, f_X12_firstFrom n 161 (p : Int) 0 (hp u J L) = some r ∧ gi_ok r ∧ ∀ i, bt r i = true ↔ i < 8 ∧ fsF g (zN g) (zF g) p 0 i := by
  obtain ⟨-, x2, x3, x4⟩ := rF_rx w hF
  have := X12_first (u := u) (L := L) hn w.1 x2 (p := p) (k := 0) (by rw [w.2]; exact hp1) (Nat.zero_le _)
  rw [w.2, x3, x4] at this
  exact this
theorem re_empty (hn : 1000000000000000000000000000000 ≤ n) {J : Nat → Nat → Int} (w : RE g J) (hF : rF g J L) {p : Nat} (hp1 : p < Gn g) : ∃ r : Int, f_X12_isEmptyFrom n 161 (p : Int) 0 (hp u J L) = some r ∧ ((r = 1 ∧ emF g (zN g) p 0) ∨ (r = 0 ∧ ¬ emF g (zN g) p 0)) := by
  obtain ⟨-, x2, x3, x4⟩ := rF_rx w hF
  have := X12_empty (u := u) (L := L) hn w.1 x2 (p := p) (k := 0) (by rw [w.2]; exact hp1) (Nat.zero_le _)
  rw [w.2, x3] at this
  exact this
theorem X12_predicted (hn : 1000000000000000000000000000000 ≤ n) {J : Nat → Nat → Int} (w : RE g J) (hF : rF g J L) {a y : Nat} (ha : a < 16) (hy : y < 9) : f_X12_predicted n 161 (a : Int) (y : Int) (hp u J L) = some (100 * (zpc g a y : Int) + zpl g a y + 1) := by
  have hg := w.gr
  have h24 := hg.1
  have h9 := re_w w
  have hnn := re_n w
  have loop : zLP (Gn g) (fun f m (_ : Unit) => l_X12_predicted_18 n f 161 (a : Int) (y : Int) (cU (zpf g a y) (Gn g) m : Int) (zl (zpf g a y) (Gn g) m) ((Gn g : Int) - 1 - (m : Int)) (hp u J L)) (fun _ _ => True)
      (fun res => res = some (100 * (zpc g a y : Int) + zpl g a y + 1)) := by
    refine zlp ?_ ?_
    · rintro f m _ hm -
      right
      refine ⟨(), ?_, trivial⟩
      have hp1 : Gn g - 1 - m < Gn g := by omega
      have ep : ((Gn g : Int) - 1 - (m : Int)) = ((Gn g - 1 - m : Nat) : Int) := by omega
      have ek : ((Gn g - 1 - m : Nat) : Int) + -1 = (Gn g : Int) - 1 - ((m + 1 : Nat) : Int) := by omega
      have hcle := cU_le (f := zpf g a y) (N := Gn g) m
      obtain ⟨r, er, r1, r2⟩ := re_first (u := u) hn w hF hp1
      obtain ⟨e0, ee, he⟩ := re_empty (u := u) (L := L) hn w hF hp1
      have el := re_lead (u := u) (L := L) w hp1
      obtain ⟨b1, b2⟩ := rF_be hF ha
      have ho := hg.2.2.1 (Gn g - 1 - m)
      rw [ep]
      -- the rest of the round
      have fin : ∀ s : Int, (Go g (Gn g - 1 - m) = a → (bt (gi_or r s) y = true ↔ pdF g (zN g) (zF g) (zB g) (Gn g - 1 - m) y)) → b_X12_predicted_50 n (l_X12_predicted_18 n f) 161 (a : Int) (y : Int) (cU (zpf g a y) (Gn g) m : Int) (zl (zpf g a y) (Gn g) m) ((Gn g - 1 - m : Nat) : Int) r s (hp u J L) = l_X12_predicted_18 n f 161 (a : Int) (y : Int) (cU (zpf g a y) (Gn g) (m + 1) : Int) (zl (zpf g a y) (Gn g) (m + 1)) ((Gn g : Int) - 1 - ((m + 1 : Nat) : Int)) (hp u J L) := by
        intro s hs
        have hh := bt_has (x := gi_or r s) (k := y) (by omega)
        by_cases c : zpf g a y (Gn g - 1 - m) = true
        · have c' := zdb_t.mp c
          have hb := (hs c'.1).mpr c'.2
          have c1 := c'.1
          rw [if_pos hb] at hh
          have e1 : (cU (zpf g a y) (Gn g) m : Int) + 1 = (cU (zpf g a y) (Gn g) (m + 1) : Int) := by rw [cU_s, if_pos c]; omega
          have e2 : zl (zpf g a y) (Gn g) (m + 1) = ((Gn g - 1 - m : Nat) : Int) := by rw [zl_s, if_pos c]
          simp (disch := omega) only [b_X12_predicted_50, b_X12_predicted_78, b_X12_predicted_91, b_X12_predicted_105, ↓dhi_M, ↓dhG_M_0, ↓dhG_M_1, ↓dhG_M_2, ↓dhG_M_3, ↓dhG_M_4, ↓dhG_M_5, ↓dhG_M_6, ↓dhG_M_7, ↓dhG_M_8, ↓dhg_M_9, ↓dhq_M_9, ↓dhG_M_10, ↓dhG_M_11, ↓dhG_M_12, ↓dhg_M_13, ↓dhq_M_13, ↓dhG_M_14, ↓dhg_M_15, ↓dhq_M_15, ↓dhG_M_16, ↓dhg_M_17, ↓dhq_M_17, ↓dhg_M_18, ↓dhq_M_18, ↓dhG_M_19, ↓dhG_M_20, ↓dhG_M_21, ↓dhG_M_22, ↓dhG_M_23, ↓dhG_M_24, ↓dhg_M_25, ↓dhq_M_25, ↓dhG_M_26, ↓dhG_M_27, ↓dhG_M_28, ↓dhg_M_29, ↓dhq_M_29, ↓dhG_M_30, ↓dhG_M_31, ↓dhg_M_32, ↓dhq_M_32, ↓dhg_M_33, ↓dhq_M_33, ↓dhg_M_34, ↓dhq_M_34, ↓dhg_M_35, ↓dhq_M_35, ↓dhG_M_36, ↓dhG_M_37, ↓dhg_M_38, ↓dhq_M_38, ↓dhg_M_39, ↓dhq_M_39, ↓dhG_M_40, ↓dhG_M_41, ↓dhG_M_42, ↓dhG_M_43, ↓dhg_M_44, ↓dhq_M_44, Option.bind_some, ↓nm_eq, ↓sm_inl, ↓sm_inr, ↓dzo_0, ↓dzo_1, ↓drg_ok, ↓if_pos, ↓if_neg, if_pos, if_neg, if_true, if_false, Int.toNat_natCast, rg_ok, ↓bnd el, hh, ek, e1, e2]
        · have e1 : (cU (zpf g a y) (Gn g) m : Int) + 0 = (cU (zpf g a y) (Gn g) (m + 1) : Int) := by rw [cU_s, if_neg c]; omega
          have e2 : zl (zpf g a y) (Gn g) (m + 1) = zl (zpf g a y) (Gn g) m := by rw [zl_s, if_neg c]
          by_cases c1 : Go g (Gn g - 1 - m) = a
          · have hb : ¬ bt (gi_or r s) y = true := fun z => c (zdb_t.mpr ⟨c1, (hs c1).mp z⟩)
            rw [if_neg hb] at hh
            simp (disch := omega) only [b_X12_predicted_50, b_X12_predicted_77, b_X12_predicted_78, b_X12_predicted_91, b_X12_predicted_105, ↓dhi_M, ↓dhG_M_0, ↓dhG_M_1, ↓dhG_M_2, ↓dhG_M_3, ↓dhG_M_4, ↓dhG_M_5, ↓dhG_M_6, ↓dhG_M_7, ↓dhG_M_8, ↓dhg_M_9, ↓dhq_M_9, ↓dhG_M_10, ↓dhG_M_11, ↓dhG_M_12, ↓dhg_M_13, ↓dhq_M_13, ↓dhG_M_14, ↓dhg_M_15, ↓dhq_M_15, ↓dhG_M_16, ↓dhg_M_17, ↓dhq_M_17, ↓dhg_M_18, ↓dhq_M_18, ↓dhG_M_19, ↓dhG_M_20, ↓dhG_M_21, ↓dhG_M_22, ↓dhG_M_23, ↓dhG_M_24, ↓dhg_M_25, ↓dhq_M_25, ↓dhG_M_26, ↓dhG_M_27, ↓dhG_M_28, ↓dhg_M_29, ↓dhq_M_29, ↓dhG_M_30, ↓dhG_M_31, ↓dhg_M_32, ↓dhq_M_32, ↓dhg_M_33, ↓dhq_M_33, ↓dhg_M_34, ↓dhq_M_34, ↓dhg_M_35, ↓dhq_M_35, ↓dhG_M_36, ↓dhG_M_37, ↓dhg_M_38, ↓dhq_M_38, ↓dhg_M_39, ↓dhq_M_39, ↓dhG_M_40, ↓dhG_M_41, ↓dhG_M_42, ↓dhG_M_43, ↓dhg_M_44, ↓dhq_M_44, Option.bind_some, ↓nm_eq, ↓sm_inl, ↓sm_inr, ↓dzo_0, ↓dzo_1, ↓drg_ok, ↓if_pos, ↓if_neg, if_pos, if_neg, if_true, if_false, Int.toNat_natCast, rg_ok, ↓bnd el, hh, ek, e1, e2]
          · simp (disch := omega) only [b_X12_predicted_50, b_X12_predicted_77, b_X12_predicted_78, b_X12_predicted_91, b_X12_predicted_105, ↓dhi_M, ↓dhG_M_0, ↓dhG_M_1, ↓dhG_M_2, ↓dhG_M_3, ↓dhG_M_4, ↓dhG_M_5, ↓dhG_M_6, ↓dhG_M_7, ↓dhG_M_8, ↓dhg_M_9, ↓dhq_M_9, ↓dhG_M_10, ↓dhG_M_11, ↓dhG_M_12, ↓dhg_M_13, ↓dhq_M_13, ↓dhG_M_14, ↓dhg_M_15, ↓dhq_M_15, ↓dhG_M_16, ↓dhg_M_17, ↓dhq_M_17, ↓dhg_M_18, ↓dhq_M_18, ↓dhG_M_19, ↓dhG_M_20, ↓dhG_M_21, ↓dhG_M_22, ↓dhG_M_23, ↓dhG_M_24, ↓dhg_M_25, ↓dhq_M_25, ↓dhG_M_26, ↓dhG_M_27, ↓dhG_M_28, ↓dhg_M_29, ↓dhq_M_29, ↓dhG_M_30, ↓dhG_M_31, ↓dhg_M_32, ↓dhq_M_32, ↓dhg_M_33, ↓dhq_M_33, ↓dhg_M_34, ↓dhq_M_34, ↓dhg_M_35, ↓dhq_M_35, ↓dhG_M_36, ↓dhG_M_37, ↓dhg_M_38, ↓dhq_M_38, ↓dhg_M_39, ↓dhq_M_39, ↓dhG_M_40, ↓dhG_M_41, ↓dhG_M_42, ↓dhG_M_43, ↓dhg_M_44, ↓dhq_M_44, Option.bind_some, ↓nm_eq, ↓sm_inl, ↓sm_inr, ↓dzo_0, ↓dzo_1, ↓drg_ok, ↓if_pos, ↓if_neg, if_pos, if_neg, if_true, if_false, Int.toNat_natCast, rg_ok, ↓bnd el, ek, e1, e2]
      rcases he with ⟨he1, he2⟩ | ⟨he1, he2⟩
      · rw [he1] at ee
        rw [← fin (J 177 a) (fun c1 => by
          rw [bt_or, Bool.or_eq_true, r2, b2 y hy]
          unfold pdF
          rw [c1]
          exact ⟨fun z => z.elim Or.inl (fun q => Or.inr ⟨he2, hp1, q⟩), fun z => z.elim Or.inl (fun q => Or.inr q.2.2)⟩)]
        simp (disch := omega) only [l_X12_predicted_18, b_X12_predicted_18, ↓dhi_M, ↓dhG_M_0, ↓dhG_M_1, ↓dhG_M_2, ↓dhG_M_3, ↓dhG_M_4, ↓dhG_M_5, ↓dhG_M_6, ↓dhG_M_7, ↓dhG_M_8, ↓dhg_M_9, ↓dhq_M_9, ↓dhG_M_10, ↓dhG_M_11, ↓dhG_M_12, ↓dhg_M_13, ↓dhq_M_13, ↓dhG_M_14, ↓dhg_M_15, ↓dhq_M_15, ↓dhG_M_16, ↓dhg_M_17, ↓dhq_M_17, ↓dhg_M_18, ↓dhq_M_18, ↓dhG_M_19, ↓dhG_M_20, ↓dhG_M_21, ↓dhG_M_22, ↓dhG_M_23, ↓dhG_M_24, ↓dhg_M_25, ↓dhq_M_25, ↓dhG_M_26, ↓dhG_M_27, ↓dhG_M_28, ↓dhg_M_29, ↓dhq_M_29, ↓dhG_M_30, ↓dhG_M_31, ↓dhg_M_32, ↓dhq_M_32, ↓dhg_M_33, ↓dhq_M_33, ↓dhg_M_34, ↓dhq_M_34, ↓dhg_M_35, ↓dhq_M_35, ↓dhG_M_36, ↓dhG_M_37, ↓dhg_M_38, ↓dhq_M_38, ↓dhg_M_39, ↓dhq_M_39, ↓dhG_M_40, ↓dhG_M_41, ↓dhG_M_42, ↓dhG_M_43, ↓dhg_M_44, ↓dhq_M_44, ↓dha_177, ↓dhs_177, ↓dhl_177, Option.bind_some, ↓nm_eq, ↓sm_inl, ↓sm_inr, ↓dzo_0, ↓dzo_1, ↓drg_ok, ↓if_pos, ↓if_neg, if_pos, if_neg, if_true, if_false, Int.toNat_natCast, rg_ok, ↓bnd er, ↓bnd ee]
      · rw [he1] at ee
        rw [← fin 0 (fun c1 => by
          rw [bt_or, Bool.or_eq_true, r2, bt_zero]
          unfold pdF
          exact ⟨fun z => z.elim Or.inl (fun q => absurd q (by decide)), fun z => z.elim Or.inl (fun q => absurd q.1 he2)⟩)]
        simp (disch := omega) only [l_X12_predicted_18, b_X12_predicted_18, ↓dhi_M, ↓dhG_M_0, ↓dhG_M_1, ↓dhG_M_2, ↓dhG_M_3, ↓dhG_M_4, ↓dhG_M_5, ↓dhG_M_6, ↓dhG_M_7, ↓dhG_M_8, ↓dhg_M_9, ↓dhq_M_9, ↓dhG_M_10, ↓dhG_M_11, ↓dhG_M_12, ↓dhg_M_13, ↓dhq_M_13, ↓dhG_M_14, ↓dhg_M_15, ↓dhq_M_15, ↓dhG_M_16, ↓dhg_M_17, ↓dhq_M_17, ↓dhg_M_18, ↓dhq_M_18, ↓dhG_M_19, ↓dhG_M_20, ↓dhG_M_21, ↓dhG_M_22, ↓dhG_M_23, ↓dhG_M_24, ↓dhg_M_25, ↓dhq_M_25, ↓dhG_M_26, ↓dhG_M_27, ↓dhG_M_28, ↓dhg_M_29, ↓dhq_M_29, ↓dhG_M_30, ↓dhG_M_31, ↓dhg_M_32, ↓dhq_M_32, ↓dhg_M_33, ↓dhq_M_33, ↓dhg_M_34, ↓dhq_M_34, ↓dhg_M_35, ↓dhq_M_35, ↓dhG_M_36, ↓dhG_M_37, ↓dhg_M_38, ↓dhq_M_38, ↓dhg_M_39, ↓dhq_M_39, ↓dhG_M_40, ↓dhG_M_41, ↓dhG_M_42, ↓dhG_M_43, ↓dhg_M_44, ↓dhq_M_44, ↓dha_177, ↓dhs_177, ↓dhl_177, Option.bind_some, ↓nm_eq, ↓sm_inl, ↓sm_inr, ↓dzo_0, ↓dzo_1, ↓drg_ok, ↓if_pos, ↓if_neg, if_pos, if_neg, if_true, if_false, Int.toNat_natCast, rg_ok, ↓bnd er, ↓bnd ee]
    · rintro f _ -
      have ep : ((Gn g : Int) - 1 - (Gn g : Int)) = -1 := by omega
      rw [ep]
      simp (disch := omega) only [l_X12_predicted_18, b_X12_predicted_18, b_X12_predicted_113, Option.bind_some, ↓nm_eq, ↓sm_inl, ↓sm_inr, ↓dzo_0, ↓dzo_1, ↓drg_ok, ↓if_pos, ↓if_neg, if_pos, if_neg, if_true, if_false, Int.toNat_natCast, rg_ok]
      rfl
  have e0 := loop (Gn g) n 0 () (by omega) (by omega) trivial
  have ez : (Gn g : Int) - 1 - ((0 : Nat) : Int) = (Gn g : Int) - 1 := by omega
  dsimp only at e0
  rw [ez] at e0
  rw [← e0]
  simp (disch := omega) only [f_X12_predicted, ↓dhi_M, ↓dhG_M_0, ↓dhG_M_1, ↓dhG_M_2, ↓dhG_M_3, ↓dhG_M_4, ↓dhG_M_5, ↓dhG_M_6, ↓dhG_M_7, ↓dhG_M_8, ↓dhg_M_9, ↓dhq_M_9, ↓dhG_M_10, ↓dhG_M_11, ↓dhG_M_12, ↓dhg_M_13, ↓dhq_M_13, ↓dhG_M_14, ↓dhg_M_15, ↓dhq_M_15, ↓dhG_M_16, ↓dhg_M_17, ↓dhq_M_17, ↓dhg_M_18, ↓dhq_M_18, ↓dhG_M_19, ↓dhG_M_20, ↓dhG_M_21, ↓dhG_M_22, ↓dhG_M_23, ↓dhG_M_24, ↓dhg_M_25, ↓dhq_M_25, ↓dhG_M_26, ↓dhG_M_27, ↓dhG_M_28, ↓dhg_M_29, ↓dhq_M_29, ↓dhG_M_30, ↓dhG_M_31, ↓dhg_M_32, ↓dhq_M_32, ↓dhg_M_33, ↓dhq_M_33, ↓dhg_M_34, ↓dhq_M_34, ↓dhg_M_35, ↓dhq_M_35, ↓dhG_M_36, ↓dhG_M_37, ↓dhg_M_38, ↓dhq_M_38, ↓dhg_M_39, ↓dhq_M_39, ↓dhG_M_40, ↓dhG_M_41, ↓dhG_M_42, ↓dhG_M_43, ↓dhg_M_44, ↓dhq_M_44, ↓dha_165, ↓dhs_165, ↓dhl_165, Option.bind_some, ↓nm_eq, ↓sm_inl, ↓sm_inr, ↓dzo_0, ↓dzo_1, ↓drg_ok, ↓if_pos, ↓if_neg, if_pos, if_neg, if_true, if_false, Int.toNat_natCast, rg_ok, h9.1, hnn] <;> rfl
theorem zpv_rg (hg : GR g) {a y : Nat} : (100 ≤ 100 * (zpc g a y : Int) + zpl g a y + 1 ↔ 1 ≤ zpc g a y) ∧ (200 ≤ 100 * (zpc g a y : Int) + zpl g a y + 1 ↔ 2 ≤ zpc g a y) ∧ (100 * (zpc g a y : Int) + zpl g a y + 1) % 100 - 1 = zpl g a y ∧ 0 ≤ 100 * (zpc g a y : Int) + zpl g a y + 1 ∧ 100 * (zpc g a y : Int) + zpl g a y + 1 ≤ 3000 := by
  have h24 := hg.1
  have h1 := zpc_le hg (a := a) (y := y)
  rcases zpl_rg g a y with ⟨z, z2⟩ | ⟨p, z, z2, -⟩
  · rw [z]; omega
  · rw [z]; omega
/-- cells counted -/
theorem X12_cells (hn : 1000000000000000000000000000000 ≤ n) {J : Nat → Nat → Int} (w : RE g J) (hF : rF g J L) :
    l_X12_size_33 n n 161 0 0 (hp u J L) = some ((zpn g 1 : Int), hp u J L) ∧ l_X12_counts_13 n n 161 0 0 0 (hp u J L) = some ((zpn g 2 : Int), hp u J L) ∧ l_X12_counts_13 n n 161 1 0 0 (hp u J L) = some (0, hp u J L) := by
  have hg := w.gr
  have hd : ∀ k : Nat, k < 144 → (k : Int) / 9 = ((k / 9 : Nat) : Int) ∧ (k : Int) % 9 = ((k % 9 : Nat) : Int) := fun k _ => by omega
  have ep : ∀ k, k < 144 → f_X12_predicted n 161 ((k / 9 : Nat) : Int) ((k % 9 : Nat) : Int) (hp u J L) = some (100 * (zpc g (k / 9) (k % 9) : Int) + zpl g (k / 9) (k % 9) + 1) := fun k hk => X12_predicted (u := u) hn w hF (by omega) (by omega)
  refine ⟨?_, ?_, ?_⟩
  · obtain ⟨fc, hfc⟩ : ∃ fc : Nat → Bool, fc = fun i => decide (1 ≤ zpc g (i / 9) (i % 9)) := ⟨_, rfl⟩
    have hz : zpn g 1 = cB fc 144 := by rw [hfc]; rfl
    have key : zLP 144 (fun f k (_ : Unit) => l_X12_size_33 n f 161 (cB fc k : Int) (k : Int) (hp u J L)) (fun _ _ => True) (fun res => res = some ((zpn g 1 : Int), hp u J L)) := by
      refine zlp ?_ ?_
      · rintro f k _ hk -
        right
        refine ⟨(), ?_, trivial⟩
        have e := ep k hk
        obtain ⟨z1, z2, -, z4, z5⟩ := zpv_rg hg (a := k / 9) (y := k % 9)
        obtain ⟨d1, d2⟩ := hd k hk
        have ek : (k : Int) + 1 = ((k + 1 : Nat) : Int) := rfl
        have es : cB fc (k + 1) = cB fc k + (if fc k = true then 1 else 0) := cB_s
        have hf : fc k = decide (1 ≤ zpc g (k / 9) (k % 9)) := by rw [hfc]
        by_cases q : 1 ≤ zpc g (k / 9) (k % 9)
        · rw [if_pos (by rw [hf, decide_eq_true_eq]; exact q)] at es
          have q' := z1.mpr q
          have e1 : (cB fc k : Int) + 1 = ((cB fc k + 1 : Nat) : Int) := rfl
          rw [es]
          simp (disch := omega) only [l_X12_size_33, b_X12_size_33, b_X12_size_63, ↓dhi_M, ↓dhG_M_0, ↓dhG_M_1, ↓dhG_M_2, ↓dhG_M_3, ↓dhG_M_4, ↓dhG_M_5, ↓dhG_M_6, ↓dhG_M_7, ↓dhG_M_8, ↓dhg_M_9, ↓dhq_M_9, ↓dhG_M_10, ↓dhG_M_11, ↓dhG_M_12, ↓dhg_M_13, ↓dhq_M_13, ↓dhG_M_14, ↓dhg_M_15, ↓dhq_M_15, ↓dhG_M_16, ↓dhg_M_17, ↓dhq_M_17, ↓dhg_M_18, ↓dhq_M_18, ↓dhG_M_19, ↓dhG_M_20, ↓dhG_M_21, ↓dhG_M_22, ↓dhG_M_23, ↓dhG_M_24, ↓dhg_M_25, ↓dhq_M_25, ↓dhG_M_26, ↓dhG_M_27, ↓dhG_M_28, ↓dhg_M_29, ↓dhq_M_29, ↓dhG_M_30, ↓dhG_M_31, ↓dhg_M_32, ↓dhq_M_32, ↓dhg_M_33, ↓dhq_M_33, ↓dhg_M_34, ↓dhq_M_34, ↓dhg_M_35, ↓dhq_M_35, ↓dhG_M_36, ↓dhG_M_37, ↓dhg_M_38, ↓dhq_M_38, ↓dhg_M_39, ↓dhq_M_39, ↓dhG_M_40, ↓dhG_M_41, ↓dhG_M_42, ↓dhG_M_43, ↓dhg_M_44, ↓dhq_M_44, Option.bind_some, ↓nm_eq, ↓sm_inl, ↓sm_inr, ↓dzo_0, ↓dzo_1, ↓drg_ok, ↓if_pos, ↓if_neg, if_pos, if_neg, if_true, if_false, Int.toNat_natCast, rg_ok, ↓ddg_ok, d1, d2, ↓bnd e, ek, e1]
        · rw [if_neg (by rw [hf, decide_eq_true_eq]; exact q)] at es
          have q' : ¬ 100 ≤ 100 * (zpc g (k / 9) (k % 9) : Int) + zpl g (k / 9) (k % 9) + 1 := fun z => q (z1.mp z)
          have e1 : (cB fc k : Int) + 0 = ((cB fc k + 0 : Nat) : Int) := rfl
          rw [es]
          simp (disch := omega) only [l_X12_size_33, b_X12_size_33, b_X12_size_63, ↓dhi_M, ↓dhG_M_0, ↓dhG_M_1, ↓dhG_M_2, ↓dhG_M_3, ↓dhG_M_4, ↓dhG_M_5, ↓dhG_M_6, ↓dhG_M_7, ↓dhG_M_8, ↓dhg_M_9, ↓dhq_M_9, ↓dhG_M_10, ↓dhG_M_11, ↓dhG_M_12, ↓dhg_M_13, ↓dhq_M_13, ↓dhG_M_14, ↓dhg_M_15, ↓dhq_M_15, ↓dhG_M_16, ↓dhg_M_17, ↓dhq_M_17, ↓dhg_M_18, ↓dhq_M_18, ↓dhG_M_19, ↓dhG_M_20, ↓dhG_M_21, ↓dhG_M_22, ↓dhG_M_23, ↓dhG_M_24, ↓dhg_M_25, ↓dhq_M_25, ↓dhG_M_26, ↓dhG_M_27, ↓dhG_M_28, ↓dhg_M_29, ↓dhq_M_29, ↓dhG_M_30, ↓dhG_M_31, ↓dhg_M_32, ↓dhq_M_32, ↓dhg_M_33, ↓dhq_M_33, ↓dhg_M_34, ↓dhq_M_34, ↓dhg_M_35, ↓dhq_M_35, ↓dhG_M_36, ↓dhG_M_37, ↓dhg_M_38, ↓dhq_M_38, ↓dhg_M_39, ↓dhq_M_39, ↓dhG_M_40, ↓dhG_M_41, ↓dhG_M_42, ↓dhG_M_43, ↓dhg_M_44, ↓dhq_M_44, Option.bind_some, ↓nm_eq, ↓sm_inl, ↓sm_inr, ↓dzo_0, ↓dzo_1, ↓drg_ok, ↓if_pos, ↓if_neg, if_pos, if_neg, if_true, if_false, Int.toNat_natCast, rg_ok, ↓ddg_ok, d1, d2, ↓bnd e, ek, e1]
      · rintro f _ -
        rw [hz]
        simp (disch := omega) only [l_X12_size_33, b_X12_size_33, Option.bind_some, ↓nm_eq, ↓sm_inl, ↓sm_inr, ↓dzo_0, ↓dzo_1, ↓drg_ok, ↓if_pos, ↓if_neg, if_pos, if_neg, if_true, if_false, Int.toNat_natCast, rg_ok]
    exact key 144 n 0 () (by omega) (by omega) trivial
  · obtain ⟨fc, hfc⟩ : ∃ fc : Nat → Bool, fc = fun i => decide (2 ≤ zpc g (i / 9) (i % 9)) := ⟨_, rfl⟩
    have hz : zpn g 2 = cB fc 144 := by rw [hfc]; rfl
    have key : zLP 144 (fun f k (_ : Unit) => l_X12_counts_13 n f 161 0 (cB fc k : Int) (k : Int) (hp u J L)) (fun _ _ => True) (fun res => res = some ((zpn g 2 : Int), hp u J L)) := by
      refine zlp ?_ ?_
      · rintro f k _ hk -
        right
        refine ⟨(), ?_, trivial⟩
        have e := ep k hk
        obtain ⟨z1, z2, -, z4, z5⟩ := zpv_rg hg (a := k / 9) (y := k % 9)
        obtain ⟨d1, d2⟩ := hd k hk
        have ek : (k : Int) + 1 = ((k + 1 : Nat) : Int) := rfl
        have es : cB fc (k + 1) = cB fc k + (if fc k = true then 1 else 0) := cB_s
        have hf : fc k = decide (2 ≤ zpc g (k / 9) (k % 9)) := by rw [hfc]
        by_cases q : 2 ≤ zpc g (k / 9) (k % 9)
        · rw [if_pos (by rw [hf, decide_eq_true_eq]; exact q)] at es
          have q' := z2.mpr q
          have e1 : (cB fc k : Int) + 1 = ((cB fc k + 1 : Nat) : Int) := rfl
          rw [es]
          simp (disch := omega) only [l_X12_counts_13, b_X12_counts_13, b_X12_counts_51, ↓dhi_M, ↓dhG_M_0, ↓dhG_M_1, ↓dhG_M_2, ↓dhG_M_3, ↓dhG_M_4, ↓dhG_M_5, ↓dhG_M_6, ↓dhG_M_7, ↓dhG_M_8, ↓dhg_M_9, ↓dhq_M_9, ↓dhG_M_10, ↓dhG_M_11, ↓dhG_M_12, ↓dhg_M_13, ↓dhq_M_13, ↓dhG_M_14, ↓dhg_M_15, ↓dhq_M_15, ↓dhG_M_16, ↓dhg_M_17, ↓dhq_M_17, ↓dhg_M_18, ↓dhq_M_18, ↓dhG_M_19, ↓dhG_M_20, ↓dhG_M_21, ↓dhG_M_22, ↓dhG_M_23, ↓dhG_M_24, ↓dhg_M_25, ↓dhq_M_25, ↓dhG_M_26, ↓dhG_M_27, ↓dhG_M_28, ↓dhg_M_29, ↓dhq_M_29, ↓dhG_M_30, ↓dhG_M_31, ↓dhg_M_32, ↓dhq_M_32, ↓dhg_M_33, ↓dhq_M_33, ↓dhg_M_34, ↓dhq_M_34, ↓dhg_M_35, ↓dhq_M_35, ↓dhG_M_36, ↓dhG_M_37, ↓dhg_M_38, ↓dhq_M_38, ↓dhg_M_39, ↓dhq_M_39, ↓dhG_M_40, ↓dhG_M_41, ↓dhG_M_42, ↓dhG_M_43, ↓dhg_M_44, ↓dhq_M_44, Option.bind_some, ↓nm_eq, ↓sm_inl, ↓sm_inr, ↓dzo_0, ↓dzo_1, ↓drg_ok, ↓if_pos, ↓if_neg, if_pos, if_neg, if_true, if_false, Int.toNat_natCast, rg_ok, ↓ddg_ok, d1, d2, ↓bnd e, ek, e1]
        · rw [if_neg (by rw [hf, decide_eq_true_eq]; exact q)] at es
          have q' : ¬ 200 ≤ 100 * (zpc g (k / 9) (k % 9) : Int) + zpl g (k / 9) (k % 9) + 1 := fun z => q (z2.mp z)
          have e1 : (cB fc k : Int) + 0 = ((cB fc k + 0 : Nat) : Int) := rfl
          rw [es]
          simp (disch := omega) only [l_X12_counts_13, b_X12_counts_13, b_X12_counts_50, b_X12_counts_51, ↓dhi_M, ↓dhG_M_0, ↓dhG_M_1, ↓dhG_M_2, ↓dhG_M_3, ↓dhG_M_4, ↓dhG_M_5, ↓dhG_M_6, ↓dhG_M_7, ↓dhG_M_8, ↓dhg_M_9, ↓dhq_M_9, ↓dhG_M_10, ↓dhG_M_11, ↓dhG_M_12, ↓dhg_M_13, ↓dhq_M_13, ↓dhG_M_14, ↓dhg_M_15, ↓dhq_M_15, ↓dhG_M_16, ↓dhg_M_17, ↓dhq_M_17, ↓dhg_M_18, ↓dhq_M_18, ↓dhG_M_19, ↓dhG_M_20, ↓dhG_M_21, ↓dhG_M_22, ↓dhG_M_23, ↓dhG_M_24, ↓dhg_M_25, ↓dhq_M_25, ↓dhG_M_26, ↓dhG_M_27, ↓dhG_M_28, ↓dhg_M_29, ↓dhq_M_29, ↓dhG_M_30, ↓dhG_M_31, ↓dhg_M_32, ↓dhq_M_32, ↓dhg_M_33, ↓dhq_M_33, ↓dhg_M_34, ↓dhq_M_34, ↓dhg_M_35, ↓dhq_M_35, ↓dhG_M_36, ↓dhG_M_37, ↓dhg_M_38, ↓dhq_M_38, ↓dhg_M_39, ↓dhq_M_39, ↓dhG_M_40, ↓dhG_M_41, ↓dhG_M_42, ↓dhG_M_43, ↓dhg_M_44, ↓dhq_M_44, Option.bind_some, ↓nm_eq, ↓sm_inl, ↓sm_inr, ↓dzo_0, ↓dzo_1, ↓drg_ok, ↓if_pos, ↓if_neg, if_pos, if_neg, if_true, if_false, Int.toNat_natCast, rg_ok, ↓ddg_ok, d1, d2, ↓bnd e, ek, e1]
      · rintro f _ -
        rw [hz]
        simp (disch := omega) only [l_X12_counts_13, b_X12_counts_13, Option.bind_some, ↓nm_eq, ↓sm_inl, ↓sm_inr, ↓dzo_0, ↓dzo_1, ↓drg_ok, ↓if_pos, ↓if_neg, if_pos, if_neg, if_true, if_false, Int.toNat_natCast, rg_ok]
    exact key 144 n 0 () (by omega) (by omega) trivial
  · have key : zLP 144 (fun f k (_ : Unit) => l_X12_counts_13 n f 161 1 0 (k : Int) (hp u J L)) (fun _ _ => True) (fun res => res = some (0, hp u J L)) := by
      refine zlp ?_ ?_
      · rintro f k _ hk -
        right
        refine ⟨(), ?_, trivial⟩
        have ek : (k : Int) + 1 = ((k + 1 : Nat) : Int) := rfl
        have e0 : (0 : Int) + 0 = 0 := rfl
        simp (disch := omega) only [l_X12_counts_13, b_X12_counts_13, b_X12_counts_50, b_X12_counts_51, ↓dhi_M, ↓dhG_M_0, ↓dhG_M_1, ↓dhG_M_2, ↓dhG_M_3, ↓dhG_M_4, ↓dhG_M_5, ↓dhG_M_6, ↓dhG_M_7, ↓dhG_M_8, ↓dhg_M_9, ↓dhq_M_9, ↓dhG_M_10, ↓dhG_M_11, ↓dhG_M_12, ↓dhg_M_13, ↓dhq_M_13, ↓dhG_M_14, ↓dhg_M_15, ↓dhq_M_15, ↓dhG_M_16, ↓dhg_M_17, ↓dhq_M_17, ↓dhg_M_18, ↓dhq_M_18, ↓dhG_M_19, ↓dhG_M_20, ↓dhG_M_21, ↓dhG_M_22, ↓dhG_M_23, ↓dhG_M_24, ↓dhg_M_25, ↓dhq_M_25, ↓dhG_M_26, ↓dhG_M_27, ↓dhG_M_28, ↓dhg_M_29, ↓dhq_M_29, ↓dhG_M_30, ↓dhG_M_31, ↓dhg_M_32, ↓dhq_M_32, ↓dhg_M_33, ↓dhq_M_33, ↓dhg_M_34, ↓dhq_M_34, ↓dhg_M_35, ↓dhq_M_35, ↓dhG_M_36, ↓dhG_M_37, ↓dhg_M_38, ↓dhq_M_38, ↓dhg_M_39, ↓dhq_M_39, ↓dhG_M_40, ↓dhG_M_41, ↓dhG_M_42, ↓dhG_M_43, ↓dhg_M_44, ↓dhq_M_44, Option.bind_some, ↓nm_eq, ↓sm_inl, ↓sm_inr, ↓dzo_0, ↓dzo_1, ↓drg_ok, ↓if_pos, ↓if_neg, if_pos, if_neg, if_true, if_false, Int.toNat_natCast, rg_ok, ek, e0]
      · rintro f _ -
        simp (disch := omega) only [l_X12_counts_13, b_X12_counts_13, Option.bind_some, ↓nm_eq, ↓sm_inl, ↓sm_inr, ↓dzo_0, ↓dzo_1, ↓drg_ok, ↓if_pos, ↓if_neg, if_pos, if_neg, if_true, if_false, Int.toNat_natCast, rg_ok]
    exact key 144 n 0 () (by omega) (by omega) trivial
end PC_
