/-! ===== the reference: its grammar in use as a value; firsts of a row ===== -/
def rw9 (I : Nat → Nat → Int) : Nat := (I 161 9).toNat
def RW (I : Nat → Nat → Int) : Prop := (I 161 9 = 0 ∨ I 161 9 = 1) ∧ (∀ k, 0 ≤ I 165 k ∧ I 165 k ≤ 24) ∧ (∀ k, 0 ≤ I 163 k ∧ I 163 k ≤ 5) ∧ (∀ k, 0 ≤ I 162 k ∧ I 162 k ≤ 15) ∧ (∀ k, (0 ≤ I 164 k ∧ I 164 k < 8) ∨ (16 ≤ I 164 k ∧ I 164 k < 32)) ∧ ∀ k, 0 ≤ I 170 k ∧ I 170 k ≤ 7
def rGw (I : Nat → Nat → Int) (w : Nat) : GT := ((I 165 w).toNat, fun p => if p < (I 165 w).toNat then (I 162 (24 * w + p)).toNat else 0, fun p => if p < (I 165 w).toNat then (I 163 (24 * w + p)).toNat else 0, fun p k => if p < (I 165 w).toNat ∧ k < (I 163 (24 * w + p)).toNat then (I 164 (5 * (24 * w + p) + k)).toNat else 0, (I 170 w).toNat)
def rG (I : Nat → Nat → Int) : GT := rGw I (rw9 I)
section RA
variable {u : Nat} {I L : Nat → Nat → Int} {n : Nat}
theorem rG_n (h : RW I) : ((Gn (rG I) : Nat) : Int) = I 165 (rw9 I) := by
  have := h.2.1 (rw9 I); show (((I 165 (rw9 I)).toNat : Nat) : Int) = _; omega
theorem rG_t (h : RW I) : ((Gt (rG I) : Nat) : Int) = I 170 (rw9 I) := by
  have := h.2.2.2.2.2 (rw9 I); show (((I 170 (rw9 I)).toNat : Nat) : Int) = _; omega
theorem rG_o (h : RW I) {p : Nat} (hq : p < Gn (rG I)) : ((Go (rG I) p : Nat) : Int) = I 162 (24 * rw9 I + p) := by
  have := h.2.2.2.1 (24 * rw9 I + p)
  have hq' : p < (I 165 (rw9 I)).toNat := hq
  show (((if p < (I 165 (rw9 I)).toNat then (I 162 (24 * rw9 I + p)).toNat else 0) : Nat) : Int) = _
  rw [if_pos hq']; omega
theorem rG_l (h : RW I) {p : Nat} (hq : p < Gn (rG I)) : ((Gl (rG I) p : Nat) : Int) = I 163 (24 * rw9 I + p) := by
  have := h.2.2.1 (24 * rw9 I + p)
  have hq' : p < (I 165 (rw9 I)).toNat := hq
  show (((if p < (I 165 (rw9 I)).toNat then (I 163 (24 * rw9 I + p)).toNat else 0) : Nat) : Int) = _
  rw [if_pos hq']; omega
theorem rG_lp {p k : Nat} (hk : k < Gl (rG I) p) : p < Gn (rG I) := by
  have hk' : k < (if p < (I 165 (rw9 I)).toNat then (I 163 (24 * rw9 I + p)).toNat else 0) := hk
  show p < (I 165 (rw9 I)).toNat
  apply Classical.byContradiction
  intro q
  rw [if_neg q] at hk'; omega
theorem rG_s (h : RW I) {p k : Nat} (hk : k < Gl (rG I) p) : ((Gs (rG I) p k : Nat) : Int) = I 164 (5 * (24 * rw9 I + p) + k) := by
  have h1 := h.2.2.2.2.1 (5 * (24 * rw9 I + p) + k)
  have hq' : p < (I 165 (rw9 I)).toNat := rG_lp hk
  have hk' : k < (if p < (I 165 (rw9 I)).toNat then (I 163 (24 * rw9 I + p)).toNat else 0) := hk
  rw [if_pos hq'] at hk'
  show (((if p < (I 165 (rw9 I)).toNat ∧ k < (I 163 (24 * rw9 I + p)).toNat then (I 164 (5 * (24 * rw9 I + p) + k)).toNat else 0) : Nat) : Int) = _
  rw [if_pos ⟨hq', hk'⟩]; omega
theorem GR_r (h : RW I) : GR (rG I) := by
  refine ⟨?_, ?_, fun p => ?_, fun p => ?_, fun p k hk => rG_lp hk, fun p k hk => ?_⟩
  · have := rG_n h; have := h.2.1 (rw9 I); omega
  · have := rG_t h; have := h.2.2.2.2.2 (rw9 I); omega
  · have := h.2.2.2.1 (24 * rw9 I + p)
    show (if p < (I 165 (rw9 I)).toNat then (I 162 (24 * rw9 I + p)).toNat else 0) < 16
    split <;> omega
  · have := h.2.2.1 (24 * rw9 I + p)
    show (if p < (I 165 (rw9 I)).toNat then (I 163 (24 * rw9 I + p)).toNat else 0) ≤ 5
    split <;> omega
  · have := rG_s h hk
    have := h.2.2.2.2.1 (5 * (24 * rw9 I + p) + k)
    omega
theorem rw9_of (h : RW I) : I 161 9 = ((rw9 I : Nat) : Int) ∧ rw9 I < 2 := by
  have := h.1; unfold rw9; omega
theorem X12_sizeOf (h : RW I) {p : Nat} (hq : p < Gn (rG I)) : f_X12_sizeOf 161 (p : Int) (hp u I L) = some ((Gl (rG I) p : Nat) : Int) := by
  have h9 := rw9_of h
  have h24 := (GR_r h).1
  have e : (24 * ((rw9 I : Nat) : Int) + (p : Int)).toNat = 24 * rw9 I + p := by omega
  simp (disch := omega) only [f_X12_sizeOf, hi_M, hG_M_0, hG_M_1, hG_M_2, hG_M_3, hG_M_4, hG_M_5, hG_M_6, hG_M_7, hG_M_8, hg_M_9, hq_M_9, hG_M_10, hG_M_11, hG_M_12, hg_M_13, hq_M_13, hG_M_14, hg_M_15, hq_M_15, hG_M_16, hg_M_17, hq_M_17, hg_M_18, hq_M_18, hG_M_19, hG_M_20, hG_M_21, hG_M_22, hG_M_23, hG_M_24, hg_M_25, hq_M_25, hG_M_26, hG_M_27, hG_M_28, hg_M_29, hq_M_29, hG_M_30, hG_M_31, hg_M_32, hq_M_32, hg_M_33, hq_M_33, hg_M_34, hq_M_34, hg_M_35, hq_M_35, hG_M_36, hG_M_37, hg_M_38, hq_M_38, hg_M_39, hq_M_39, hG_M_40, hG_M_41, hG_M_42, hG_M_43, hg_M_44, hq_M_44, Option.bind_some, nm_eq, sm_inl, sm_inr, zo_0, zo_1, rg_ok, h9.1]
  rw [if_neg (by omega)]
  simp (disch := omega) only [ha_163, hs_163, hl_163, Option.bind_some, nm_eq, sm_inl, sm_inr, zo_0, zo_1, e]
  rw [rG_l h hq]
theorem X12_lead (h : RW I) {p : Nat} (hq : p < Gn (rG I)) : f_X12_lead 161 (p : Int) (hp u I L) = some ((Go (rG I) p : Nat) : Int) := by
  have h9 := rw9_of h
  have h24 := (GR_r h).1
  have e : (24 * ((rw9 I : Nat) : Int) + (p : Int)).toNat = 24 * rw9 I + p := by omega
  simp (disch := omega) only [f_X12_lead, hi_M, hG_M_0, hG_M_1, hG_M_2, hG_M_3, hG_M_4, hG_M_5, hG_M_6, hG_M_7, hG_M_8, hg_M_9, hq_M_9, hG_M_10, hG_M_11, hG_M_12, hg_M_13, hq_M_13, hG_M_14, hg_M_15, hq_M_15, hG_M_16, hg_M_17, hq_M_17, hg_M_18, hq_M_18, hG_M_19, hG_M_20, hG_M_21, hG_M_22, hG_M_23, hG_M_24, hg_M_25, hq_M_25, hG_M_26, hG_M_27, hG_M_28, hg_M_29, hq_M_29, hG_M_30, hG_M_31, hg_M_32, hq_M_32, hg_M_33, hq_M_33, hg_M_34, hq_M_34, hg_M_35, hq_M_35, hG_M_36, hG_M_37, hg_M_38, hq_M_38, hg_M_39, hq_M_39, hG_M_40, hG_M_41, hG_M_42, hG_M_43, hg_M_44, hq_M_44, ha_162, hs_162, hl_162, Option.bind_some, nm_eq, sm_inl, sm_inr, zo_0, zo_1, rg_ok, h9.1, e]
  rw [rG_o h hq]
theorem X12_symbol (h : RW I) {p k : Nat} (hk : k < Gl (rG I) p) : f_X12_symbol 161 (p : Int) (k : Int) (hp u I L) = some ((Gs (rG I) p k : Nat) : Int) := by
  have hq' := rG_lp hk
  have h9 := rw9_of h
  have hg := GR_r h
  have h24 := hg.1
  have h5 := hg.2.2.2.1 p
  have e : (5 * (24 * ((rw9 I : Nat) : Int) + (p : Int)) + (k : Int)).toNat = 5 * (24 * rw9 I + p) + k := by omega
  simp (disch := omega) only [f_X12_symbol, hi_M, hG_M_0, hG_M_1, hG_M_2, hG_M_3, hG_M_4, hG_M_5, hG_M_6, hG_M_7, hG_M_8, hg_M_9, hq_M_9, hG_M_10, hG_M_11, hG_M_12, hg_M_13, hq_M_13, hG_M_14, hg_M_15, hq_M_15, hG_M_16, hg_M_17, hq_M_17, hg_M_18, hq_M_18, hG_M_19, hG_M_20, hG_M_21, hG_M_22, hG_M_23, hG_M_24, hg_M_25, hq_M_25, hG_M_26, hG_M_27, hG_M_28, hg_M_29, hq_M_29, hG_M_30, hG_M_31, hg_M_32, hq_M_32, hg_M_33, hq_M_33, hg_M_34, hq_M_34, hg_M_35, hq_M_35, hG_M_36, hG_M_37, hg_M_38, hq_M_38, hg_M_39, hq_M_39, hG_M_40, hG_M_41, hG_M_42, hG_M_43, hg_M_44, hq_M_44, Option.bind_some, nm_eq, sm_inl, sm_inr, zo_0, zo_1, X12_sizeOf h hq', rg_ok, h9.1]
  rw [if_pos (by omega), if_neg (by omega)]
  simp (disch := omega) only [ha_164, hs_164, hl_164, Option.bind_some, nm_eq, sm_inl, sm_inr, zo_0, zo_1, e]
  rw [rG_s h hk]
/-- firsts and nullable ones by now -/
def rFi (I : Nat → Nat → Int) (a t : Nat) : Prop := a < 16 ∧ t < 8 ∧ bt (I 176 a) t = true
def rNi (I : Nat → Nat → Int) (a : Nat) : Prop := a < 16 ∧ bt (I 161 18) a = true
def rTb (I : Nat → Nat → Int) : Prop := (∀ a, a < 16 → gi_ok (I 176 a) ∧ ∀ i, bt (I 176 a) i = true → i < 8) ∧ gi_ok (I 161 18) ∧ ∀ i, bt (I 161 18) i = true → i < 16
theorem rTb_null {s : Nat} (hs : s < 8 ∨ (16 ≤ s ∧ s < 32)) : nls (rNi I) s ↔ 16 ≤ s ∧ bt (I 161 18) (s - 16) = true := by
  unfold nls rNi
  constructor
  · rintro ⟨a, -, b⟩; exact ⟨a, b⟩
  · rintro ⟨a, b⟩; exact ⟨a, by omega, b⟩
theorem X12_empty_0 (h : RW I) {p : Nat} (hq : p < Gn (rG I)) : ∀ (m f k : Nat), Gl (rG I) p = k + m → m < f → l_X12_isEmptyFrom_5 n f 161 (p : Int) 0 (k : Int) (hp u I L) = some 0 := by
  have h5 := (GR_r h).2.2.2.1 p
  intro m
  induction m with
  | zero =>
    intro f k hm hf
    obtain ⟨f', rfl⟩ : ∃ f', f = f' + 1 := ⟨f - 1, by omega⟩
    simp (disch := omega) only [l_X12_isEmptyFrom_5, b_X12_isEmptyFrom_5, hi_M, hG_M_0, hG_M_1, hG_M_2, hG_M_3, hG_M_4, hG_M_5, hG_M_6, hG_M_7, hG_M_8, hg_M_9, hq_M_9, hG_M_10, hG_M_11, hG_M_12, hg_M_13, hq_M_13, hG_M_14, hg_M_15, hq_M_15, hG_M_16, hg_M_17, hq_M_17, hg_M_18, hq_M_18, hG_M_19, hG_M_20, hG_M_21, hG_M_22, hG_M_23, hG_M_24, hg_M_25, hq_M_25, hG_M_26, hG_M_27, hG_M_28, hg_M_29, hq_M_29, hG_M_30, hG_M_31, hg_M_32, hq_M_32, hg_M_33, hq_M_33, hg_M_34, hq_M_34, hg_M_35, hq_M_35, hG_M_36, hG_M_37, hg_M_38, hq_M_38, hg_M_39, hq_M_39, hG_M_40, hG_M_41, hG_M_42, hG_M_43, hg_M_44, hq_M_44, Option.bind_some, nm_eq, sm_inl, sm_inr, zo_0, zo_1, X12_sizeOf h hq, rg_ok]
    rw [if_pos (by omega)]
  | succ m ih =>
    intro f k hm hf
    obtain ⟨f', rfl⟩ : ∃ f', f = f' + 1 := ⟨f - 1, by omega⟩
    have hk : k < Gl (rG I) p := by omega
    simp (disch := omega) only [l_X12_isEmptyFrom_5, b_X12_isEmptyFrom_5, b_X12_isEmptyFrom_55, b_X12_isEmptyFrom_56, hi_M, hG_M_0, hG_M_1, hG_M_2, hG_M_3, hG_M_4, hG_M_5, hG_M_6, hG_M_7, hG_M_8, hg_M_9, hq_M_9, hG_M_10, hG_M_11, hG_M_12, hg_M_13, hq_M_13, hG_M_14, hg_M_15, hq_M_15, hG_M_16, hg_M_17, hq_M_17, hg_M_18, hq_M_18, hG_M_19, hG_M_20, hG_M_21, hG_M_22, hG_M_23, hG_M_24, hg_M_25, hq_M_25, hG_M_26, hG_M_27, hG_M_28, hg_M_29, hq_M_29, hG_M_30, hG_M_31, hg_M_32, hq_M_32, hg_M_33, hq_M_33, hg_M_34, hq_M_34, hg_M_35, hq_M_35, hG_M_36, hG_M_37, hg_M_38, hq_M_38, hg_M_39, hq_M_39, hG_M_40, hG_M_41, hG_M_42, hG_M_43, hg_M_44, hq_M_44, Option.bind_some, nm_eq, sm_inl, sm_inr, zo_0, zo_1, X12_sizeOf h hq, X12_symbol h hk, rg_ok]
    rw [if_neg (by omega), if_pos trivial, show (k : Int) + 1 = ((k + 1 : Nat) : Int) by omega]
    exact ih f' (k + 1) (by omega) (by omega)
theorem X12_empty_l (h : RW I) (hT : rTb I) {p : Nat} (hq : p < Gn (rG I)) : ∀ (m f k : Nat), Gl (rG I) p = k + m → m < f → ∃ r : Int, l_X12_isEmptyFrom_5 n f 161 (p : Int) 1 (k : Int) (hp u I L) = some r ∧ ((r = 1 ∧ emF (rG I) (rNi I) p k) ∨ (r = 0 ∧ ¬ emF (rG I) (rNi I) p k)) := by
  have hg := GR_r h
  have h5 := hg.2.2.2.1 p
  have hrg := hT.2.1
  intro m
  induction m with
  | zero =>
    intro f k hm hf
    obtain ⟨f', rfl⟩ : ∃ f', f = f' + 1 := ⟨f - 1, by omega⟩
    simp (disch := omega) only [l_X12_isEmptyFrom_5, b_X12_isEmptyFrom_5, hi_M, hG_M_0, hG_M_1, hG_M_2, hG_M_3, hG_M_4, hG_M_5, hG_M_6, hG_M_7, hG_M_8, hg_M_9, hq_M_9, hG_M_10, hG_M_11, hG_M_12, hg_M_13, hq_M_13, hG_M_14, hg_M_15, hq_M_15, hG_M_16, hg_M_17, hq_M_17, hg_M_18, hq_M_18, hG_M_19, hG_M_20, hG_M_21, hG_M_22, hG_M_23, hG_M_24, hg_M_25, hq_M_25, hG_M_26, hG_M_27, hG_M_28, hg_M_29, hq_M_29, hG_M_30, hG_M_31, hg_M_32, hq_M_32, hg_M_33, hq_M_33, hg_M_34, hq_M_34, hg_M_35, hq_M_35, hG_M_36, hG_M_37, hg_M_38, hq_M_38, hg_M_39, hq_M_39, hG_M_40, hG_M_41, hG_M_42, hG_M_43, hg_M_44, hq_M_44, Option.bind_some, nm_eq, sm_inl, sm_inr, zo_0, zo_1, X12_sizeOf h hq, rg_ok]
    rw [if_pos (by omega)]
    exact ⟨1, rfl, Or.inl ⟨rfl, emF_end (by omega)⟩⟩
  | succ m ih =>
    intro f k hm hf
    obtain ⟨f', rfl⟩ : ∃ f', f = f' + 1 := ⟨f - 1, by omega⟩
    have hk : k < Gl (rG I) p := by omega
    have hs := hg.2.2.2.2.2 p k hk
    have ek : (k : Int) + 1 = ((k + 1 : Nat) : Int) := by omega
    simp (disch := omega) only [l_X12_isEmptyFrom_5, b_X12_isEmptyFrom_5, b_X12_isEmptyFrom_55, b_X12_isEmptyFrom_56, hi_M, hG_M_0, hG_M_1, hG_M_2, hG_M_3, hG_M_4, hG_M_5, hG_M_6, hG_M_7, hG_M_8, hg_M_9, hq_M_9, hG_M_10, hG_M_11, hG_M_12, hg_M_13, hq_M_13, hG_M_14, hg_M_15, hq_M_15, hG_M_16, hg_M_17, hq_M_17, hg_M_18, hq_M_18, hG_M_19, hG_M_20, hG_M_21, hG_M_22, hG_M_23, hG_M_24, hg_M_25, hq_M_25, hG_M_26, hG_M_27, hG_M_28, hg_M_29, hq_M_29, hG_M_30, hG_M_31, hg_M_32, hq_M_32, hg_M_33, hq_M_33, hg_M_34, hq_M_34, hg_M_35, hq_M_35, hG_M_36, hG_M_37, hg_M_38, hq_M_38, hg_M_39, hq_M_39, hG_M_40, hG_M_41, hG_M_42, hG_M_43, hg_M_44, hq_M_44, Option.bind_some, nm_eq, sm_inl, sm_inr, zo_0, zo_1, X12_sizeOf h hq, X12_symbol h hk, rg_ok, ek]
    rw [if_neg (by omega), if_neg (by decide)]
    by_cases hs16 : Gs (rG I) p k < 16
    · rw [if_pos (by omega)]
      refine ⟨0, X12_empty_0 h hq m f' (k + 1) (by omega) (by omega), Or.inr ⟨rfl, ?_⟩⟩
      rw [emF_step hk]
      rintro ⟨q, -⟩
      have := q.1; omega
    · have e16 : ((Gs (rG I) p k : Nat) : Int) - 16 = ((Gs (rG I) p k - 16 : Nat) : Int) := by omega
      have hb32 : Gs (rG I) p k - 16 < 32 := by omega
      rw [if_neg (by omega), e16, bt_has hb32]
      by_cases hb : bt (I 161 18) (Gs (rG I) p k - 16) = true
      · rw [if_pos hb]
        simp (disch := omega) only [Option.bind_some, nm_eq, sm_inl, sm_inr, zo_0, zo_1, rg_ok]
        rw [if_pos trivial]
        obtain ⟨r, e, h1⟩ := ih f' (k + 1) (by omega) (by omega)
        refine ⟨r, e, ?_⟩
        rw [emF_step hk, rTb_null hs]
        rcases h1 with ⟨a, b⟩ | ⟨a, b⟩
        · exact Or.inl ⟨a, ⟨by omega, hb⟩, b⟩
        · exact Or.inr ⟨a, fun q => b q.2⟩
      · rw [if_neg hb]
        simp (disch := omega) only [Option.bind_some, nm_eq, sm_inl, sm_inr, zo_0, zo_1, rg_ok]
        rw [if_neg (by decide)]
        refine ⟨0, X12_empty_0 h hq m f' (k + 1) (by omega) (by omega), Or.inr ⟨rfl, ?_⟩⟩
        rw [emF_step hk, rTb_null hs]
        rintro ⟨q, -⟩
        exact hb q.2
theorem X12_empty (hn : 1000000000000000000000000000000 ≤ n) (h : RW I) (hT : rTb I) {p k : Nat} (hq : p < Gn (rG I)) (hk : k ≤ Gl (rG I) p) : ∃ r : Int, f_X12_isEmptyFrom n 161 (p : Int) (k : Int) (hp u I L) = some r ∧ ((r = 1 ∧ emF (rG I) (rNi I) p k) ∨ (r = 0 ∧ ¬ emF (rG I) (rNi I) p k)) := by
  have h5 := (GR_r h).2.2.2.1 p
  exact X12_empty_l h hT hq (Gl (rG I) p - k) n k (by omega) (by omega)
end RA
