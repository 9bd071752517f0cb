/-! ===== frames; the grammars' methods that ask ===== -/
/-- nothing has changed but these cells -/
def Fr (l : List Nat) (I J : Nat → Nat → Int) : Prop := ∀ a, a ∉ l → J a = I a
theorem Fr.rf {l : List Nat} {I : Nat → Nat → Int} : Fr l I I := fun _ _ => rfl
theorem Fr.tr {l : List Nat} {I J K : Nat → Nat → Int} (h : Fr l I J) (h' : Fr l J K) : Fr l I K := fun a q => (h' a q).trans (h a q)
theorem Fr.up {l l' : List Nat} {I J : Nat → Nat → Int} (h : Fr l I J) (q : ∀ a, a ∈ l → a ∈ l') : Fr l' I J := fun a z => h a (fun y => z (q a y))
theorem Fr.wr {l : List Nat} {I J : Nat → Nat → Int} (h : Fr l I J) {a k : Nat} {x : Int} (ha : a ∈ l) : Fr l I (gx_u J a k x) := fun b q => by
  rw [gu_ne (show b ≠ a from fun e => q (by rw [e]; exact ha))]; exact h b q
theorem gu_at_eq {I : Nat → Nat → Int} {a k j : Nat} {x : Int} (h : j = k) : gx_u I a k x a j = x := by rw [gu_at, if_pos h]
theorem gu_at_ne {I : Nat → Nat → Int} {a k j : Nat} {x : Int} (h : j ≠ k) : gx_u I a k x a j = I a j := by rw [gu_at, if_neg h]
section SM
variable {u : Nat} {I L : Nat → Nat → Int} {n : Nat}
/-- a grammar's numbers are in their ranges -/
def GW (v : Nat) (I : Nat → Nat → Int) : Prop := (0 ≤ I v 3 ∧ I v 3 ≤ 24) ∧ (0 ≤ I v 6 ∧ I v 6 ≤ 24) ∧ (0 ≤ I v 7 ∧ I v 7 ≤ 7) ∧ (∀ k, 0 ≤ I (v + 3) k ∧ I (v + 3) k ≤ 5) ∧ (∀ k, 0 ≤ I (v + 1) k ∧ I (v + 1) k ≤ 15) ∧ ∀ k, (0 ≤ I (v + 2) k ∧ I (v + 2) k < 8) ∨ (16 ≤ I (v + 2) k ∧ I (v + 2) k < 32)
/-- the grammar at v as a value -/
def cG (I : Nat → Nat → Int) (v : Nat) : GT := ((I v 3).toNat, fun p => if p < (I v 3).toNat then (I (v + 1) p).toNat else 0, fun p => if p < (I v 3).toNat then (I (v + 3) p).toNat else 0, fun p k => if p < (I v 3).toNat ∧ k < (I (v + 3) p).toNat then (I (v + 2) (5 * p + k)).toNat else 0, (I v 7).toNat)
theorem cG_n {v : Nat} (hw : GW v I) : ((Gn (cG I v) : Nat) : Int) = I v 3 := by
  have := hw.1
  show (((I v 3).toNat : Nat) : Int) = _
  omega
theorem cG_t {v : Nat} (hw : GW v I) : ((Gt (cG I v) : Nat) : Int) = I v 7 := by
  have := hw.2.2.1
  show (((I v 7).toNat : Nat) : Int) = _
  omega
theorem cG_n24 {v : Nat} (hw : GW v I) : Gn (cG I v) ≤ 24 := by have := cG_n hw; have := hw.1; omega
theorem cG_t7 {v : Nat} (hw : GW v I) : Gt (cG I v) < 8 := by have := cG_t hw; have := hw.2.2.1; omega
theorem cG_o {v p : Nat} (hw : GW v I) (hp : p < Gn (cG I v)) : ((Go (cG I v) p : Nat) : Int) = I (v + 1) p := by
  have h := hw.2.2.2.2.1 p
  have e : Go (cG I v) p = (I (v + 1) p).toNat := if_pos hp
  rw [e]; omega
theorem cG_o16 {v p : Nat} (hw : GW v I) : Go (cG I v) p < 16 := by
  by_cases hp : p < Gn (cG I v)
  · have h := hw.2.2.2.2.1 p; have := cG_o hw hp; omega
  · have e : Go (cG I v) p = 0 := if_neg hp
    omega
theorem cG_l {v p : Nat} (hw : GW v I) (hp : p < Gn (cG I v)) : ((Gl (cG I v) p : Nat) : Int) = I (v + 3) p := by
  have h := hw.2.2.2.1 p
  have e : Gl (cG I v) p = (I (v + 3) p).toNat := if_pos hp
  rw [e]; omega
theorem cG_l5 {v p : Nat} (hw : GW v I) : Gl (cG I v) p ≤ 5 := by
  by_cases hp : p < Gn (cG I v)
  · have h := hw.2.2.2.1 p; have := cG_l hw hp; omega
  · have e : Gl (cG I v) p = 0 := if_neg hp
    omega
theorem cG_lp {v p k : Nat} (hk : k < Gl (cG I v) p) : p < Gn (cG I v) := by
  by_cases hp : p < Gn (cG I v)
  · exact hp
  · have e : Gl (cG I v) p = 0 := if_neg hp
    omega
theorem cG_s {v p k : Nat} (hw : GW v I) (hk : k < Gl (cG I v) p) : ((Gs (cG I v) p k : Nat) : Int) = I (v + 2) (5 * p + k) := by
  have hp := cG_lp hk
  have h := hw.2.2.2.2.2 (5 * p + k)
  have e1 : Gl (cG I v) p = (I (v + 3) p).toNat := if_pos hp
  have e : Gs (cG I v) p k = (I (v + 2) (5 * p + k)).toNat := if_pos ⟨hp, e1 ▸ hk⟩
  rw [e]; omega
theorem cG_sr {v p k : Nat} (hw : GW v I) (hk : k < Gl (cG I v) p) : Gs (cG I v) p k < 8 ∨ (16 ≤ Gs (cG I v) p k ∧ Gs (cG I v) p k < 32) := by
  have h := hw.2.2.2.2.2 (5 * p + k); have := cG_s hw hk; omega
theorem cG_fr {v : Nat} {l : List Nat} {J : Nat → Nat → Int} (h : Fr l I J) (h0 : v ∉ l) (h1 : v + 1 ∉ l) (h2 : v + 2 ∉ l) (h3 : v + 3 ∉ l) : cG J v = cG I v := by
  unfold cG; rw [h v h0, h _ h1, h _ h2, h _ h3]
theorem GW_fr {v : Nat} {l : List Nat} {J : Nat → Nat → Int} (h : Fr l I J) (h0 : v ∉ l) (h1 : v + 1 ∉ l) (h2 : v + 2 ∉ l) (h3 : v + 3 ∉ l) (hw : GW v I) : GW v J := by
  unfold GW; rw [h v h0, h _ h1, h _ h2, h _ h3]; exact hw
theorem gU_nin {l : List Nat} (h : 3 ∉ l ∧ 4 ∉ l ∧ 5 ∉ l ∧ 6 ∉ l ∧ 87 ∉ l ∧ 88 ∉ l ∧ 89 ∉ l ∧ 90 ∉ l) (u : Nat) : gU u ∉ l ∧ gU u + 1 ∉ l ∧ gU u + 2 ∉ l ∧ gU u + 3 ∉ l := by
  unfold gU
  split
  · exact ⟨h.1, h.2.1, h.2.2.1, h.2.2.2.1⟩
  · exact ⟨h.2.2.2.2.1, h.2.2.2.2.2.1, h.2.2.2.2.2.2.1, h.2.2.2.2.2.2.2⟩
theorem cGu_fr {l : List Nat} {J : Nat → Nat → Int} (h : Fr l I J) (q : 3 ∉ l ∧ 4 ∉ l ∧ 5 ∉ l ∧ 6 ∉ l ∧ 87 ∉ l ∧ 88 ∉ l ∧ 89 ∉ l ∧ 90 ∉ l) : cG J (gU u) = cG I (gU u) :=
  cG_fr h (gU_nin q u).1 (gU_nin q u).2.1 (gU_nin q u).2.2.1 (gU_nin q u).2.2.2
theorem GWu_fr {l : List Nat} {J : Nat → Nat → Int} (h : Fr l I J) (q : 3 ∉ l ∧ 4 ∉ l ∧ 5 ∉ l ∧ 6 ∉ l ∧ 87 ∉ l ∧ 88 ∉ l ∧ 89 ∉ l ∧ 90 ∉ l) (hw : GW (gU u) I) : GW (gU u) J :=
  GW_fr h (gU_nin q u).1 (gU_nin q u).2.1 (gU_nin q u).2.2.1 (gU_nin q u).2.2.2 hw
theorem X4_count {v : Nat} (hv : v ∈ [3, 87]) (hw : GW v I) : f_X4_count v (hp u I L) = some ((Gn (cG I v) : Nat) : Int) := by
  rw [cG_n hw]; simp only [f_X4_count, hi_G hv, hG_G_0 hv, hG_G_1 hv, hG_G_2 hv, hg_G_3 hv, hq_G_3 hv, hG_G_4 hv, hG_G_5 hv, hg_G_6 hv, hq_G_6 hv, hg_G_7 hv, hq_G_7 hv, hG_G_8 hv, hG_G_9 hv, ha_G_1 hv, hs_G_1 hv, hl_G_1 hv, ha_G_2 hv, hs_G_2 hv, hl_G_2 hv, ha_G_3 hv, hs_G_3 hv, hl_G_3 hv, ha_G_4 hv, hl_G_4 hv, ha_G_5 hv, hs_G_5 hv, hl_G_5 hv, Option.bind_some, nm_eq, sm_inl, sm_inr, zo_0, zo_1]
theorem X4_rules {v : Nat} (hv : v ∈ [3, 87]) : f_X4_rules v (hp u I L) = some (I v 6) := by simp only [f_X4_rules, hi_G hv, hG_G_0 hv, hG_G_1 hv, hG_G_2 hv, hg_G_3 hv, hq_G_3 hv, hG_G_4 hv, hG_G_5 hv, hg_G_6 hv, hq_G_6 hv, hg_G_7 hv, hq_G_7 hv, hG_G_8 hv, hG_G_9 hv, ha_G_1 hv, hs_G_1 hv, hl_G_1 hv, ha_G_2 hv, hs_G_2 hv, hl_G_2 hv, ha_G_3 hv, hs_G_3 hv, hl_G_3 hv, ha_G_4 hv, hl_G_4 hv, ha_G_5 hv, hs_G_5 hv, hl_G_5 hv, Option.bind_some, nm_eq, sm_inl, sm_inr, zo_0, zo_1]
theorem X4_top {v : Nat} (hv : v ∈ [3, 87]) (hw : GW v I) : f_X4_top v (hp u I L) = some ((Gt (cG I v) : Nat) : Int) := by
  rw [cG_t hw]; simp only [f_X4_top, hi_G hv, hG_G_0 hv, hG_G_1 hv, hG_G_2 hv, hg_G_3 hv, hq_G_3 hv, hG_G_4 hv, hG_G_5 hv, hg_G_6 hv, hq_G_6 hv, hg_G_7 hv, hq_G_7 hv, hG_G_8 hv, hG_G_9 hv, ha_G_1 hv, hs_G_1 hv, hl_G_1 hv, ha_G_2 hv, hs_G_2 hv, hl_G_2 hv, ha_G_3 hv, hs_G_3 hv, hl_G_3 hv, ha_G_4 hv, hl_G_4 hv, ha_G_5 hv, hs_G_5 hv, hl_G_5 hv, Option.bind_some, nm_eq, sm_inl, sm_inr, zo_0, zo_1]
theorem X4_setTop {v : Nat} (hv : v ∈ [3, 87]) (x : Int) : f_X4_setTop v x (hp u I L) = some (hp u (gx_u I v 7 x) L) := by simp only [f_X4_setTop, hi_G hv, hG_G_0 hv, hG_G_1 hv, hG_G_2 hv, hg_G_3 hv, hq_G_3 hv, hG_G_4 hv, hG_G_5 hv, hg_G_6 hv, hq_G_6 hv, hg_G_7 hv, hq_G_7 hv, hG_G_8 hv, hG_G_9 hv, ha_G_1 hv, hs_G_1 hv, hl_G_1 hv, ha_G_2 hv, hs_G_2 hv, hl_G_2 hv, ha_G_3 hv, hs_G_3 hv, hl_G_3 hv, ha_G_4 hv, hl_G_4 hv, ha_G_5 hv, hs_G_5 hv, hl_G_5 hv, Option.bind_some, nm_eq, sm_inl, sm_inr, zo_0, zo_1]
theorem X4_owner {v p : Nat} (hv : v ∈ [3, 87]) (hw : GW v I) (hp0 : p < Gn (cG I v)) : f_X4_owner v (p : Int) (hp u I L) = some ((Go (cG I v) p : Nat) : Int) := by
  have h1 := hw.1
  have h2 := cG_n hw
  rw [cG_o hw hp0]
  simp (disch := omega) only [f_X4_owner, b_X4_owner_21, hi_G hv, hG_G_0 hv, hG_G_1 hv, hG_G_2 hv, hg_G_3 hv, hq_G_3 hv, hG_G_4 hv, hG_G_5 hv, hg_G_6 hv, hq_G_6 hv, hg_G_7 hv, hq_G_7 hv, hG_G_8 hv, hG_G_9 hv, ha_G_1 hv, hs_G_1 hv, hl_G_1 hv, ha_G_2 hv, hs_G_2 hv, hl_G_2 hv, ha_G_3 hv, hs_G_3 hv, hl_G_3 hv, ha_G_4 hv, hl_G_4 hv, ha_G_5 hv, hs_G_5 hv, hl_G_5 hv, Option.bind_some, nm_eq, sm_inl, sm_inr, zo_0, zo_1, rg_ok]
  rw [if_neg (by omega), if_neg (by omega)]
  simp (disch := omega) only [hi_G hv, hG_G_0 hv, hG_G_1 hv, hG_G_2 hv, hg_G_3 hv, hq_G_3 hv, hG_G_4 hv, hG_G_5 hv, hg_G_6 hv, hq_G_6 hv, hg_G_7 hv, hq_G_7 hv, hG_G_8 hv, hG_G_9 hv, ha_G_1 hv, hs_G_1 hv, hl_G_1 hv, ha_G_2 hv, hs_G_2 hv, hl_G_2 hv, ha_G_3 hv, hs_G_3 hv, hl_G_3 hv, ha_G_4 hv, hl_G_4 hv, ha_G_5 hv, hs_G_5 hv, hl_G_5 hv, Option.bind_some, nm_eq, sm_inl, sm_inr, zo_0, zo_1, Int.toNat_natCast]
theorem X4_ownerN {v p : Nat} (hv : v ∈ [3, 87]) (hw : GW v I) (hp0 : ¬ p < Gn (cG I v)) (hp1 : p < 1000) : f_X4_owner v (p : Int) (hp u I L) = some (-1) := by
  have h1 := hw.1
  have h2 := cG_n hw
  simp (disch := omega) only [f_X4_owner, b_X4_owner_21, hi_G hv, hG_G_0 hv, hG_G_1 hv, hG_G_2 hv, hg_G_3 hv, hq_G_3 hv, hG_G_4 hv, hG_G_5 hv, hg_G_6 hv, hq_G_6 hv, hg_G_7 hv, hq_G_7 hv, hG_G_8 hv, hG_G_9 hv, ha_G_1 hv, hs_G_1 hv, hl_G_1 hv, ha_G_2 hv, hs_G_2 hv, hl_G_2 hv, ha_G_3 hv, hs_G_3 hv, hl_G_3 hv, ha_G_4 hv, hl_G_4 hv, ha_G_5 hv, hs_G_5 hv, hl_G_5 hv, Option.bind_some, nm_eq, sm_inl, sm_inr, zo_0, zo_1, rg_ok]
  rw [if_neg (by omega), if_pos (by omega)]
theorem X4_length {v p : Nat} (hv : v ∈ [3, 87]) (hw : GW v I) (hp1 : p < 1000) : f_X4_length v (p : Int) (hp u I L) = some ((Gl (cG I v) p : Nat) : Int) := by
  have h1 := hw.1
  have h2 := cG_n hw
  simp (disch := omega) only [f_X4_length, b_X4_length_21, hi_G hv, hG_G_0 hv, hG_G_1 hv, hG_G_2 hv, hg_G_3 hv, hq_G_3 hv, hG_G_4 hv, hG_G_5 hv, hg_G_6 hv, hq_G_6 hv, hg_G_7 hv, hq_G_7 hv, hG_G_8 hv, hG_G_9 hv, ha_G_1 hv, hs_G_1 hv, hl_G_1 hv, ha_G_2 hv, hs_G_2 hv, hl_G_2 hv, ha_G_3 hv, hs_G_3 hv, hl_G_3 hv, ha_G_4 hv, hl_G_4 hv, ha_G_5 hv, hs_G_5 hv, hl_G_5 hv, Option.bind_some, nm_eq, sm_inl, sm_inr, zo_0, zo_1, rg_ok]
  rw [if_neg (by omega)]
  by_cases hp0 : p < Gn (cG I v)
  · rw [if_neg (by omega), cG_l hw hp0]
    simp (disch := omega) only [hi_G hv, hG_G_0 hv, hG_G_1 hv, hG_G_2 hv, hg_G_3 hv, hq_G_3 hv, hG_G_4 hv, hG_G_5 hv, hg_G_6 hv, hq_G_6 hv, hg_G_7 hv, hq_G_7 hv, hG_G_8 hv, hG_G_9 hv, ha_G_1 hv, hs_G_1 hv, hl_G_1 hv, ha_G_2 hv, hs_G_2 hv, hl_G_2 hv, ha_G_3 hv, hs_G_3 hv, hl_G_3 hv, ha_G_4 hv, hl_G_4 hv, ha_G_5 hv, hs_G_5 hv, hl_G_5 hv, Option.bind_some, nm_eq, sm_inl, sm_inr, zo_0, zo_1, Int.toNat_natCast]
  · rw [if_pos (by omega)]
    have e : Gl (cG I v) p = 0 := if_neg hp0
    rw [e]; rfl
theorem X4_lengthM {v : Nat} : f_X4_length v (-1) (hp u I L) = some 0 := by
  simp (disch := omega) only [f_X4_length, b_X4_length_21, Option.bind_some, nm_eq, sm_inl, sm_inr, zo_0, zo_1, rg_ok]
  rfl
theorem X4_symbol {v p k : Nat} (hv : v ∈ [3, 87]) (hw : GW v I) (hk : k < Gl (cG I v) p) : f_X4_symbol v (p : Int) (k : Int) (hp u I L) = some ((Gs (cG I v) p k : Nat) : Int) := by
  have h1 := hw.1
  have h2 := cG_n hw
  have hp0 := cG_lp hk
  have h3 := cG_l hw hp0
  have h5 := cG_l5 (p := p) hw
  rw [cG_s hw hk]
  simp (disch := omega) only [f_X4_symbol, b_X4_symbol_30, b_X4_symbol_31, hi_G hv, hG_G_0 hv, hG_G_1 hv, hG_G_2 hv, hg_G_3 hv, hq_G_3 hv, hG_G_4 hv, hG_G_5 hv, hg_G_6 hv, hq_G_6 hv, hg_G_7 hv, hq_G_7 hv, hG_G_8 hv, hG_G_9 hv, ha_G_1 hv, hs_G_1 hv, hl_G_1 hv, ha_G_2 hv, hs_G_2 hv, hl_G_2 hv, ha_G_3 hv, hs_G_3 hv, hl_G_3 hv, ha_G_4 hv, hl_G_4 hv, ha_G_5 hv, hs_G_5 hv, hl_G_5 hv, Option.bind_some, nm_eq, sm_inl, sm_inr, zo_0, zo_1, rg_ok]
  rw [if_neg (by omega), if_neg (by omega), if_neg (by omega)]
  simp (disch := omega) only [hi_G hv, hG_G_0 hv, hG_G_1 hv, hG_G_2 hv, hg_G_3 hv, hq_G_3 hv, hG_G_4 hv, hG_G_5 hv, hg_G_6 hv, hq_G_6 hv, hg_G_7 hv, hq_G_7 hv, hG_G_8 hv, hG_G_9 hv, ha_G_1 hv, hs_G_1 hv, hl_G_1 hv, ha_G_2 hv, hs_G_2 hv, hl_G_2 hv, ha_G_3 hv, hs_G_3 hv, hl_G_3 hv, ha_G_4 hv, hl_G_4 hv, ha_G_5 hv, hs_G_5 hv, hl_G_5 hv, Option.bind_some, nm_eq, sm_inl, sm_inr, zo_0, zo_1, Int.toNat_natCast, rg_ok]
  rw [if_neg (by omega), if_neg (by decide)]
  rw [show ((p : Int) * 5 + (k : Int)).toNat = 5 * p + k by omega]
theorem X4_symbolN {v p k : Nat} (hv : v ∈ [3, 87]) (hw : GW v I) (hk : ¬ k < Gl (cG I v) p) (hp1 : p < 1000) (hk1 : k < 1000) : f_X4_symbol v (p : Int) (k : Int) (hp u I L) = some (-1) := by
  have h1 := hw.1
  have h2 := cG_n hw
  simp (disch := omega) only [f_X4_symbol, b_X4_symbol_30, b_X4_symbol_31, hi_G hv, hG_G_0 hv, hG_G_1 hv, hG_G_2 hv, hg_G_3 hv, hq_G_3 hv, hG_G_4 hv, hG_G_5 hv, hg_G_6 hv, hq_G_6 hv, hg_G_7 hv, hq_G_7 hv, hG_G_8 hv, hG_G_9 hv, ha_G_1 hv, hs_G_1 hv, hl_G_1 hv, ha_G_2 hv, hs_G_2 hv, hl_G_2 hv, ha_G_3 hv, hs_G_3 hv, hl_G_3 hv, ha_G_4 hv, hl_G_4 hv, ha_G_5 hv, hs_G_5 hv, hl_G_5 hv, Option.bind_some, nm_eq, sm_inl, sm_inr, zo_0, zo_1, rg_ok]
  rw [if_neg (by omega)]
  by_cases hp0 : p < Gn (cG I v)
  · have h3 := cG_l hw hp0
    have h5 := cG_l5 (p := p) hw
    rw [if_neg (by omega), if_neg (by omega)]
    simp (disch := omega) only [hi_G hv, hG_G_0 hv, hG_G_1 hv, hG_G_2 hv, hg_G_3 hv, hq_G_3 hv, hG_G_4 hv, hG_G_5 hv, hg_G_6 hv, hq_G_6 hv, hg_G_7 hv, hq_G_7 hv, hG_G_8 hv, hG_G_9 hv, ha_G_1 hv, hs_G_1 hv, hl_G_1 hv, ha_G_2 hv, hs_G_2 hv, hl_G_2 hv, ha_G_3 hv, hs_G_3 hv, hl_G_3 hv, ha_G_4 hv, hl_G_4 hv, ha_G_5 hv, hs_G_5 hv, hl_G_5 hv, Option.bind_some, nm_eq, sm_inl, sm_inr, zo_0, zo_1, Int.toNat_natCast, rg_ok]
    rw [if_pos (by omega)]; rfl
  · rw [if_pos (by omega)]; rfl
theorem X11_isT (s : Nat) (hs : s < 1000) (h : gi_H) : f_X11_isTerminal (s : Int) h = some (if s < 8 then 1 else 0) := by
  simp (disch := omega) only [f_X11_isTerminal, b_X11_isTerminal_14, Option.bind_some, nm_eq, sm_inl, sm_inr, zo_0, zo_1, rg_ok]
  rw [if_neg (by omega)]
  by_cases h8 : s < 8
  · rw [if_pos h8, if_neg (by omega)]
  · rw [if_neg h8, if_pos (by omega)]
theorem X11_isTm (h : gi_H) : f_X11_isTerminal (-1) h = some 0 := rfl
theorem X11_isN (s : Nat) (hs : s < 1000) (h : gi_H) : f_X11_isNonterminal (s : Int) h = some (if 16 ≤ s ∧ s < 32 then 1 else 0) := by
  simp (disch := omega) only [f_X11_isNonterminal, b_X11_isNonterminal_16, Option.bind_some, nm_eq, sm_inl, sm_inr, zo_0, zo_1, rg_ok]
  by_cases h8 : s < 16
  · rw [if_pos (by omega), if_neg (by omega)]
  · rw [if_neg (by omega)]
    by_cases h9 : s < 32
    · rw [if_neg (by omega), if_pos ⟨by omega, h9⟩]
    · rw [if_pos (by omega), if_neg (by omega)]
theorem X11_isN1 (s : Nat) (h1 : 16 ≤ s) (h2 : s < 32) (h : gi_H) : f_X11_isNonterminal (s : Int) h = some 1 := by rw [X11_isN s (by omega), if_pos ⟨h1, h2⟩]
theorem X11_isN0 (s : Nat) (h1 : s < 16) (h : gi_H) : f_X11_isNonterminal (s : Int) h = some 0 := by rw [X11_isN s (by omega), if_neg (by omega)]
theorem X11_isT1 (s : Nat) (h1 : s < 8) (h : gi_H) : f_X11_isTerminal (s : Int) h = some 1 := by rw [X11_isT s (by omega), if_pos h1]
theorem X11_isT0 (s : Nat) (h1 : 8 ≤ s) (h2 : s < 1000) (h : gi_H) : f_X11_isTerminal (s : Int) h = some 0 := by rw [X11_isT s h2, if_neg (by omega)]
theorem X11_isNm (h : gi_H) : f_X11_isNonterminal (-1) h = some 0 := rfl
end SM
