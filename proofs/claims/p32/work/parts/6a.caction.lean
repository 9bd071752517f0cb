/-! ===== the class: what is done in a cell ===== -/
/-- a cell as the class's table has read it -/
def CRD (g : GT) (kd t y : Nat) (J : Nat → Nat → Int) : Prop := J (tb kd) 6 = b01 (zsh g kd t y) ∧ J (tb kd) 7 = b01 (zac g kd t y) ∧ J (tb kd) 8 = (zct g kd t y : Int) ∧ J (tb kd) 9 = zlo g kd t y
def CLV (lv sd : Nat → Int) (J : Nat → Nat → Int) : Prop := LVR lv sd ∧ ∀ y, y < 8 → J 61 y = lv y ∧ J 62 y = sd y
section CA_
variable {u : Nat} {n : Nat} {L : Nat → Nat → Int} {g : GT}
theorem X4_lastTerminal (hn : 1000000000000000000000000000000 ≤ n) {J : Nat → Nat → Int} (hw : GW (gU u) J) (hcg : cG J (gU u) = g) {q : Nat} (hq : q < Gn g) : f_X4_lastTerminal n (gU u) (q : Int) (hp u J L) = some (zlt g q (Gl g q)) := by
  have hg : GR g := hcg ▸ GR_of hw
  have h5 := hg.2.2.2.1 q
  have h24 := hg.1
  have hm := gU_mem u
  have key : ∀ k f, k < f → k ≤ Gl g q → l_X4_lastTerminal_8 n f (gU u) (q : Int) ((k : Int) - 1) (hp u J L) = some (zlt g q k) := by
    intro k
    induction k with
    | zero =>
      intro f hf _
      obtain ⟨f', rfl⟩ : ∃ f', f = f' + 1 := ⟨f - 1, by omega⟩
      have e : ((0 : Nat) : Int) - 1 = -1 := rfl
      rw [e]
      simp (disch := omega) only [l_X4_lastTerminal_8, b_X4_lastTerminal_8, Option.bind_some, ↓nm_eq, ↓sm_inl, ↓sm_inr, ↓dzo_0, ↓dzo_1, ↓drg_ok, ↓if_pos, ↓if_neg, if_pos, if_neg, if_true, if_false, Int.toNat_natCast, rg_ok]
      rfl
    | succ k ih =>
      intro f hf hk
      obtain ⟨f', rfl⟩ : ∃ f', f = f' + 1 := ⟨f - 1, by omega⟩
      have e : ((k + 1 : Nat) : Int) - 1 = (k : Int) := by omega
      have es := X4_symbol (u := u) (L := L) (I := J) hm hw (p := q) (k := k) (by rw [hcg]; omega)
      rw [hcg] at es
      have hsr := hg.2.2.2.2.2 q k (by omega)
      have ek : (k : Int) + -1 = (k : Int) - 1 := by omega
      rw [e]
      by_cases c : Gs g q k < 16
      · have et := X11_isT1 (Gs g q k) (by omega) (hp u J L)
        rw [zlt_s, if_pos c]
        simp (disch := omega) only [l_X4_lastTerminal_8, b_X4_lastTerminal_8, b_X4_lastTerminal_24, ↓dhi_G hm, ↓dhG_G_0 hm, ↓dhG_G_1 hm, ↓dhG_G_2 hm, ↓dhg_G_3 hm, ↓dhq_G_3 hm, ↓dhG_G_4 hm, ↓dhG_G_5 hm, ↓dhg_G_6 hm, ↓dhq_G_6 hm, ↓dhg_G_7 hm, ↓dhq_G_7 hm, ↓dhG_G_8 hm, ↓dhG_G_9 hm, ↓dha_G_1 hm, ↓dhs_G_1 hm, ↓dhl_G_1 hm, ↓dha_G_2 hm, ↓dhs_G_2 hm, ↓dhl_G_2 hm, ↓dha_G_3 hm, ↓dhs_G_3 hm, ↓dhl_G_3 hm, ↓dha_G_4 hm, ↓dhl_G_4 hm, ↓dha_G_5 hm, ↓dhs_G_5 hm, ↓dhl_G_5 hm, Option.bind_some, ↓nm_eq, ↓sm_inl, ↓sm_inr, ↓dzo_0, ↓dzo_1, ↓drg_ok, ↓if_pos, ↓if_neg, if_pos, if_neg, if_true, if_false, Int.toNat_natCast, rg_ok, ↓bnd es, ↓bnd et]
      · have et := X11_isT0 (Gs g q k) (by omega) (by omega) (hp u J L)
        have ih' := ih f' (by omega) (by omega)
        rw [zlt_s, if_neg c]
        simp (disch := omega) only [l_X4_lastTerminal_8, b_X4_lastTerminal_8, b_X4_lastTerminal_24, ↓dhi_G hm, ↓dhG_G_0 hm, ↓dhG_G_1 hm, ↓dhG_G_2 hm, ↓dhg_G_3 hm, ↓dhq_G_3 hm, ↓dhG_G_4 hm, ↓dhG_G_5 hm, ↓dhg_G_6 hm, ↓dhq_G_6 hm, ↓dhg_G_7 hm, ↓dhq_G_7 hm, ↓dhG_G_8 hm, ↓dhG_G_9 hm, ↓dha_G_1 hm, ↓dhs_G_1 hm, ↓dhl_G_1 hm, ↓dha_G_2 hm, ↓dhs_G_2 hm, ↓dhl_G_2 hm, ↓dha_G_3 hm, ↓dhs_G_3 hm, ↓dhl_G_3 hm, ↓dha_G_4 hm, ↓dhl_G_4 hm, ↓dha_G_5 hm, ↓dhs_G_5 hm, ↓dhl_G_5 hm, Option.bind_some, ↓nm_eq, ↓sm_inl, ↓sm_inr, ↓dzo_0, ↓dzo_1, ↓drg_ok, ↓if_pos, ↓if_neg, if_pos, if_neg, if_true, if_false, Int.toNat_natCast, rg_ok, ↓bnd es, ↓bnd et, ek, ih']
  have el := X4_length (u := u) (L := L) hm hw (p := q) (by omega)
  rw [hcg] at el
  have := key (Gl g q) n (by omega) (Nat.le_refl _)
  simp (disch := omega) only [f_X4_lastTerminal, ↓dhi_G hm, ↓dhG_G_0 hm, ↓dhG_G_1 hm, ↓dhG_G_2 hm, ↓dhg_G_3 hm, ↓dhq_G_3 hm, ↓dhG_G_4 hm, ↓dhG_G_5 hm, ↓dhg_G_6 hm, ↓dhq_G_6 hm, ↓dhg_G_7 hm, ↓dhq_G_7 hm, ↓dhG_G_8 hm, ↓dhG_G_9 hm, ↓dha_G_1 hm, ↓dhs_G_1 hm, ↓dhl_G_1 hm, ↓dha_G_2 hm, ↓dhs_G_2 hm, ↓dhl_G_2 hm, ↓dha_G_3 hm, ↓dhs_G_3 hm, ↓dhl_G_3 hm, ↓dha_G_4 hm, ↓dhl_G_4 hm, ↓dha_G_5 hm, ↓dhs_G_5 hm, ↓dhl_G_5 hm, Option.bind_some, ↓nm_eq, ↓sm_inl, ↓sm_inr, ↓dzo_0, ↓dzo_1, ↓drg_ok, ↓if_pos, ↓if_neg, if_pos, if_neg, if_true, if_false, Int.toNat_natCast, rg_ok, ↓bnd el, this]
theorem X9_levelOf {kd : Nat} (hk : 1 ≤ kd ∧ kd ≤ 3) {lv sd : Nat → Int} {J : Nat → Nat → Int} (hl : CLV lv sd J) {x : Int} (hx : -1 ≤ x ∧ x < 8) : f_X9_levelOf (tb kd) x (hp u J L) = some (zlv lv x) := by
  obtain ⟨hv, -⟩ := tb_m hk
  unfold zlv
  by_cases c : x < 0
  · rw [if_pos c]
    simp (disch := omega) only [f_X9_levelOf, b_X9_levelOf_22, Option.bind_some, ↓nm_eq, ↓sm_inl, ↓sm_inr, ↓dzo_0, ↓dzo_1, ↓drg_ok, ↓if_pos, ↓if_neg, if_pos, if_neg, if_true, if_false, Int.toNat_natCast, rg_ok]
  · rw [if_neg c]
    have e := (hl.2 x.toNat (by omega)).1
    simp (disch := omega) only [f_X9_levelOf, b_X9_levelOf_22, ↓dhi_S hv, ↓dhg_S_0 hv, ↓dhq_S_0 hv, ↓dhG_S_1 hv, ↓dhg_S_2 hv, ↓dhq_S_2 hv, ↓dhG_S_3 hv, ↓dhG_S_4 hv, ↓dhG_S_5 hv, ↓dhg_S_6 hv, ↓dhq_S_6 hv, ↓dhg_S_7 hv, ↓dhq_S_7 hv, ↓dhg_S_8 hv, ↓dhq_S_8 hv, ↓dhg_S_9 hv, ↓dhq_S_9 hv, ↓dhG_S_10 hv, ↓dhG_S_11 hv, ↓dhg_S_12 hv, ↓dhq_S_12 hv, ↓dha_S_1 hv, ↓dhs_S_1 hv, ↓dhl_S_1 hv, ↓dha_S_2 hv, ↓dhs_S_2 hv, ↓dhl_S_2 hv, ↓dha_61, ↓dhs_61, ↓dhl_61, Option.bind_some, ↓nm_eq, ↓sm_inl, ↓sm_inr, ↓dzo_0, ↓dzo_1, ↓drg_ok, ↓if_pos, ↓if_neg, if_pos, if_neg, if_true, if_false, Int.toNat_natCast, rg_ok, e]
theorem X9_levelOfLowest (hn : 1000000000000000000000000000000 ≤ n) {kd : Nat} (hk : 1 ≤ kd ∧ kd ≤ 3) {lv sd : Nat → Int} {J : Nat → Nat → Int} (hl : CLV lv sd J) (hw : GW (gU u) J) (hcg : cG J (gU u) = g) {t y q : Nat} (hc : CRD g kd t y J) (hq : q < Gn g) (hlo : zlo g kd t y = (q : Int)) : f_X9_levelOfLowest n (tb kd) (hp u J L) = some (zlp2 g lv (q : Int)) := by
  obtain ⟨hv, hva⟩ := tb_m hk
  have hg : GR g := hcg ▸ GR_of hw
  have h24 := hg.1
  have hA : gi_is (hp u J L) (va (kb kd)) 0 = some () := hi_A (va_m (kb kd))
  have hA0 : f_X0_facts (va (kb kd)) (hp u J L) = some 64 := by
    simp only [f_X0_facts, hG_A_0 (va_m (kb kd)), Option.bind_some]
  have hm := gU_mem u
  have e9 : J (tb kd) 9 = (q : Int) := hc.2.2.2.trans hlo
  have et := X4_lastTerminal (u := u) (L := L) hn hw hcg hq
  have hz := zlt_rg hg (q := q) (Gl g q) (Nat.le_refl _)
  have el := X9_levelOf (u := u) (L := L) hk hl (x := zlt g q (Gl g q)) (by omega)
  have hz2 : zlv lv (zlt g q (Gl g q)) = zlp2 g lv (q : Int) := by unfold zlp2; rw [Int.toNat_natCast]
  rw [hz2] at el
  simp (disch := omega) only [f_X9_levelOfLowest, ↓dhi_F, ↓dhG_F_0, ↓dhg_F_1, ↓dhq_F_1, ↓dhg_F_2, ↓dhq_F_2, ↓dhg_F_3, ↓dhq_F_3, ↓dhg_F_4, ↓dhq_F_4, ↓dhG_F_5, ↓dhG_F_6, ↓dhG_F_7, ↓dhG_F_8, ↓dhG_F_9, ↓dhg_F_10, ↓dhq_F_10, ↓dhG_F_11, ↓dhG_F_12, ↓dhG_F_13, ↓dhi_S hv, ↓dhg_S_0 hv, ↓dhq_S_0 hv, ↓dhG_S_1 hv, ↓dhg_S_2 hv, ↓dhq_S_2 hv, ↓dhG_S_3 hv, ↓dhG_S_4 hv, ↓dhG_S_5 hv, ↓dhg_S_6 hv, ↓dhq_S_6 hv, ↓dhg_S_7 hv, ↓dhq_S_7 hv, ↓dhg_S_8 hv, ↓dhq_S_8 hv, ↓dhg_S_9 hv, ↓dhq_S_9 hv, ↓dhG_S_10 hv, ↓dhG_S_11 hv, ↓dhg_S_12 hv, ↓dhq_S_12 hv, ↓dha_S_1 hv, ↓dhs_S_1 hv, ↓dhl_S_1 hv, ↓dha_S_2 hv, ↓dhs_S_2 hv, ↓dhl_S_2 hv, ↓dhi_G hm, ↓dhG_G_0 hm, ↓dhG_G_1 hm, ↓dhG_G_2 hm, ↓dhg_G_3 hm, ↓dhq_G_3 hm, ↓dhG_G_4 hm, ↓dhG_G_5 hm, ↓dhg_G_6 hm, ↓dhq_G_6 hm, ↓dhg_G_7 hm, ↓dhq_G_7 hm, ↓dhG_G_8 hm, ↓dhG_G_9 hm, ↓dha_G_1 hm, ↓dhs_G_1 hm, ↓dhl_G_1 hm, ↓dha_G_2 hm, ↓dhs_G_2 hm, ↓dhl_G_2 hm, ↓dha_G_3 hm, ↓dhs_G_3 hm, ↓dhl_G_3 hm, ↓dha_G_4 hm, ↓dhl_G_4 hm, ↓dha_G_5 hm, ↓dhs_G_5 hm, ↓dhl_G_5 hm, Option.bind_some, ↓nm_eq, ↓sm_inl, ↓sm_inr, ↓dzo_0, ↓dzo_1, ↓drg_ok, ↓if_pos, ↓if_neg, if_pos, if_neg, if_true, if_false, Int.toNat_natCast, rg_ok, hva, ↓bnd hA, ↓bnd hA0, ↓bnd X3_grammar, e9, ↓bnd et, ↓bnd el]
theorem zst_iff {kd : Nat} {lv : Nat → Int} {t y : Nat} : zst g kd lv t y = true ↔ zsh g kd t y = true ∧ zac g kd t y = false ∧ zct g kd t y = 1 ∧ 0 < lv y ∧ 0 < zlp2 g lv (zlo g kd t y) := by
  unfold zst
  simp only [Bool.and_eq_true, Bool.not_eq_true', decide_eq_true_eq]
  exact ⟨fun ⟨⟨⟨⟨a, b⟩, c⟩, d⟩, e⟩ => ⟨a, b, c, d, e⟩, fun ⟨a, b, c, d, e⟩ => ⟨⟨⟨⟨a, b⟩, c⟩, d⟩, e⟩⟩
theorem X9_isConflict {kd : Nat} (hk : 1 ≤ kd ∧ kd ≤ 3) {J : Nat → Nat → Int} {t y : Nat} (hg : GR g) (hc : CRD g kd t y J) : f_X9_isConflict (tb kd) (hp u J L) = some (if ztt g kd t y ≤ 1 then 0 else 1) := by
  obtain ⟨hv, -⟩ := tb_m hk
  obtain ⟨c6, c7, c8, c9⟩ := hc
  have hct : zct g kd t y ≤ 24 := by have := cU_le (f := zfr g kd t y) (N := Gn g) (Gn g); have := hg.1; unfold zct; omega
  have e : ztt g kd t y = b01 (zsh g kd t y) + b01 (zac g kd t y) + (zct g kd t y : Int) := rfl
  rcases b01_rg (zsh g kd t y) with z1 | z1 <;> rcases b01_rg (zac g kd t y) with z2 | z2
  all_goals
    rw [z1] at c6 e
    rw [z2] at c7 e
    by_cases c : ztt g kd t y ≤ 1
    · rw [if_pos c]
      simp (disch := omega) only [f_X9_isConflict, b_X9_isConflict_12, b_X9_isConflict_24, ↓dhi_S hv, ↓dhg_S_0 hv, ↓dhq_S_0 hv, ↓dhG_S_1 hv, ↓dhg_S_2 hv, ↓dhq_S_2 hv, ↓dhG_S_3 hv, ↓dhG_S_4 hv, ↓dhG_S_5 hv, ↓dhg_S_6 hv, ↓dhq_S_6 hv, ↓dhg_S_7 hv, ↓dhq_S_7 hv, ↓dhg_S_8 hv, ↓dhq_S_8 hv, ↓dhg_S_9 hv, ↓dhq_S_9 hv, ↓dhG_S_10 hv, ↓dhG_S_11 hv, ↓dhg_S_12 hv, ↓dhq_S_12 hv, ↓dha_S_1 hv, ↓dhs_S_1 hv, ↓dhl_S_1 hv, ↓dha_S_2 hv, ↓dhs_S_2 hv, ↓dhl_S_2 hv, Option.bind_some, ↓nm_eq, ↓sm_inl, ↓sm_inr, ↓dzo_0, ↓dzo_1, ↓drg_ok, ↓if_pos, ↓if_neg, if_pos, if_neg, if_true, if_false, Int.toNat_natCast, rg_ok, c6, c7, c8]
    · rw [if_neg c]
      simp (disch := omega) only [f_X9_isConflict, b_X9_isConflict_12, b_X9_isConflict_24, ↓dhi_S hv, ↓dhg_S_0 hv, ↓dhq_S_0 hv, ↓dhG_S_1 hv, ↓dhg_S_2 hv, ↓dhq_S_2 hv, ↓dhG_S_3 hv, ↓dhG_S_4 hv, ↓dhG_S_5 hv, ↓dhg_S_6 hv, ↓dhq_S_6 hv, ↓dhg_S_7 hv, ↓dhq_S_7 hv, ↓dhg_S_8 hv, ↓dhq_S_8 hv, ↓dhg_S_9 hv, ↓dhq_S_9 hv, ↓dhG_S_10 hv, ↓dhG_S_11 hv, ↓dhg_S_12 hv, ↓dhq_S_12 hv, ↓dha_S_1 hv, ↓dhs_S_1 hv, ↓dhl_S_1 hv, ↓dha_S_2 hv, ↓dhs_S_2 hv, ↓dhl_S_2 hv, Option.bind_some, ↓nm_eq, ↓sm_inl, ↓sm_inr, ↓dzo_0, ↓dzo_1, ↓drg_ok, ↓if_pos, ↓if_neg, if_pos, if_neg, if_true, if_false, Int.toNat_natCast, rg_ok, c6, c7, c8]
theorem X9_isSettled (hn : 1000000000000000000000000000000 ≤ n) {kd : Nat} (hk : 1 ≤ kd ∧ kd ≤ 3) {lv sd : Nat → Int} {J : Nat → Nat → Int} (hl : CLV lv sd J) (hw : GW (gU u) J) (hcg : cG J (gU u) = g) {t y : Nat} (hy : y < 9) (hc : CRD g kd t y J) : f_X9_isSettled n (tb kd) (y : Int) (hp u J L) = some (b01 (zst g kd lv t y)) := by
  obtain ⟨hv, -⟩ := tb_m hk
  have hg : GR g := hcg ▸ GR_of hw
  obtain ⟨c6, c7, c8, c9⟩ := id hc
  have hct : zct g kd t y ≤ 24 := by have := cU_le (f := zfr g kd t y) (N := Gn g) (Gn g); have := hg.1; unfold zct; omega
  have no : ∀ q : zst g kd lv t y ≠ true, b01 (zst g kd lv t y) = 0 := fun q => if_neg q
  by_cases h1 : zsh g kd t y = true
  · rw [h1, b01_t] at c6
    by_cases h2 : zac g kd t y = true
    · rw [h2, b01_t] at c7
      rw [no (fun q => by rw [(zst_iff.mp q).2.1] at h2; exact absurd h2 (by decide))]
      simp (disch := omega) only [f_X9_isSettled, b_X9_isSettled_41, ↓dhi_S hv, ↓dhg_S_0 hv, ↓dhq_S_0 hv, ↓dhG_S_1 hv, ↓dhg_S_2 hv, ↓dhq_S_2 hv, ↓dhG_S_3 hv, ↓dhG_S_4 hv, ↓dhG_S_5 hv, ↓dhg_S_6 hv, ↓dhq_S_6 hv, ↓dhg_S_7 hv, ↓dhq_S_7 hv, ↓dhg_S_8 hv, ↓dhq_S_8 hv, ↓dhg_S_9 hv, ↓dhq_S_9 hv, ↓dhG_S_10 hv, ↓dhG_S_11 hv, ↓dhg_S_12 hv, ↓dhq_S_12 hv, ↓dha_S_1 hv, ↓dhs_S_1 hv, ↓dhl_S_1 hv, ↓dha_S_2 hv, ↓dhs_S_2 hv, ↓dhl_S_2 hv, Option.bind_some, ↓nm_eq, ↓sm_inl, ↓sm_inr, ↓dzo_0, ↓dzo_1, ↓drg_ok, ↓if_pos, ↓if_neg, if_pos, if_neg, if_true, if_false, Int.toNat_natCast, rg_ok, c6, c7]
    · have h2' : zac g kd t y = false := by simpa using h2
      rw [h2', b01_f] at c7
      by_cases h3 : zct g kd t y = 1
      · have c8' : J (tb kd) 8 = 1 := by rw [c8, h3]; rfl
        obtain ⟨q, hq1, hq2, -, -⟩ : ∃ p : Nat, zlo g kd t y = (p : Int) ∧ p < Gn g ∧ zrd g kd t p y ∧ 1 ≤ zct g kd t y := zlo_rg.elim (fun z => by omega) id
        have hy8 : y < 8 := (zdb_t.mp h1).1
        have el := X9_levelOf (u := u) (L := L) hk hl (x := (y : Int)) (by omega)
        have ely : zlv lv (y : Int) = lv y := by unfold zlv; rw [if_neg (by omega), Int.toNat_natCast]
        rw [ely] at el
        have ell := X9_levelOfLowest (u := u) (L := L) hn hk hl hw hcg hc hq2 hq1
        have hr := (hl.1 y hy8).1
        have hr2 := zlp2_rg (g := g) hg hl.1 q
        by_cases h4 : 0 < lv y
        · by_cases h5 : 0 < zlp2 g lv (q : Int)
          · have hz : b01 (zst g kd lv t y) = 1 := if_pos (zst_iff.mpr ⟨h1, h2', h3, h4, by rw [hq1]; exact h5⟩)
            rw [hz]
            simp (disch := omega) only [f_X9_isSettled, b_X9_isSettled_41, ↓dhi_S hv, ↓dhg_S_0 hv, ↓dhq_S_0 hv, ↓dhG_S_1 hv, ↓dhg_S_2 hv, ↓dhq_S_2 hv, ↓dhG_S_3 hv, ↓dhG_S_4 hv, ↓dhG_S_5 hv, ↓dhg_S_6 hv, ↓dhq_S_6 hv, ↓dhg_S_7 hv, ↓dhq_S_7 hv, ↓dhg_S_8 hv, ↓dhq_S_8 hv, ↓dhg_S_9 hv, ↓dhq_S_9 hv, ↓dhG_S_10 hv, ↓dhG_S_11 hv, ↓dhg_S_12 hv, ↓dhq_S_12 hv, ↓dha_S_1 hv, ↓dhs_S_1 hv, ↓dhl_S_1 hv, ↓dha_S_2 hv, ↓dhs_S_2 hv, ↓dhl_S_2 hv, Option.bind_some, ↓nm_eq, ↓sm_inl, ↓sm_inr, ↓dzo_0, ↓dzo_1, ↓drg_ok, ↓if_pos, ↓if_neg, if_pos, if_neg, if_true, if_false, Int.toNat_natCast, rg_ok, ↓bnd el, ↓bnd ell, c6, c7, c8']
          · rw [no (fun z => h5 (by have := (zst_iff.mp z).2.2.2.2; rwa [hq1] at this))]
            simp (disch := omega) only [f_X9_isSettled, b_X9_isSettled_41, ↓dhi_S hv, ↓dhg_S_0 hv, ↓dhq_S_0 hv, ↓dhG_S_1 hv, ↓dhg_S_2 hv, ↓dhq_S_2 hv, ↓dhG_S_3 hv, ↓dhG_S_4 hv, ↓dhG_S_5 hv, ↓dhg_S_6 hv, ↓dhq_S_6 hv, ↓dhg_S_7 hv, ↓dhq_S_7 hv, ↓dhg_S_8 hv, ↓dhq_S_8 hv, ↓dhg_S_9 hv, ↓dhq_S_9 hv, ↓dhG_S_10 hv, ↓dhG_S_11 hv, ↓dhg_S_12 hv, ↓dhq_S_12 hv, ↓dha_S_1 hv, ↓dhs_S_1 hv, ↓dhl_S_1 hv, ↓dha_S_2 hv, ↓dhs_S_2 hv, ↓dhl_S_2 hv, Option.bind_some, ↓nm_eq, ↓sm_inl, ↓sm_inr, ↓dzo_0, ↓dzo_1, ↓drg_ok, ↓if_pos, ↓if_neg, if_pos, if_neg, if_true, if_false, Int.toNat_natCast, rg_ok, ↓bnd el, ↓bnd ell, c6, c7, c8']
        · rw [no (fun z => h4 (zst_iff.mp z).2.2.2.1)]
          simp (disch := omega) only [f_X9_isSettled, b_X9_isSettled_41, ↓dhi_S hv, ↓dhg_S_0 hv, ↓dhq_S_0 hv, ↓dhG_S_1 hv, ↓dhg_S_2 hv, ↓dhq_S_2 hv, ↓dhG_S_3 hv, ↓dhG_S_4 hv, ↓dhG_S_5 hv, ↓dhg_S_6 hv, ↓dhq_S_6 hv, ↓dhg_S_7 hv, ↓dhq_S_7 hv, ↓dhg_S_8 hv, ↓dhq_S_8 hv, ↓dhg_S_9 hv, ↓dhq_S_9 hv, ↓dhG_S_10 hv, ↓dhG_S_11 hv, ↓dhg_S_12 hv, ↓dhq_S_12 hv, ↓dha_S_1 hv, ↓dhs_S_1 hv, ↓dhl_S_1 hv, ↓dha_S_2 hv, ↓dhs_S_2 hv, ↓dhl_S_2 hv, Option.bind_some, ↓nm_eq, ↓sm_inl, ↓sm_inr, ↓dzo_0, ↓dzo_1, ↓drg_ok, ↓if_pos, ↓if_neg, if_pos, if_neg, if_true, if_false, Int.toNat_natCast, rg_ok, ↓bnd el, c6, c7, c8']
      · rw [no (fun z => h3 (zst_iff.mp z).2.2.1)]
        simp (disch := omega) only [f_X9_isSettled, b_X9_isSettled_41, ↓dhi_S hv, ↓dhg_S_0 hv, ↓dhq_S_0 hv, ↓dhG_S_1 hv, ↓dhg_S_2 hv, ↓dhq_S_2 hv, ↓dhG_S_3 hv, ↓dhG_S_4 hv, ↓dhG_S_5 hv, ↓dhg_S_6 hv, ↓dhq_S_6 hv, ↓dhg_S_7 hv, ↓dhq_S_7 hv, ↓dhg_S_8 hv, ↓dhq_S_8 hv, ↓dhg_S_9 hv, ↓dhq_S_9 hv, ↓dhG_S_10 hv, ↓dhG_S_11 hv, ↓dhg_S_12 hv, ↓dhq_S_12 hv, ↓dha_S_1 hv, ↓dhs_S_1 hv, ↓dhl_S_1 hv, ↓dha_S_2 hv, ↓dhs_S_2 hv, ↓dhl_S_2 hv, Option.bind_some, ↓nm_eq, ↓sm_inl, ↓sm_inr, ↓dzo_0, ↓dzo_1, ↓drg_ok, ↓if_pos, ↓if_neg, if_pos, if_neg, if_true, if_false, Int.toNat_natCast, rg_ok, c6, c7, c8]
  · rw [no (fun z => h1 (zst_iff.mp z).1)]
    have h1' : zsh g kd t y = false := by simpa using h1
    rw [h1', b01_f] at c6
    simp (disch := omega) only [f_X9_isSettled, b_X9_isSettled_41, ↓dhi_S hv, ↓dhg_S_0 hv, ↓dhq_S_0 hv, ↓dhG_S_1 hv, ↓dhg_S_2 hv, ↓dhq_S_2 hv, ↓dhG_S_3 hv, ↓dhG_S_4 hv, ↓dhG_S_5 hv, ↓dhg_S_6 hv, ↓dhq_S_6 hv, ↓dhg_S_7 hv, ↓dhq_S_7 hv, ↓dhg_S_8 hv, ↓dhq_S_8 hv, ↓dhg_S_9 hv, ↓dhq_S_9 hv, ↓dhG_S_10 hv, ↓dhG_S_11 hv, ↓dhg_S_12 hv, ↓dhq_S_12 hv, ↓dha_S_1 hv, ↓dhs_S_1 hv, ↓dhl_S_1 hv, ↓dha_S_2 hv, ↓dhs_S_2 hv, ↓dhl_S_2 hv, Option.bind_some, ↓nm_eq, ↓sm_inl, ↓sm_inr, ↓dzo_0, ↓dzo_1, ↓drg_ok, ↓if_pos, ↓if_neg, if_pos, if_neg, if_true, if_false, Int.toNat_natCast, rg_ok, c6]
theorem X9_settledAction (hn : 1000000000000000000000000000000 ≤ n) {kd : Nat} (hk : 1 ≤ kd ∧ kd ≤ 3) {lv sd : Nat → Int} {J : Nat → Nat → Int} (hl : CLV lv sd J) (hw : GW (gU u) J) (hcg : cG J (gU u) = g) {t y : Nat} (hc : CRD g kd t y J) (hz : zst g kd lv t y = true) : f_X9_settledAction n (tb kd) (y : Int) (hp u J L) = some (zat g kd lv sd t y) := by
  obtain ⟨hv, -⟩ := tb_m hk
  have hg : GR g := hcg ▸ GR_of hw
  obtain ⟨c6, c7, c8, c9⟩ := id hc
  obtain ⟨h1, h2, h3, h4, h5⟩ := zst_iff.mp hz
  obtain ⟨q, hq1, hq2, -, -⟩ : ∃ p : Nat, zlo g kd t y = (p : Int) ∧ p < Gn g ∧ zrd g kd t p y ∧ 1 ≤ zct g kd t y := zlo_rg.elim (fun z => by omega) id
  have hy8 : y < 8 := (zdb_t.mp h1).1
  have el := X9_levelOf (u := u) (L := L) hk hl (x := (y : Int)) (by omega)
  have ely : zlv lv (y : Int) = lv y := by unfold zlv; rw [if_neg (by omega), Int.toNat_natCast]
  rw [ely] at el
  have ell := X9_levelOfLowest (u := u) (L := L) hn hk hl hw hcg hc hq2 hq1
  obtain ⟨hr, hs⟩ := hl.1 y hy8
  obtain ⟨hly, hsy⟩ := hl.2 y hy8
  have hr2 := zlp2_rg (g := g) hg hl.1 q
  unfold zat
  rw [if_pos hz]
  rw [hq1] at c9 ⊢
  by_cases d1 : zlp2 g lv (q : Int) = lv y
  · rw [if_pos d1]
    by_cases d2 : sd y = 2
    · rw [if_pos d2]
      simp (disch := omega) only [f_X9_settledAction, b_X9_settledAction_52, ↓dhi_S hv, ↓dhg_S_0 hv, ↓dhq_S_0 hv, ↓dhG_S_1 hv, ↓dhg_S_2 hv, ↓dhq_S_2 hv, ↓dhG_S_3 hv, ↓dhG_S_4 hv, ↓dhG_S_5 hv, ↓dhg_S_6 hv, ↓dhq_S_6 hv, ↓dhg_S_7 hv, ↓dhq_S_7 hv, ↓dhg_S_8 hv, ↓dhq_S_8 hv, ↓dhg_S_9 hv, ↓dhq_S_9 hv, ↓dhG_S_10 hv, ↓dhG_S_11 hv, ↓dhg_S_12 hv, ↓dhq_S_12 hv, ↓dha_S_1 hv, ↓dhs_S_1 hv, ↓dhl_S_1 hv, ↓dha_S_2 hv, ↓dhs_S_2 hv, ↓dhl_S_2 hv, ↓dha_62, ↓dhs_62, ↓dhl_62, Option.bind_some, ↓nm_eq, ↓sm_inl, ↓sm_inr, ↓dzo_0, ↓dzo_1, ↓drg_ok, ↓if_pos, ↓if_neg, if_pos, if_neg, if_true, if_false, Int.toNat_natCast, rg_ok, ↓bnd el, ↓bnd ell, hsy, c9]
    · rw [if_neg d2]
      by_cases d3 : sd y = 0
      · rw [if_pos d3]
        simp (disch := omega) only [f_X9_settledAction, b_X9_settledAction_52, ↓dhi_S hv, ↓dhg_S_0 hv, ↓dhq_S_0 hv, ↓dhG_S_1 hv, ↓dhg_S_2 hv, ↓dhq_S_2 hv, ↓dhG_S_3 hv, ↓dhG_S_4 hv, ↓dhG_S_5 hv, ↓dhg_S_6 hv, ↓dhq_S_6 hv, ↓dhg_S_7 hv, ↓dhq_S_7 hv, ↓dhg_S_8 hv, ↓dhq_S_8 hv, ↓dhg_S_9 hv, ↓dhq_S_9 hv, ↓dhG_S_10 hv, ↓dhG_S_11 hv, ↓dhg_S_12 hv, ↓dhq_S_12 hv, ↓dha_S_1 hv, ↓dhs_S_1 hv, ↓dhl_S_1 hv, ↓dha_S_2 hv, ↓dhs_S_2 hv, ↓dhl_S_2 hv, ↓dha_62, ↓dhs_62, ↓dhl_62, Option.bind_some, ↓nm_eq, ↓sm_inl, ↓sm_inr, ↓dzo_0, ↓dzo_1, ↓drg_ok, ↓if_pos, ↓if_neg, if_pos, if_neg, if_true, if_false, Int.toNat_natCast, rg_ok, ↓bnd el, ↓bnd ell, hsy, c9]
      · rw [if_neg d3]
        simp (disch := omega) only [f_X9_settledAction, b_X9_settledAction_52, ↓dhi_S hv, ↓dhg_S_0 hv, ↓dhq_S_0 hv, ↓dhG_S_1 hv, ↓dhg_S_2 hv, ↓dhq_S_2 hv, ↓dhG_S_3 hv, ↓dhG_S_4 hv, ↓dhG_S_5 hv, ↓dhg_S_6 hv, ↓dhq_S_6 hv, ↓dhg_S_7 hv, ↓dhq_S_7 hv, ↓dhg_S_8 hv, ↓dhq_S_8 hv, ↓dhg_S_9 hv, ↓dhq_S_9 hv, ↓dhG_S_10 hv, ↓dhG_S_11 hv, ↓dhg_S_12 hv, ↓dhq_S_12 hv, ↓dha_S_1 hv, ↓dhs_S_1 hv, ↓dhl_S_1 hv, ↓dha_S_2 hv, ↓dhs_S_2 hv, ↓dhl_S_2 hv, ↓dha_62, ↓dhs_62, ↓dhl_62, Option.bind_some, ↓nm_eq, ↓sm_inl, ↓sm_inr, ↓dzo_0, ↓dzo_1, ↓drg_ok, ↓if_pos, ↓if_neg, if_pos, if_neg, if_true, if_false, Int.toNat_natCast, rg_ok, ↓bnd el, ↓bnd ell, hsy, c9]
  · rw [if_neg d1]
    by_cases d2 : zlp2 g lv (q : Int) < lv y
    · rw [if_pos d2]
      simp (disch := omega) only [f_X9_settledAction, b_X9_settledAction_52, ↓dhi_S hv, ↓dhg_S_0 hv, ↓dhq_S_0 hv, ↓dhG_S_1 hv, ↓dhg_S_2 hv, ↓dhq_S_2 hv, ↓dhG_S_3 hv, ↓dhG_S_4 hv, ↓dhG_S_5 hv, ↓dhg_S_6 hv, ↓dhq_S_6 hv, ↓dhg_S_7 hv, ↓dhq_S_7 hv, ↓dhg_S_8 hv, ↓dhq_S_8 hv, ↓dhg_S_9 hv, ↓dhq_S_9 hv, ↓dhG_S_10 hv, ↓dhG_S_11 hv, ↓dhg_S_12 hv, ↓dhq_S_12 hv, ↓dha_S_1 hv, ↓dhs_S_1 hv, ↓dhl_S_1 hv, ↓dha_S_2 hv, ↓dhs_S_2 hv, ↓dhl_S_2 hv, ↓dha_62, ↓dhs_62, ↓dhl_62, Option.bind_some, ↓nm_eq, ↓sm_inl, ↓sm_inr, ↓dzo_0, ↓dzo_1, ↓drg_ok, ↓if_pos, ↓if_neg, if_pos, if_neg, if_true, if_false, Int.toNat_natCast, rg_ok, ↓bnd el, ↓bnd ell, c9]
    · rw [if_neg d2]
      simp (disch := omega) only [f_X9_settledAction, b_X9_settledAction_52, ↓dhi_S hv, ↓dhg_S_0 hv, ↓dhq_S_0 hv, ↓dhG_S_1 hv, ↓dhg_S_2 hv, ↓dhq_S_2 hv, ↓dhG_S_3 hv, ↓dhG_S_4 hv, ↓dhG_S_5 hv, ↓dhg_S_6 hv, ↓dhq_S_6 hv, ↓dhg_S_7 hv, ↓dhq_S_7 hv, ↓dhg_S_8 hv, ↓dhq_S_8 hv, ↓dhg_S_9 hv, ↓dhq_S_9 hv, ↓dhG_S_10 hv, ↓dhG_S_11 hv, ↓dhg_S_12 hv, ↓dhq_S_12 hv, ↓dha_S_1 hv, ↓dhs_S_1 hv, ↓dhl_S_1 hv, ↓dha_S_2 hv, ↓dhs_S_2 hv, ↓dhl_S_2 hv, ↓dha_62, ↓dhs_62, ↓dhl_62, Option.bind_some, ↓nm_eq, ↓sm_inl, ↓sm_inr, ↓dzo_0, ↓dzo_1, ↓drg_ok, ↓if_pos, ↓if_neg, if_pos, if_neg, if_true, if_false, Int.toNat_natCast, rg_ok, ↓bnd el, ↓bnd ell, c9]
theorem tb_ne {kd : Nat} (hk : 1 ≤ kd ∧ kd ≤ 3) : (∀ a, a ∈ CKL → a ∉ [tb kd]) ∧ 61 ≠ tb kd ∧ 62 ≠ tb kd ∧ 63 ≠ tb kd ∧ 0 ≠ tb kd := by
  have : kd = 1 ∨ kd = 2 ∨ kd = 3 := by omega
  rcases this with rfl | rfl | rfl <;> decide
/-- a table that has been read or run, but is the same -/
theorem CTB.own {kd : Nat} {J J' L : Nat → Nat → Int} (h : CTB u g kd J L) (hk : 1 ≤ kd ∧ kd ≤ 3) (f : Fr [tb kd] J J') (q2 : J' (tb kd) 2 = J (tb kd) 2) : CTB u g kd J' L := by
  refine h.fr f (tb_ne hk).1 (fun a ha => ?_) rfl
  by_cases c : a = tb kd
  · rw [c]; exact q2
  · rw [f a (by simpa using c)]
theorem CLV.fr {lv sd : Nat → Int} {J J' : Nat → Nat → Int} (h : CLV lv sd J) (e1 : J' 61 = J 61) (e2 : J' 62 = J 62) : CLV lv sd J' := by
  unfold CLV; rw [e1, e2]; exact h
/-- an action is found -/
theorem X9_action (hn : 1000000000000000000000000000000 ≤ n) {kd : Nat} {lv sd : Nat → Int} {J0 : Nat → Nat → Int} (h : CTB u g kd J0 L) (hl : CLV lv sd J0) (hk : 1 ≤ kd ∧ kd ≤ 3) (hb : Sb (zS g (kb kd)) = false) {t y : Nat} (ht : t < Sn (zS g (kb kd))) (hy : y < 9) :
    ∃ J, f_X9_action n (tb kd) (t : Int) (y : Int) (hp u J0 L) = some (zat g kd lv sd t y, hp u J L) ∧ Fr [tb kd] J0 J ∧ (∀ k, k ≠ 6 → k ≠ 7 → k ≠ 8 → k ≠ 9 → J (tb kd) k = J0 (tb kd) k) := by
  obtain ⟨hv, -⟩ := tb_m hk
  obtain ⟨J, e, f, q, c6, c7, c8, c9⟩ := X9_readCell (u := u) hn h hk hb ht hy
  have hC : CTB u g kd J L := h.own hk f (q 2 (by decide) (by decide) (by decide) (by decide))
  have hL := hl.fr (f 61 (by simpa using (tb_ne hk).2.1)) (f 62 (by simpa using (tb_ne hk).2.2.1))
  have hc : CRD g kd t y J := ⟨c6, c7, c8, c9⟩
  have hw := hC.1.1.1
  have hcg := hC.1.1.2
  have es := X9_isSettled (u := u) (L := L) hn hk hL hw hcg hy hc
  refine ⟨J, ?_, f, q⟩
  by_cases hz : zst g kd lv t y = true
  · rw [hz, b01_t] at es
    have ea := X9_settledAction (u := u) (L := L) hn hk hL hw hcg hc hz
    simp (disch := omega) only [f_X9_action, ↓dhi_S hv, ↓dhg_S_0 hv, ↓dhq_S_0 hv, ↓dhG_S_1 hv, ↓dhg_S_2 hv, ↓dhq_S_2 hv, ↓dhG_S_3 hv, ↓dhG_S_4 hv, ↓dhG_S_5 hv, ↓dhg_S_6 hv, ↓dhq_S_6 hv, ↓dhg_S_7 hv, ↓dhq_S_7 hv, ↓dhg_S_8 hv, ↓dhq_S_8 hv, ↓dhg_S_9 hv, ↓dhq_S_9 hv, ↓dhG_S_10 hv, ↓dhG_S_11 hv, ↓dhg_S_12 hv, ↓dhq_S_12 hv, ↓dha_S_1 hv, ↓dhs_S_1 hv, ↓dhl_S_1 hv, ↓dha_S_2 hv, ↓dhs_S_2 hv, ↓dhl_S_2 hv, Option.bind_some, ↓nm_eq, ↓sm_inl, ↓sm_inr, ↓dzo_0, ↓dzo_1, ↓drg_ok, ↓if_pos, ↓if_neg, if_pos, if_neg, if_true, if_false, Int.toNat_natCast, rg_ok, ↓bnd e, ↓bnd es, ↓bnd ea]
  · have hz' : zst g kd lv t y = false := by simpa using hz
    rw [hz', b01_f] at es
    unfold zat
    rw [if_neg hz]
    by_cases h7 : zac g kd t y = true
    · rw [h7, b01_t] at c7
      rw [if_pos h7]
      simp (disch := omega) only [f_X9_action, ↓dhi_S hv, ↓dhg_S_0 hv, ↓dhq_S_0 hv, ↓dhG_S_1 hv, ↓dhg_S_2 hv, ↓dhq_S_2 hv, ↓dhG_S_3 hv, ↓dhG_S_4 hv, ↓dhG_S_5 hv, ↓dhg_S_6 hv, ↓dhq_S_6 hv, ↓dhg_S_7 hv, ↓dhq_S_7 hv, ↓dhg_S_8 hv, ↓dhq_S_8 hv, ↓dhg_S_9 hv, ↓dhq_S_9 hv, ↓dhG_S_10 hv, ↓dhG_S_11 hv, ↓dhg_S_12 hv, ↓dhq_S_12 hv, ↓dha_S_1 hv, ↓dhs_S_1 hv, ↓dhl_S_1 hv, ↓dha_S_2 hv, ↓dhs_S_2 hv, ↓dhl_S_2 hv, Option.bind_some, ↓nm_eq, ↓sm_inl, ↓sm_inr, ↓dzo_0, ↓dzo_1, ↓drg_ok, ↓if_pos, ↓if_neg, if_pos, if_neg, if_true, if_false, Int.toNat_natCast, rg_ok, ↓bnd e, ↓bnd es, c7]
    · rw [if_neg h7]
      have h7' : zac g kd t y = false := by simpa using h7
      rw [h7', b01_f] at c7
      by_cases h6 : zsh g kd t y = true
      · rw [h6, b01_t] at c6
        rw [if_pos h6]
        simp (disch := omega) only [f_X9_action, ↓dhi_S hv, ↓dhg_S_0 hv, ↓dhq_S_0 hv, ↓dhG_S_1 hv, ↓dhg_S_2 hv, ↓dhq_S_2 hv, ↓dhG_S_3 hv, ↓dhG_S_4 hv, ↓dhG_S_5 hv, ↓dhg_S_6 hv, ↓dhq_S_6 hv, ↓dhg_S_7 hv, ↓dhq_S_7 hv, ↓dhg_S_8 hv, ↓dhq_S_8 hv, ↓dhg_S_9 hv, ↓dhq_S_9 hv, ↓dhG_S_10 hv, ↓dhG_S_11 hv, ↓dhg_S_12 hv, ↓dhq_S_12 hv, ↓dha_S_1 hv, ↓dhs_S_1 hv, ↓dhl_S_1 hv, ↓dha_S_2 hv, ↓dhs_S_2 hv, ↓dhl_S_2 hv, Option.bind_some, ↓nm_eq, ↓sm_inl, ↓sm_inr, ↓dzo_0, ↓dzo_1, ↓drg_ok, ↓if_pos, ↓if_neg, if_pos, if_neg, if_true, if_false, Int.toNat_natCast, rg_ok, ↓bnd e, ↓bnd es, c7, c6]
      · rw [if_neg h6]
        have h6' : zsh g kd t y = false := by simpa using h6
        rw [h6', b01_f] at c6
        simp (disch := omega) only [f_X9_action, ↓dhi_S hv, ↓dhg_S_0 hv, ↓dhq_S_0 hv, ↓dhG_S_1 hv, ↓dhg_S_2 hv, ↓dhq_S_2 hv, ↓dhG_S_3 hv, ↓dhG_S_4 hv, ↓dhG_S_5 hv, ↓dhg_S_6 hv, ↓dhq_S_6 hv, ↓dhg_S_7 hv, ↓dhq_S_7 hv, ↓dhg_S_8 hv, ↓dhq_S_8 hv, ↓dhg_S_9 hv, ↓dhq_S_9 hv, ↓dhG_S_10 hv, ↓dhG_S_11 hv, ↓dhg_S_12 hv, ↓dhq_S_12 hv, ↓dha_S_1 hv, ↓dhs_S_1 hv, ↓dhl_S_1 hv, ↓dha_S_2 hv, ↓dhs_S_2 hv, ↓dhl_S_2 hv, Option.bind_some, ↓nm_eq, ↓sm_inl, ↓sm_inr, ↓dzo_0, ↓dzo_1, ↓drg_ok, ↓if_pos, ↓if_neg, if_pos, if_neg, if_true, if_false, Int.toNat_natCast, rg_ok, ↓bnd e, ↓bnd es, c7, c6, c9]
end CA_
