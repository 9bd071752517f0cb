/-! ===== calls: rules are taken back, entered, brought ===== -/
section GRM
variable {u : Nat} {ps ps1 : List (Nat × List Nat)} {rs rs1 : List (Nat × List Int)} {t : List Int} {lv sd : Nat → Int} {w : Nat → Nat} {nw tp tq : Nat} {J J1 J2 L L' : Nat → Nat → Int}
/-- the grammar in use has new rules, in class and reference -/
theorem IV.gram (h : IV u ps rs ps1 rs1 t lv sd w nw tp tq J L) {ps' : List (Nat × List Nat)} {rs' : List (Nat × List Int)} (ha : AO ps' rs') (f : FG (gU u) J J1) (c : CG (gU u) J1 ps' rs') (r1 : RG u J2 ps' rs') (r2 : RG (1 - u) J2 ps1 rs1) (e : ∀ a, a < 161 → J2 a = fgt J1 a) (eR : ∀ a, a ∈ [170, 171, 172, 175] → J2 a = J a) (e9 : J2 161 9 = J 161 9) (e17 : J2 161 17 = J 161 17) (r6 : RT J2 t) (hr : J2 161 33 = 0 ∧ J2 161 34 = 0 ∧ J2 161 35 = 0) : IV u ps' rs' ps1 rs1 t lv sd w nw tp tq J2 L' := by
  have h24 := h.r24
  have hc24 : rs'.length ≤ 24 := by have h1 := ha.lt; have h2 := c.1.po.1; omega
  have hgo : ∀ a, (a < 3 ∨ (61 ≤ a ∧ a ≤ 86) ∨ (145 ≤ a ∧ a ≤ 160)) → J1 a = J a := fun a q => f.1 a (by rcases gUO u with ⟨q1, q2⟩ | ⟨q1, q2⟩ <;> omega)
  have hn : ∀ a, (a < 3 ∨ (61 ≤ a ∧ a ≤ 63) ∨ (145 ≤ a ∧ a ≤ 160)) → J2 a = J a := fun a q => by rw [e a (by omega), fgt_a (by omega), hgo a (by omega)]
  have hU : ∀ a, gU u ≤ a → a < gU u + 58 → J2 a = J1 a := fun a h1 h2 => by
    have q : a < 161 ∧ a ≠ 64 ∧ a ≠ 73 ∧ a ≠ 79 := by rcases gUO u with ⟨q1, q2⟩ | ⟨q1, q2⟩ <;> omega
    rw [e a q.1, fgt_a q.2]
  have hO : ∀ a, gO u ≤ a → a < gO u + 58 → J2 a = J a := fun a h1 h2 => by
    have q : (a < 161 ∧ a ≠ 64 ∧ a ≠ 73 ∧ a ≠ 79) ∧ (a < gU u ∨ gU u + 58 ≤ a) := by rcases gUO u with ⟨q1, q2⟩ | ⟨q1, q2⟩ <;> omega
    rw [e a q.1.1, fgt_a q.1.2, f.1 a q.2]
  have k1 : ∀ a k, (61 ≤ a ∧ a ≤ 86) ∨ (145 ≤ a ∧ a ≤ 160) → (a ≠ 64 ∧ (a = 73 → k ≠ 2) ∧ (a = 79 → k ≠ 2)) → J2 a k = J a k := fun a k q h4 => by
    rw [e a (by omega), fgt_k (fun z => h4.1 z.1) (fun z => h4.2.1 z.1 z.2) (fun z => h4.2.2 z.1 z.2), hgo a (by omega)]
  have fj : J2 64 1 = 0 ∧ J2 73 2 = 0 ∧ J2 79 2 = 0 := by rw [e 64 (by decide), e 73 (by decide), e 79 (by decide)]; exact fgt_0
  refine h.forgot h.1.1 ha h.1.2.2.1 h.1.2.2.2.2.1 h.1.2.2.2.2.2 (c.eq hc24 hU) (h.2.1.2.1.eq h24.2.1 hO) ?_ ?_ (fun a ha => ?_) (by rw [hn 0 (by omega)]) ?_ r1 r2 (e9.trans h.2.2.1.2.2.1) ?_ ?_ r6 e17 fj ⟨k1 73 1 (by omega) (by decide), k1 79 1 (by omega) (by decide), k1 148 2 (by omega) (by decide), k1 151 2 (by omega) (by decide), k1 154 2 (by omega) (by decide)⟩ hr
  · rw [hU _ (Nat.le_refl _) (by omega), f.2]; exact h.2.1.2.2.1
  · rw [hO _ (Nat.le_refl _) (by omega)]; exact h.2.1.2.2.2.1
  · have q : a = 1 ∨ a = 2 ∨ a = 61 ∨ a = 62 ∨ a = 63 ∨ a = 171 ∨ a = 172 ∨ a = 175 := by simp at ha; omega
    rcases (by omega : (a < 3 ∨ (61 ≤ a ∧ a ≤ 63)) ∨ (a = 171 ∨ a = 172 ∨ a = 175)) with z | z
    · exact hn a (by omega)
    · exact eR a (by simp; omega)
  · rw [hn 0 (by omega)]; exact h.2.1.2.2.2.2.2.2.2.2
  · rw [eR 170 (by decide)]; exact h.2.2.1.2.2.2.1
  · rw [eR 170 (by decide)]; exact h.2.2.1.2.2.2.2.1
theorem CG.cnt (c : CG (gU u) J ps rs) : f_X4_count (gU u) (hp u J L) = some ((ps.length : Nat) : Int) := by
  have hgm := gU_mem u
  have e := c.1.2.1
  simp (disch := omega) only [f_X4_count, ↓dhi_G hgm, ↓dhG_G_0 hgm, ↓dhG_G_1 hgm, ↓dhG_G_2 hgm, ↓dhg_G_3 hgm, ↓dhq_G_3 hgm, ↓dhG_G_4 hgm, ↓dhG_G_5 hgm, ↓dhg_G_6 hgm, ↓dhq_G_6 hgm, ↓dhg_G_7 hgm, ↓dhq_G_7 hgm, ↓dhG_G_8 hgm, ↓dhG_G_9 hgm, ↓dha_G_1 hgm, ↓dhs_G_1 hgm, ↓dhl_G_1 hgm, ↓dha_G_2 hgm, ↓dhs_G_2 hgm, ↓dhl_G_2 hgm, ↓dha_G_3 hgm, ↓dhs_G_3 hgm, ↓dhl_G_3 hgm, ↓dha_G_4 hgm, ↓dhl_G_4 hgm, ↓dha_G_5 hgm, ↓dhs_G_5 hgm, ↓dhl_G_5 hgm, Option.bind_some, ↓nm_eq, ↓sm_inl, ↓sm_inr, ↓dzo_0, ↓dzo_1, ↓drg_ok, ↓if_pos, ↓if_neg, if_pos, if_neg, if_true, if_false, Int.toNat_natCast, rg_ok, e]
theorem fgt_cg {v : Nat} (hv : v ∈ [3, 87]) (c : CG v J ps rs) (h24 : rs.length ≤ 24) : CG v (fgt J) ps rs := c.eq h24 (fun a h1 h2 => fgt_a (by rcases gG4 hv with q | q <;> omega))
end GRM
theorem op_undo {n : Nat} : OPK (fun h => f_L_undo 0 193 h) (fun h => f_X12_undo 161 h) := by
  intro u J L hI
  have hI0 := hI
  obtain ⟨ps, rs, ps1, rs1, t, lv, sd, w, nw, tp, tq, h⟩ := hI
  have hgm := gU_mem u
  have hu : u < 2 := h.1.1
  have hAO := h.1.2.1
  have h24 := h.r24
  have e9 : J 161 9 = (u : Int) := h.2.2.1.2.2.1
  have hRG := h.2.2.1.1
  have e166 : J 166 u = (rs.length : Int) := hRG.2.1
  rcases X4_dropLastRule (u := u) (L := L) hgm h.2.1.1 hAO with ⟨hr0, ed⟩ | ⟨hr0, J1, ed, hf, hc⟩
  · have hl0 : rs.length = 0 := by rw [hr0]; rfl
    refine k_out hI0 ?_ ?_
    · simp (disch := omega) only [f_L_undo, f_X11_undo, ↓dhi_X, ↓dhG_X_0, ↓dhG_X_1, ↓dhG_X_2, ↓dhg_X_3, ↓dhq_X_3, ↓dhG_X_4, ↓dhG_X_5, ↓dhG_X_6, ↓dhg_X_7, ↓dhq_X_7, ↓dhG_X_8, ↓dhG_X_9, ↓dhG_X_10, ↓dhG_X_11, ↓dhG_X_12, ↓dhG_X_13, ↓dhG_X_14, ↓dhG_X_15, ↓dhG_X_16, ↓dhi_G hgm, ↓dhG_G_0 hgm, ↓dhG_G_1 hgm, ↓dhG_G_2 hgm, ↓dhg_G_3 hgm, ↓dhq_G_3 hgm, ↓dhG_G_4 hgm, ↓dhG_G_5 hgm, ↓dhg_G_6 hgm, ↓dhq_G_6 hgm, ↓dhg_G_7 hgm, ↓dhq_G_7 hgm, ↓dhG_G_8 hgm, ↓dhG_G_9 hgm, ↓dha_G_1 hgm, ↓dhs_G_1 hgm, ↓dhl_G_1 hgm, ↓dha_G_2 hgm, ↓dhs_G_2 hgm, ↓dhl_G_2 hgm, ↓dha_G_3 hgm, ↓dhs_G_3 hgm, ↓dhl_G_3 hgm, ↓dha_G_4 hgm, ↓dhl_G_4 hgm, ↓dha_G_5 hgm, ↓dhs_G_5 hgm, ↓dhl_G_5 hgm, Option.bind_some, ↓nm_eq, ↓sm_inl, ↓sm_inr, ↓dzo_0, ↓dzo_1, ↓drg_ok, ↓if_pos, ↓if_neg, if_pos, if_neg, if_true, if_false, Int.toNat_natCast, rg_ok, ↓bnd ed, xI3, if_true]
    · simp (disch := omega) only [f_X12_undo, b_X12_undo_18, ↓dhi_M, ↓dhG_M_0, ↓dhG_M_1, ↓dhG_M_2, ↓dhG_M_3, ↓dhG_M_4, ↓dhG_M_5, ↓dhG_M_6, ↓dhG_M_7, ↓dhG_M_8, ↓dhg_M_9, ↓dhq_M_9, ↓dhG_M_10, ↓dhG_M_11, ↓dhG_M_12, ↓dhg_M_13, ↓dhq_M_13, ↓dhG_M_14, ↓dhg_M_15, ↓dhq_M_15, ↓dhG_M_16, ↓dhg_M_17, ↓dhq_M_17, ↓dhg_M_18, ↓dhq_M_18, ↓dhG_M_19, ↓dhG_M_20, ↓dhG_M_21, ↓dhG_M_22, ↓dhG_M_23, ↓dhG_M_24, ↓dhg_M_25, ↓dhq_M_25, ↓dhG_M_26, ↓dhG_M_27, ↓dhG_M_28, ↓dhg_M_29, ↓dhq_M_29, ↓dhG_M_30, ↓dhG_M_31, ↓dhg_M_32, ↓dhq_M_32, ↓dhg_M_33, ↓dhq_M_33, ↓dhg_M_34, ↓dhq_M_34, ↓dhg_M_35, ↓dhq_M_35, ↓dhG_M_36, ↓dhG_M_37, ↓dhg_M_38, ↓dhq_M_38, ↓dhg_M_39, ↓dhq_M_39, ↓dhG_M_40, ↓dhG_M_41, ↓dhG_M_42, ↓dhG_M_43, ↓dhg_M_44, ↓dhq_M_44, ↓dha_166, ↓dhs_166, ↓dhl_166, Option.bind_some, ↓nm_eq, ↓sm_inl, ↓sm_inr, ↓dzo_0, ↓dzo_1, ↓drg_ok, ↓if_pos, ↓if_neg, if_pos, if_neg, if_true, if_false, Int.toNat_natCast, rg_ok, e9, e166, ↓bnd (goes_1 1 1)]
  · have hl0 : rs.length ≠ 0 := fun z => hr0 (List.eq_nil_of_length_eq_zero z)
    obtain ⟨r, hr⟩ : ∃ r, r = rs.length - 1 := ⟨_, rfl⟩
    obtain ⟨c, hcv⟩ : ∃ c, c = (rs.getD (rs.length - 1) (0, [])).1 := ⟨_, rfl⟩
    have hA := hAO.cut hl0 h24.2.2.1
    have hcl : c < ps.length := by
      have := (hAO (rs.length - 1) (by omega)).2
      rw [if_neg (by omega)] at this
      rw [hcv]; exact this
    rw [← hcv, ← hr] at hc hA
    have hlen : (ps.take c).length = c := by simp; omega
    have hlr : (rs.take r).length = r := by simp; omega
    have ef := X11_forget (u := u) (I := J1) (L := L)
    have ec := CG.cnt (u := u) (L := L) (fgt_cg hgm hc (by omega))
    rw [hlen] at ec
    have j161 : ∀ a, 161 ≤ a → fgt J1 a = J a := fun a ha => by rw [fgt_a (by omega), hf.1 a (by rcases gUO u with ⟨q1, q2⟩ | ⟨q1, q2⟩ <;> omega)]
    obtain ⟨Jf, hJf⟩ : ∃ Jf, Jf = fgt J1 := ⟨_, rfl⟩
    have hj : ∀ a, 161 ≤ a → Jf a = J a := fun a ha => by rw [hJf]; exact j161 a ha
    rw [← hJf] at ef ec
    have e9a : Jf 161 9 = (u : Int) := by rw [hj 161 (by decide)]; exact e9
    have e166a : Jf 166 u = (rs.length : Int) := by rw [hj 166 (by decide)]; exact e166
    have e9b : gx_u Jf 161 44 0 161 9 = (u : Int) := by rw [gu_at_ne (by decide)]; exact e9a
    have e166b : gx_u Jf 161 44 0 166 u = (rs.length : Int) := by rw [gu_ne (by decide)]; exact e166a
    have er : (rs.length : Int) - 1 = (r : Int) := by omega
    obtain ⟨Jg, hJg⟩ : ∃ Jg, Jg = gx_u (gx_u Jf 161 44 0) 166 u (r : Int) := ⟨_, rfl⟩
    have e9c : Jg 161 9 = (u : Int) := by rw [hJg, gu_ne (by decide)]; exact e9b
    have e166c : Jg 166 u = (r : Int) := by rw [hJg, gu_same]
    have ei : (24 * (u : Int) + (r : Int)).toNat = 24 * u + r := by omega
    have e167 : Jg 167 (24 * u + r) = (c : Int) := by
      rw [hJg, gu_ne (by decide), gu_ne (by decide), hj 167 (by decide), (hRG.2.2 r (by omega)).1, hcv, hr]
    obtain ⟨Jh, hJh⟩ : ∃ Jh, Jh = gx_u Jg 165 u (c : Int) := ⟨_, rfl⟩
    have e4 := X12_changed (u := u) (L := gx_u L 193 0 (c : Int)) (J := Jh)
    have e9d : chg Jh 161 9 = (u : Int) := by rw [chg_k ⟨by decide, by decide, by decide⟩, hJh, gu_ne (by decide)]; exact e9c
    have e165 : chg Jh 165 u = (c : Int) := by rw [chg_ne (by decide), hJh, gu_same]
    have s166 : gi_s1 (hp u (gx_u Jf 161 44 0) (gx_u L 193 0 (c : Int))) 166 (u : Int) (r : Int) = some (hp u Jg (gx_u L 193 0 (c : Int))) := by rw [hJg]; exact hs_166 (by omega) (by omega)
    have s165 : gi_s1 (hp u Jg (gx_u L 193 0 (c : Int))) 165 (u : Int) (c : Int) = some (hp u Jh (gx_u L 193 0 (c : Int))) := by rw [hJh]; exact hs_165 (by omega) (by omega)
    refine ⟨0, u, Jf, gx_u L 193 0 (c : Int), (c : Int), chg Jh, gx_u L 193 0 (c : Int), ?_, ?_, ?_, Or.inl rfl, ⟨by omega, by omega⟩, fun _ => gu_same _ _ _ _, ps.take c, rs.take r, ps1, rs1, t, lv, sd, w, nw, tp, tq, ?_⟩
    · simp (disch := omega) only [f_L_undo, f_X11_undo, ↓dhi_X, ↓dhG_X_0, ↓dhG_X_1, ↓dhG_X_2, ↓dhg_X_3, ↓dhq_X_3, ↓dhG_X_4, ↓dhG_X_5, ↓dhG_X_6, ↓dhg_X_7, ↓dhq_X_7, ↓dhG_X_8, ↓dhG_X_9, ↓dhG_X_10, ↓dhG_X_11, ↓dhG_X_12, ↓dhG_X_13, ↓dhG_X_14, ↓dhG_X_15, ↓dhG_X_16, ↓dhi_G hgm, ↓dhG_G_0 hgm, ↓dhG_G_1 hgm, ↓dhG_G_2 hgm, ↓dhg_G_3 hgm, ↓dhq_G_3 hgm, ↓dhG_G_4 hgm, ↓dhG_G_5 hgm, ↓dhg_G_6 hgm, ↓dhq_G_6 hgm, ↓dhg_G_7 hgm, ↓dhq_G_7 hgm, ↓dhG_G_8 hgm, ↓dhG_G_9 hgm, ↓dha_G_1 hgm, ↓dhs_G_1 hgm, ↓dhl_G_1 hgm, ↓dha_G_2 hgm, ↓dhs_G_2 hgm, ↓dhl_G_2 hgm, ↓dha_G_3 hgm, ↓dhs_G_3 hgm, ↓dhl_G_3 hgm, ↓dha_G_4 hgm, ↓dhl_G_4 hgm, ↓dha_G_5 hgm, ↓dhs_G_5 hgm, ↓dhl_G_5 hgm, ↓dha_193, ↓dhs_193, ↓dhl_193, Option.bind_some, ↓nm_eq, ↓sm_inl, ↓sm_inr, ↓dzo_0, ↓dzo_1, ↓drg_ok, ↓if_pos, ↓if_neg, if_pos, if_neg, if_true, if_false, Int.toNat_natCast, rg_ok, ↓bnd ed, ↓bnd ef, ↓bnd ec] <;> rfl
    · simp (disch := omega) only [f_X12_undo, b_X12_undo_18, ↓dha_165, ↓dha_166, ↓dhi_M, ↓dhG_M_0, ↓dhG_M_1, ↓dhG_M_2, ↓dhG_M_3, ↓dhG_M_4, ↓dhG_M_5, ↓dhG_M_6, ↓dhG_M_7, ↓dhG_M_8, ↓dhg_M_9, ↓dhq_M_9, ↓dhG_M_10, ↓dhG_M_11, ↓dhG_M_12, ↓dhg_M_13, ↓dhq_M_13, ↓dhG_M_14, ↓dhg_M_15, ↓dhq_M_15, ↓dhG_M_16, ↓dhg_M_17, ↓dhq_M_17, ↓dhg_M_18, ↓dhq_M_18, ↓dhG_M_19, ↓dhG_M_20, ↓dhG_M_21, ↓dhG_M_22, ↓dhG_M_23, ↓dhG_M_24, ↓dhg_M_25, ↓dhq_M_25, ↓dhG_M_26, ↓dhG_M_27, ↓dhG_M_28, ↓dhg_M_29, ↓dhq_M_29, ↓dhG_M_30, ↓dhG_M_31, ↓dhg_M_32, ↓dhq_M_32, ↓dhg_M_33, ↓dhq_M_33, ↓dhg_M_34, ↓dhq_M_34, ↓dhg_M_35, ↓dhq_M_35, ↓dhG_M_36, ↓dhG_M_37, ↓dhg_M_38, ↓dhq_M_38, ↓dhg_M_39, ↓dhq_M_39, ↓dhG_M_40, ↓dhG_M_41, ↓dhG_M_42, ↓dhG_M_43, ↓dhg_M_44, ↓dhq_M_44, ↓dha_167, ↓dhs_167, ↓dhl_167, Option.bind_some, ↓nm_eq, ↓sm_inl, ↓sm_inr, ↓dzo_0, ↓dzo_1, ↓drg_ok, ↓if_pos, ↓if_neg, if_pos, if_neg, if_true, if_false, Int.toNat_natCast, rg_ok, e9a, e166a, ↓bnd goes_0, e9b, e166b, er, ↓bnd s166, e9c, e166c, ei, e167, ↓bnd s165, ↓bnd e4, e9d, e165]
    · rw [chg_k ⟨by decide, by decide, by decide⟩, hJh, gu_ne (by decide), hJg, gu_ne (by decide), gu_same]
    · have fz : ∀ a, a ≠ 161 → a ≠ 165 → a ≠ 166 → chg Jh a = Jf a := fun a h1 h2 h3 => by rw [chg_ne h1, hJh, gu_ne h2, hJg, gu_ne h3, gu_ne h1]
      have m3 : ∀ k, k ≠ 33 → k ≠ 34 → k ≠ 35 → k ≠ 44 → chg Jh 161 k = J 161 k := fun k h1 h2 h3 h4 => by rw [chg_k ⟨h1, h2, h3⟩, hJh, gu_ne (by decide), hJg, gu_ne (by decide), gu_at_ne h4, hj 161 (by decide)]
      have rc := hRG.cut (c := c) (r := r) (by omega) (by omega)
      have ra : ∀ a, 162 ≤ a → a ≤ 170 → chg Jh a = gx_u (gx_u J 166 u (r : Int)) 165 u (c : Int) a := fun a h1 h2 => by
        rw [chg_ne (by omega), hJh, hJg]
        funext k
        by_cases c5 : a = 165
        · subst c5
          by_cases ck : k = u
          · subst ck; rw [gu_same, gu_same]
          · rw [gu_at_ne ck, gu_at_ne ck, gu_ne (by decide), gu_ne (by decide), gu_ne (by decide), hj 165 (by decide)]
        · rw [gu_ne c5, gu_ne c5]
          by_cases c6 : a = 166
          · subst c6
            by_cases ck : k = u
            · subst ck; rw [gu_same, gu_same]
            · rw [gu_at_ne ck, gu_at_ne ck, gu_ne (by decide), hj 166 (by decide)]
          · rw [gu_ne c6, gu_ne c6, gu_ne (by omega), hj a (by omega)]
      have h9 := m3 9 (by decide) (by decide) (by decide) (by decide)
      have rot : RG (1 - u) (gx_u (gx_u J 166 u (r : Int)) 165 u (c : Int)) ps1 rs1 := (h.2.2.1.2.1).ot (w := u) (FR.rules.tr FR.many) (by omega) rc.1.1 h.1.2.2.1
      refine h.gram hA hf hc (rc.use ra (by rw [h9, e9]; omega)) (rot.use ra (by rw [h9, e9]; omega)) (fun a ha => by rw [fz a (by omega) (by omega) (by omega), hJf]) (fun a ha => ?_) h9 (m3 17 (by decide) (by decide) (by decide) (by decide)) ?_ chg_0
      · have q : a = 170 ∨ a = 171 ∨ a = 172 ∨ a = 175 := by simpa using ha
        rw [fz a (by omega) (by omega) (by omega), hj a (by omega)]
      · have := h.2.2.1.2.2.2.2.2.1; unfold RT at *; rw [fz 173 (by decide) (by decide) (by decide), hj 173 (by decide), m3 13 (by decide) (by decide) (by decide) (by decide)]; exact this
