/-! ===== calls that change the state ===== -/
theorem isL1 {x : Int} (hx : gi_ok x) (h : gi_H) (h8 : tk x ≠ 8) : f_X11_isLetter x h = some 1 := by
  have a1 := isT11 hx h
  have a2 := isN11 hx h
  have a3 := isR11 hx h
  obtain ⟨h1, h2⟩ := hx
  rcases tk_cases x with ⟨e, q⟩ | ⟨e, q⟩ | ⟨e, q⟩ | ⟨e, q⟩ | ⟨e, q⟩ | ⟨e, q⟩ | ⟨e, q⟩ | ⟨e, q⟩ | ⟨e, q⟩
  · rw [if_pos (by omega)] at a1
    simp (disch := omega) only [f_X11_isLetter, b_X11_isLetter_51, Option.bind_some, ↓nm_eq, ↓sm_inl, ↓sm_inr, ↓dzo_0, ↓dzo_1, ↓drg_ok, ↓if_pos, ↓if_neg, if_pos, if_neg, if_true, if_false, Int.toNat_natCast, rg_ok, ↓bnd a1]
  · rw [if_neg (by omega)] at a1
    rw [if_pos (by omega)] at a2
    simp (disch := omega) only [f_X11_isLetter, b_X11_isLetter_51, Option.bind_some, ↓nm_eq, ↓sm_inl, ↓sm_inr, ↓dzo_0, ↓dzo_1, ↓drg_ok, ↓if_pos, ↓if_neg, if_pos, if_neg, if_true, if_false, Int.toNat_natCast, rg_ok, ↓bnd a1, ↓bnd a2]
  · rw [if_neg (by omega)] at a1
    rw [if_neg (by omega)] at a2
    rw [if_pos (by omega)] at a3
    simp (disch := omega) only [f_X11_isLetter, b_X11_isLetter_51, Option.bind_some, ↓nm_eq, ↓sm_inl, ↓sm_inr, ↓dzo_0, ↓dzo_1, ↓drg_ok, ↓if_pos, ↓if_neg, if_pos, if_neg, if_true, if_false, Int.toNat_natCast, rg_ok, ↓bnd a1, ↓bnd a2, ↓bnd a3]
  · rw [if_neg (by omega)] at a1
    rw [if_neg (by omega)] at a2
    rw [if_neg (by omega)] at a3
    simp (disch := omega) only [f_X11_isLetter, b_X11_isLetter_51, Option.bind_some, ↓nm_eq, ↓sm_inl, ↓sm_inr, ↓dzo_0, ↓dzo_1, ↓drg_ok, ↓if_pos, ↓if_neg, if_pos, if_neg, if_true, if_false, Int.toNat_natCast, rg_ok, ↓bnd a1, ↓bnd a2, ↓bnd a3]
  · rw [if_neg (by omega)] at a1
    rw [if_neg (by omega)] at a2
    rw [if_neg (by omega)] at a3
    simp (disch := omega) only [f_X11_isLetter, b_X11_isLetter_51, Option.bind_some, ↓nm_eq, ↓sm_inl, ↓sm_inr, ↓dzo_0, ↓dzo_1, ↓drg_ok, ↓if_pos, ↓if_neg, if_pos, if_neg, if_true, if_false, Int.toNat_natCast, rg_ok, ↓bnd a1, ↓bnd a2, ↓bnd a3]
  · rw [if_neg (by omega)] at a1
    rw [if_neg (by omega)] at a2
    rw [if_neg (by omega)] at a3
    simp (disch := omega) only [f_X11_isLetter, b_X11_isLetter_51, Option.bind_some, ↓nm_eq, ↓sm_inl, ↓sm_inr, ↓dzo_0, ↓dzo_1, ↓drg_ok, ↓if_pos, ↓if_neg, if_pos, if_neg, if_true, if_false, Int.toNat_natCast, rg_ok, ↓bnd a1, ↓bnd a2, ↓bnd a3]
  · rw [if_neg (by omega)] at a1
    rw [if_neg (by omega)] at a2
    rw [if_neg (by omega)] at a3
    simp (disch := omega) only [f_X11_isLetter, b_X11_isLetter_51, Option.bind_some, ↓nm_eq, ↓sm_inl, ↓sm_inr, ↓dzo_0, ↓dzo_1, ↓drg_ok, ↓if_pos, ↓if_neg, if_pos, if_neg, if_true, if_false, Int.toNat_natCast, rg_ok, ↓bnd a1, ↓bnd a2, ↓bnd a3]
  · rw [if_neg (by omega)] at a1
    rw [if_neg (by omega)] at a2
    rw [if_neg (by omega)] at a3
    simp (disch := omega) only [f_X11_isLetter, b_X11_isLetter_51, Option.bind_some, ↓nm_eq, ↓sm_inl, ↓sm_inr, ↓dzo_0, ↓dzo_1, ↓drg_ok, ↓if_pos, ↓if_neg, if_pos, if_neg, if_true, if_false, Int.toNat_natCast, rg_ok, ↓bnd a1, ↓bnd a2, ↓bnd a3]
  · exact absurd e h8
section KC
variable {n : Nat} {u : Nat} {ps ps1 : List (Nat × List Nat)} {rs rs1 : List (Nat × List Int)} {t : List Int} {lv sd : Nat → Int} {w : Nat → Nat} {nw tp tq : Nat} {J L J1 : Nat → Nat → Int}
/-- a grammar that has changed, what was found forgotten -/
theorem JV.gram (h : JV u ps rs ps1 rs1 t lv sd w nw tp tq J L) {ps' : List (Nat × List Nat)} {rs' : List (Nat × List Int)} (ha : AO ps' rs') (h0 : A0 ps' rs') (f : FG (gU u) J J1) (c : CG (gU u) J1 ps' rs') : JV u ps' rs' ps1 rs1 t lv sd w nw tp tq (fgt J1) L ∧ fgt J1 161 = J 161 := by
  have h24 := h.r24
  have hl1 := c.1.po.1
  have hl2 := ha.lt
  have hgm := gU_mem u
  have hgU : ∀ a, (a < 3 ∨ (61 ≤ a ∧ a ≤ 86) ∨ 145 ≤ a) → fgt J1 a = J a ∨ a = 64 ∨ a = 73 ∨ a = 79 := fun a hz => by
    by_cases c : a = 64 ∨ a = 73 ∨ a = 79
    · exact Or.inr c
    · left
      rw [fgt_a (by omega), f.1 a (by rcases gUO u with ⟨q1, q2⟩ | ⟨q1, q2⟩ <;> omega)]
  have hj : ∀ a, (a < 3 ∨ (61 ≤ a ∧ a ≤ 86) ∨ 145 ≤ a) → a ≠ 64 → a ≠ 73 → a ≠ 79 → fgt J1 a = J a := fun a hz h1 h2 h3 => (hgU a hz).resolve_right (by omega)
  have hO : ∀ a, gO u ≤ a → a < gO u + 58 → fgt J1 a = J a := fun a h1 h2 => by rw [fgt_a (by rcases gUO u with ⟨q1, q2⟩ | ⟨q1, q2⟩ <;> omega), f.1 a (by rcases gUO u with ⟨q1, q2⟩ | ⟨q1, q2⟩ <;> omega)]
  refine ⟨h.forgot h.1.1.1 ha h.1.1.2.2.1 h0 h.1.2.2 h.1.1.2.2.2.2.1 h.1.1.2.2.2.2.2 (fgt_cg hgm c (by omega)) (h.2.1.2.1.eq h24.2.1 hO) ?_ ?_ (fun a hz => ?_) ?_ ?_ fgt_0 ?_, hj 161 (by omega) (by decide) (by decide) (by decide)⟩
  · rw [fgt_a (by rcases gUO u with ⟨q1, q2⟩ | ⟨q1, q2⟩ <;> omega), f.2]; exact h.2.1.2.2.1
  · rw [hO _ (Nat.le_refl _) (by omega)]; exact h.2.1.2.2.2.1
  · have : a = 1 ∨ a = 2 ∨ a = 61 ∨ a = 62 ∨ a = 63 := by simpa using hz
    exact hj a (by omega) (by omega) (by omega) (by omega)
  · rw [hj 0 (by omega) (by decide) (by decide) (by decide)]
  · rw [hj 0 (by omega) (by decide) (by decide) (by decide)]; exact h.2.1.2.2.2.2.2.2.2.2
  · have e73 : J1 73 = J 73 := f.1 73 (by rcases gUO u with ⟨q1, q2⟩ | ⟨q1, q2⟩ <;> omega)
    have e79 : J1 79 = J 79 := f.1 79 (by rcases gUO u with ⟨q1, q2⟩ | ⟨q1, q2⟩ <;> omega)
    refine ⟨fgt_1.1.trans (by rw [e73]), fgt_1.2.trans (by rw [e79]), ?_, ?_, ?_⟩
    · rw [hj 148 (by omega) (by decide) (by decide) (by decide)]
    · rw [hj 151 (by omega) (by decide) (by decide) (by decide)]
    · rw [hj 154 (by omega) (by decide) (by decide) (by decide)]
theorem k_wipe (h : JV u ps rs ps1 rs1 t lv sd w nw tp tq J L) : ∃ J1, f_X11_wipe 0 (hp u J L) = some ((t.length : Int), hp u J1 L) ∧ JV u ps rs ps1 rs1 [] lv sd w nw tp tq J1 L ∧ J1 161 = J 161 := by
  have hT := h.tl
  have h1T : (1 : Nat) ∈ gTX := by decide
  have e1 := X8_clear (u := u) (I := J) (L := L) h1T
  rw [hT.1] at e1
  refine ⟨gx_u J 1 1 0, ?_, h.upd (fun a ha => gu_ne (fun z => by simp [z] at ha)) (by rw [gu_ne (by decide)]) rfl ⟨gu_same _ _ _ _, fun j hj => absurd hj (by simp), by simp, fun j hj => absurd hj (by simp)⟩ (h.clv.fr (gu_ne (by decide)) (gu_ne (by decide))) ?_ (by rw [gu_ne (by decide)]; exact h.h7) h.sw, gu_ne (by decide)⟩
  · simp (disch := omega) only [f_X11_wipe, ↓dhi_X, ↓dhG_X_0, ↓dhG_X_1, ↓dhG_X_2, ↓dhg_X_3, ↓dhq_X_3, ↓dhG_X_4, ↓dhG_X_5, ↓dhG_X_6, ↓dhg_X_7, ↓dhq_X_7, ↓dhG_X_8, ↓dhG_X_9, ↓dhG_X_10, ↓dhG_X_11, ↓dhG_X_12, ↓dhG_X_13, ↓dhG_X_14, ↓dhG_X_15, ↓dhG_X_16, ↓dhi_T h1T, ↓dhG_T_0 h1T, ↓dhg_T_1 h1T, ↓dhq_T_1 h1T, ↓dha_T_1 h1T, ↓dhs_T_1 h1T, ↓dhl_T_1 h1T, Option.bind_some, ↓nm_eq, ↓sm_inl, ↓sm_inr, ↓dzo_0, ↓dzo_1, ↓drg_ok, ↓if_pos, ↓if_neg, if_pos, if_neg, if_true, if_false, Int.toNat_natCast, rg_ok, ↓bnd e1]
  · have := h.cse
    unfold CSE at *
    rw [gu_ne (by decide)]; exact this
theorem k_type (h : JV u ps rs ps1 rs1 t lv sd w nw tp tq J L) {x : Int} (hx : tk x ≠ 8) (hl : t.length < 24) : ∃ J1, f_L_type 0 x (hp u J L) = some ((t.length : Int) + 1, hp u J1 L) ∧ JV u ps rs ps1 rs1 (t ++ [x]) lv sd w nw tp tq J1 L ∧ J1 161 = J 161 := by
  have hT := h.tl
  have h1T : (1 : Nat) ∈ gTX := by decide
  have h24 := hT.tk.1
  have hr := tk_rg hx
  have hok : gi_ok x := ⟨by omega, by omega⟩
  have hlen : J 1 1 = (t.length : Int) := hT.1
  have e1 := isL1 hok (hp u J L) hx
  have ef := X8_isFull (u := u) (L := L) h1T h24
  rw [if_neg (by omega)] at ef
  have ea := X8_append (u := u) (I := J) (L := L) h1T (x := x) h24.1 (by omega) (by omega) (by omega)
  obtain ⟨J1, hJ1⟩ : ∃ J1, J1 = gx_u (gx_u J (1 + 1) (J 1 1).toNat x) 1 1 (J 1 1 + 1) := ⟨_, rfl⟩
  rw [← hJ1] at ea
  have en : (J 1 1).toNat = t.length := by omega
  have f1 : ∀ a, a ≠ 1 → a ≠ 2 → J1 a = J a := fun a h1 h2 => by rw [hJ1, gu_ne h1, gu_ne h2]
  refine ⟨J1, ?_, ?_, f1 161 (by decide) (by decide)⟩
  · rw [hlen] at ea
    obtain ⟨m, hm⟩ : ∃ m : Int, m = (t.length : Int) + 1 := ⟨_, rfl⟩
    rw [← hm] at ea ⊢
    have hm1 : 0 ≤ m ∧ m ≤ 24 := by omega
    clear hm h24 hlen hT en
    have ex : x % 65536 = x := by omega
    have e5 : f_X11_type 0 x (hp u J L) = some (.inl m, hp u J1 L) := by
      simp (disch := omega) only [f_X11_type, ↓dhi_X, ↓dhG_X_0, ↓dhG_X_1, ↓dhG_X_2, ↓dhg_X_3, ↓dhq_X_3, ↓dhG_X_4, ↓dhG_X_5, ↓dhG_X_6, ↓dhg_X_7, ↓dhq_X_7, ↓dhG_X_8, ↓dhG_X_9, ↓dhG_X_10, ↓dhG_X_11, ↓dhG_X_12, ↓dhG_X_13, ↓dhG_X_14, ↓dhG_X_15, ↓dhG_X_16, Option.bind_some, ↓nm_eq, ↓sm_inl, ↓sm_inr, ↓dzo_0, ↓dzo_1, ↓drg_ok, ↓if_pos, ↓if_neg, if_pos, if_neg, if_true, if_false, Int.toNat_natCast, rg_ok, ↓bnd e1, ↓bnd ef, ↓bnd ea, ↓dhi_T h1T]
    simp (disch := omega) only [f_L_type, ↓dhi_X, ↓dhG_X_0, ↓dhG_X_1, ↓dhG_X_2, ↓dhg_X_3, ↓dhq_X_3, ↓dhG_X_4, ↓dhG_X_5, ↓dhG_X_6, ↓dhg_X_7, ↓dhq_X_7, ↓dhG_X_8, ↓dhG_X_9, ↓dhG_X_10, ↓dhG_X_11, ↓dhG_X_12, ↓dhG_X_13, ↓dhG_X_14, ↓dhG_X_15, ↓dhG_X_16, Option.bind_some, ↓nm_eq, ↓sm_inl, ↓sm_inr, ↓dzo_0, ↓dzo_1, ↓drg_ok, ↓if_pos, ↓if_neg, if_pos, if_neg, if_true, if_false, Int.toNat_natCast, rg_ok, ex, ↓bnd e5]
  · refine h.upd (fun a ha => f1 a (fun z => by simp [z] at ha) (fun z => by simp [z] at ha)) (by rw [f1 0 (by decide) (by decide)]) rfl ⟨?_, fun j hj => ?_, ?_, fun j hj => ?_⟩ (h.clv.fr (f1 61 (by decide) (by decide)) (f1 62 (by decide) (by decide))) ?_ (by rw [f1 0 (by decide) (by decide)]; exact h.h7) h.sw
    · rw [hJ1, gu_same, hlen, List.length_append, List.length_singleton]; omega
    · rw [hJ1, gu_ne (by decide), en]
      rw [List.length_append, List.length_singleton] at hj
      by_cases c : j = t.length
      · rw [c, gu_same, tl_app.2]
      · rw [gu_at_ne c, tl_app.1 j (by omega)]; exact hT.2.1 j (by omega)
    · rw [List.length_append, List.length_singleton]; omega
    · rw [List.length_append, List.length_singleton] at hj
      by_cases c : j = t.length
      · rw [c, tl_app.2]; exact hx
      · rw [tl_app.1 j (by omega)]; exact hT.2.2.2 j (by omega)
    · have := h.cse
      unfold CSE at *
      rw [f1 63 (by decide) (by decide)]; exact this
theorem k_fault (hn : 1000000000000000000000000000000 ≤ n) (h : JV u ps rs ps1 rs1 t lv sd w nw tp tq J L) : f_X11_fault n 0 (hp u J L) = some (tf (tl t) t.length t.length 0 0 0) := by
  have hT := h.tl
  have h1T : (1 : Nat) ∈ gTX := by decide
  have e1 := X8_firstFault (u := u) (L := L) h1T hT.tk hn
  have hlen : (J 1 1).toNat = t.length := by rw [hT.1, Int.toNat_natCast]
  have ec : tf (J (1 + 1)) (J 1 1).toNat (J 1 1).toNat 0 0 0 = tf (tl t) t.length t.length 0 0 0 := by
    rw [hlen]
    exact tf_congr _ _ _ _ (fun j _ hj => hT.2.1 j (by omega))
  rw [ec] at e1
  have hr := tf_rg (t := tl t) (n := t.length) t.length 0 0 0 (by omega)
  have h24 := hT.2.2.1
  simp (disch := omega) only [f_X11_fault, ↓dhi_X, ↓dhG_X_0, ↓dhG_X_1, ↓dhG_X_2, ↓dhg_X_3, ↓dhq_X_3, ↓dhG_X_4, ↓dhG_X_5, ↓dhG_X_6, ↓dhg_X_7, ↓dhq_X_7, ↓dhG_X_8, ↓dhG_X_9, ↓dhG_X_10, ↓dhG_X_11, ↓dhG_X_12, ↓dhG_X_13, ↓dhG_X_14, ↓dhG_X_15, ↓dhG_X_16, ↓dhi_T h1T, ↓dhG_T_0 h1T, ↓dhg_T_1 h1T, ↓dhq_T_1 h1T, ↓dha_T_1 h1T, ↓dhs_T_1 h1T, ↓dhl_T_1 h1T, Option.bind_some, ↓nm_eq, ↓sm_inl, ↓sm_inr, ↓dzo_0, ↓dzo_1, ↓drg_ok, ↓if_pos, ↓if_neg, if_pos, if_neg, if_true, if_false, Int.toNat_natCast, rg_ok, ↓bnd e1]
theorem k_productions (h : JV u ps rs ps1 rs1 t lv sd w nw tp tq J L) : f_X11_productions 0 (hp u J L) = some (ps.length : Int) := by
  have hgm := gU_mem u
  have e1 := CG.cnt (u := u) (L := L) h.2.1.1
  have h24 := h.r24
  simp (disch := omega) only [f_X11_productions, ↓dhi_X, ↓dhG_X_0, ↓dhG_X_1, ↓dhG_X_2, ↓dhg_X_3, ↓dhq_X_3, ↓dhG_X_4, ↓dhG_X_5, ↓dhG_X_6, ↓dhg_X_7, ↓dhq_X_7, ↓dhG_X_8, ↓dhG_X_9, ↓dhG_X_10, ↓dhG_X_11, ↓dhG_X_12, ↓dhG_X_13, ↓dhG_X_14, ↓dhG_X_15, ↓dhG_X_16, ↓dhi_G hgm, ↓dhG_G_0 hgm, ↓dhG_G_1 hgm, ↓dhG_G_2 hgm, ↓dhg_G_3 hgm, ↓dhq_G_3 hgm, ↓dhG_G_4 hgm, ↓dhG_G_5 hgm, ↓dhg_G_6 hgm, ↓dhq_G_6 hgm, ↓dhg_G_7 hgm, ↓dhq_G_7 hgm, ↓dhG_G_8 hgm, ↓dhG_G_9 hgm, ↓dha_G_1 hgm, ↓dhs_G_1 hgm, ↓dhl_G_1 hgm, ↓dha_G_2 hgm, ↓dhs_G_2 hgm, ↓dhl_G_2 hgm, ↓dha_G_3 hgm, ↓dhs_G_3 hgm, ↓dhl_G_3 hgm, ↓dha_G_4 hgm, ↓dhl_G_4 hgm, ↓dha_G_5 hgm, ↓dhs_G_5 hgm, ↓dhl_G_5 hgm, Option.bind_some, ↓nm_eq, ↓sm_inl, ↓sm_inr, ↓dzo_0, ↓dzo_1, ↓drg_ok, ↓if_pos, ↓if_neg, if_pos, if_neg, if_true, if_false, Int.toNat_natCast, rg_ok, ↓bnd e1]
theorem k_left (h : JV u ps rs ps1 rs1 t lv sd w nw tp tq J L) {p : Nat} (hp1 : p < ps.length) : f_L_left 0 (p : Int) (hp u J L) = some (((ps.getD p (0, [])).1 : Int), hp u J L) := by
  have hgm := gU_mem u
  have e1 := CG.cnt (u := u) (L := L) h.2.1.1
  have h24 := h.r24
  have hw := h.2.2.1.1
  have hcg := h.2.2.1.2
  have e2 := X4_owner (u := u) (L := L) (p := p) hgm hw (by rw [hcg]; exact hp1)
  rw [hcg] at e2
  have eo : Go (gtp ps tp) p = (ps.getD p (0, [])).1 := rfl
  rw [eo] at e2
  have ho := (h.2.1.1.1.po.2 p hp1).1
  generalize (ps.getD p (0, [])).1 = o at *
  simp (disch := omega) only [f_L_left, f_X11_left, b_X11_left_15, ↓dhi_X, ↓dhG_X_0, ↓dhG_X_1, ↓dhG_X_2, ↓dhg_X_3, ↓dhq_X_3, ↓dhG_X_4, ↓dhG_X_5, ↓dhG_X_6, ↓dhg_X_7, ↓dhq_X_7, ↓dhG_X_8, ↓dhG_X_9, ↓dhG_X_10, ↓dhG_X_11, ↓dhG_X_12, ↓dhG_X_13, ↓dhG_X_14, ↓dhG_X_15, ↓dhG_X_16, ↓dhi_G hgm, ↓dhG_G_0 hgm, ↓dhG_G_1 hgm, ↓dhG_G_2 hgm, ↓dhg_G_3 hgm, ↓dhq_G_3 hgm, ↓dhG_G_4 hgm, ↓dhG_G_5 hgm, ↓dhg_G_6 hgm, ↓dhq_G_6 hgm, ↓dhg_G_7 hgm, ↓dhq_G_7 hgm, ↓dhG_G_8 hgm, ↓dhG_G_9 hgm, ↓dha_G_1 hgm, ↓dhs_G_1 hgm, ↓dhl_G_1 hgm, ↓dha_G_2 hgm, ↓dhs_G_2 hgm, ↓dhl_G_2 hgm, ↓dha_G_3 hgm, ↓dhs_G_3 hgm, ↓dhl_G_3 hgm, ↓dha_G_4 hgm, ↓dhl_G_4 hgm, ↓dha_G_5 hgm, ↓dhs_G_5 hgm, ↓dhl_G_5 hgm, Option.bind_some, ↓nm_eq, ↓sm_inl, ↓sm_inr, ↓dzo_0, ↓dzo_1, ↓drg_ok, ↓if_pos, ↓if_neg, if_pos, if_neg, if_true, if_false, Int.toNat_natCast, rg_ok, ↓bnd e1, ↓bnd e2] <;> rfl
theorem k_leftN (h : JV u ps rs ps1 rs1 t lv sd w nw tp tq J L) : f_L_left 0 (ps.length : Int) (hp u J L) = some (-101, hp u J L) := by
  have hgm := gU_mem u
  have e1 := CG.cnt (u := u) (L := L) h.2.1.1
  have h24 := h.r24
  simp (disch := omega) only [f_L_left, f_X11_left, b_X11_left_15, ↓dhi_X, ↓dhG_X_0, ↓dhG_X_1, ↓dhG_X_2, ↓dhg_X_3, ↓dhq_X_3, ↓dhG_X_4, ↓dhG_X_5, ↓dhG_X_6, ↓dhg_X_7, ↓dhq_X_7, ↓dhG_X_8, ↓dhG_X_9, ↓dhG_X_10, ↓dhG_X_11, ↓dhG_X_12, ↓dhG_X_13, ↓dhG_X_14, ↓dhG_X_15, ↓dhG_X_16, ↓dhi_G hgm, ↓dhG_G_0 hgm, ↓dhG_G_1 hgm, ↓dhG_G_2 hgm, ↓dhg_G_3 hgm, ↓dhq_G_3 hgm, ↓dhG_G_4 hgm, ↓dhG_G_5 hgm, ↓dhg_G_6 hgm, ↓dhq_G_6 hgm, ↓dhg_G_7 hgm, ↓dhq_G_7 hgm, ↓dhG_G_8 hgm, ↓dhG_G_9 hgm, ↓dha_G_1 hgm, ↓dhs_G_1 hgm, ↓dhl_G_1 hgm, ↓dha_G_2 hgm, ↓dhs_G_2 hgm, ↓dhl_G_2 hgm, ↓dha_G_3 hgm, ↓dhs_G_3 hgm, ↓dhl_G_3 hgm, ↓dha_G_4 hgm, ↓dhl_G_4 hgm, ↓dha_G_5 hgm, ↓dhs_G_5 hgm, ↓dhl_G_5 hgm, Option.bind_some, ↓nm_eq, ↓sm_inl, ↓sm_inr, ↓dzo_0, ↓dzo_1, ↓drg_ok, ↓if_pos, ↓if_neg, if_pos, if_neg, if_true, if_false, Int.toNat_natCast, rg_ok, ↓bnd e1, xI1, if_true]
theorem k_rightN (h : JV u ps rs ps1 rs1 t lv sd w nw tp tq J L) : f_L_right 0 0 5 (hp u J L) = some (-101, hp u J L) := by
  have hgm := gU_mem u
  have e1 := CG.cnt (u := u) (L := L) h.2.1.1
  have h24 := h.r24
  by_cases c : ps.length = 0
  · simp (disch := omega) only [f_L_right, f_X11_right, b_X11_right_24, ↓dhi_X, ↓dhG_X_0, ↓dhG_X_1, ↓dhG_X_2, ↓dhg_X_3, ↓dhq_X_3, ↓dhG_X_4, ↓dhG_X_5, ↓dhG_X_6, ↓dhg_X_7, ↓dhq_X_7, ↓dhG_X_8, ↓dhG_X_9, ↓dhG_X_10, ↓dhG_X_11, ↓dhG_X_12, ↓dhG_X_13, ↓dhG_X_14, ↓dhG_X_15, ↓dhG_X_16, ↓dhi_G hgm, ↓dhG_G_0 hgm, ↓dhG_G_1 hgm, ↓dhG_G_2 hgm, ↓dhg_G_3 hgm, ↓dhq_G_3 hgm, ↓dhG_G_4 hgm, ↓dhG_G_5 hgm, ↓dhg_G_6 hgm, ↓dhq_G_6 hgm, ↓dhg_G_7 hgm, ↓dhq_G_7 hgm, ↓dhG_G_8 hgm, ↓dhG_G_9 hgm, ↓dha_G_1 hgm, ↓dhs_G_1 hgm, ↓dhl_G_1 hgm, ↓dha_G_2 hgm, ↓dhs_G_2 hgm, ↓dhl_G_2 hgm, ↓dha_G_3 hgm, ↓dhs_G_3 hgm, ↓dhl_G_3 hgm, ↓dha_G_4 hgm, ↓dhl_G_4 hgm, ↓dha_G_5 hgm, ↓dhs_G_5 hgm, ↓dhl_G_5 hgm, Option.bind_some, ↓nm_eq, ↓sm_inl, ↓sm_inr, ↓dzo_0, ↓dzo_1, ↓drg_ok, ↓if_pos, ↓if_neg, if_pos, if_neg, if_true, if_false, Int.toNat_natCast, rg_ok, ↓bnd e1, xI1, if_true]
  · simp (disch := omega) only [f_L_right, f_X11_right, b_X11_right_24, ↓dhi_X, ↓dhG_X_0, ↓dhG_X_1, ↓dhG_X_2, ↓dhg_X_3, ↓dhq_X_3, ↓dhG_X_4, ↓dhG_X_5, ↓dhG_X_6, ↓dhg_X_7, ↓dhq_X_7, ↓dhG_X_8, ↓dhG_X_9, ↓dhG_X_10, ↓dhG_X_11, ↓dhG_X_12, ↓dhG_X_13, ↓dhG_X_14, ↓dhG_X_15, ↓dhG_X_16, ↓dhi_G hgm, ↓dhG_G_0 hgm, ↓dhG_G_1 hgm, ↓dhG_G_2 hgm, ↓dhg_G_3 hgm, ↓dhq_G_3 hgm, ↓dhG_G_4 hgm, ↓dhG_G_5 hgm, ↓dhg_G_6 hgm, ↓dhq_G_6 hgm, ↓dhg_G_7 hgm, ↓dhq_G_7 hgm, ↓dhG_G_8 hgm, ↓dhG_G_9 hgm, ↓dha_G_1 hgm, ↓dhs_G_1 hgm, ↓dhl_G_1 hgm, ↓dha_G_2 hgm, ↓dhs_G_2 hgm, ↓dhl_G_2 hgm, ↓dha_G_3 hgm, ↓dhs_G_3 hgm, ↓dhl_G_3 hgm, ↓dha_G_4 hgm, ↓dhl_G_4 hgm, ↓dha_G_5 hgm, ↓dhs_G_5 hgm, ↓dhl_G_5 hgm, Option.bind_some, ↓nm_eq, ↓sm_inl, ↓sm_inr, ↓dzo_0, ↓dzo_1, ↓drg_ok, ↓if_pos, ↓if_neg, if_pos, if_neg, if_true, if_false, Int.toNat_natCast, rg_ok, ↓bnd e1, xI1, if_true]
theorem k_start (h : JV u ps rs ps1 rs1 t lv sd w nw tp tq J L) {s : Nat} (hs : s < 8) : ∃ J1, f_L_start 0 (s : Int) (hp u J L) = some ((tp : Int), hp u J1 L) ∧ JV u ps rs ps1 rs1 t lv sd w nw s tq J1 L ∧ J1 161 = J 161 := by
  have hgm := gU_mem u
  have hw := h.2.2.1.1
  have hcg := h.2.2.1.2
  have h24 := h.r24
  have ht8 := h.1.1.2.2.2.2.1
  have e1 := X4_top (u := u) (L := L) hgm hw
  rw [hcg] at e1
  have et : ((Gt (gtp ps tp) : Nat) : Int) = (tp : Int) := rfl
  rw [et] at e1
  have e2 := X4_setTop (u := u) (I := J) (L := L) hgm (s : Int)
  obtain ⟨J0, hJ0⟩ : ∃ J0, J0 = gx_u J (gU u) 7 (s : Int) := ⟨_, rfl⟩
  rw [← hJ0] at e2
  have e3 := X11_forget (u := u) (I := J0) (L := L)
  have hg3 : gU u = 3 ∨ gU u = 87 := by rcases gUO u with ⟨q, -⟩ | ⟨q, -⟩ <;> omega
  refine ⟨fgt J0, ?_, ?_, ?_⟩
  · simp (disch := omega) only [f_L_start, f_X11_start, b_X11_start_10, ↓dhi_X, ↓dhG_X_0, ↓dhG_X_1, ↓dhG_X_2, ↓dhg_X_3, ↓dhq_X_3, ↓dhG_X_4, ↓dhG_X_5, ↓dhG_X_6, ↓dhg_X_7, ↓dhq_X_7, ↓dhG_X_8, ↓dhG_X_9, ↓dhG_X_10, ↓dhG_X_11, ↓dhG_X_12, ↓dhG_X_13, ↓dhG_X_14, ↓dhG_X_15, ↓dhG_X_16, ↓dhi_G hgm, ↓dhG_G_0 hgm, ↓dhG_G_1 hgm, ↓dhG_G_2 hgm, ↓dhg_G_3 hgm, ↓dhq_G_3 hgm, ↓dhG_G_4 hgm, ↓dhG_G_5 hgm, ↓dhg_G_6 hgm, ↓dhq_G_6 hgm, ↓dhg_G_7 hgm, ↓dhq_G_7 hgm, ↓dhG_G_8 hgm, ↓dhG_G_9 hgm, ↓dha_G_1 hgm, ↓dhs_G_1 hgm, ↓dhl_G_1 hgm, ↓dha_G_2 hgm, ↓dhs_G_2 hgm, ↓dhl_G_2 hgm, ↓dha_G_3 hgm, ↓dhs_G_3 hgm, ↓dhl_G_3 hgm, ↓dha_G_4 hgm, ↓dhl_G_4 hgm, ↓dha_G_5 hgm, ↓dhs_G_5 hgm, ↓dhl_G_5 hgm, Option.bind_some, ↓nm_eq, ↓sm_inl, ↓sm_inr, ↓dzo_0, ↓dzo_1, ↓drg_ok, ↓if_pos, ↓if_neg, if_pos, if_neg, if_true, if_false, Int.toNat_natCast, rg_ok, ↓bnd e1, ↓bnd e2, ↓bnd e3] <;> rfl
  · have f0 : ∀ a, a ≠ gU u → J0 a = J a := fun a h1 => by rw [hJ0, gu_ne h1]
    have hf : ∀ a, a ≠ gU u → a ≠ 64 → a ≠ 73 → a ≠ 79 → fgt J0 a = J a := fun a h1 h2 h3 h4 => by rw [fgt_a ⟨h2, h3, h4⟩, f0 a h1]
    have c0 : CG (gU u) J0 ps rs := by rw [hJ0]; exact h.2.1.1.top (by omega)
    refine h.forgot h.1.1.1 h.1.1.2.1 h.1.1.2.2.1 h.1.2.1 h.1.2.2 hs h.1.1.2.2.2.2.2 (fgt_cg hgm c0 h24.1) (h.2.1.2.1.eq h24.2.1 (fun a h1 h2 => hf a (by rcases gUO u with ⟨q1, q2⟩ | ⟨q1, q2⟩ <;> omega) (by rcases gUO u with ⟨q1, q2⟩ | ⟨q1, q2⟩ <;> omega) (by rcases gUO u with ⟨q1, q2⟩ | ⟨q1, q2⟩ <;> omega) (by rcases gUO u with ⟨q1, q2⟩ | ⟨q1, q2⟩ <;> omega))) ?_ ?_ (fun a hz => ?_) ?_ ?_ fgt_0 ?_
    · rw [fgt_a (by omega), hJ0, gu_same]
    · rw [hf (gO u) (by rcases gUO u with ⟨q1, q2⟩ | ⟨q1, q2⟩ <;> omega) (by rcases gUO u with ⟨q1, q2⟩ | ⟨q1, q2⟩ <;> omega) (by rcases gUO u with ⟨q1, q2⟩ | ⟨q1, q2⟩ <;> omega) (by rcases gUO u with ⟨q1, q2⟩ | ⟨q1, q2⟩ <;> omega)]
      exact h.2.1.2.2.2.1
    · have : a = 1 ∨ a = 2 ∨ a = 61 ∨ a = 62 ∨ a = 63 := by simpa using hz
      exact hf a (by omega) (by omega) (by omega) (by omega)
    · rw [hf 0 (by omega) (by decide) (by decide) (by decide)]
    · rw [hf 0 (by omega) (by decide) (by decide) (by decide)]; exact h.2.1.2.2.2.2.2.2.2.2
    · refine ⟨fgt_1.1.trans (by rw [f0 73 (by omega)]), fgt_1.2.trans (by rw [f0 79 (by omega)]), ?_, ?_, ?_⟩
      · rw [hf 148 (by omega) (by decide) (by decide) (by decide)]
      · rw [hf 151 (by omega) (by decide) (by decide) (by decide)]
      · rw [hf 154 (by omega) (by decide) (by decide) (by decide)]
  · rw [fgt_a (by decide), hJ0, gu_ne (by omega)]
theorem k_level (h : JV u ps rs ps1 rs1 t lv sd w nw tp tq J L) {p : Nat} {y z : Int} (hp8 : p < 8) (hy : 0 ≤ y ∧ y ≤ 5) (hz : 0 ≤ z ∧ z ≤ 2) : ∃ J1, f_L_level 0 (p : Int) y z (hp u J L) = some (lv p, hp u J1 L) ∧ JV u ps rs ps1 rs1 t (zup lv p y) (zup sd p z) w nw tp tq J1 L ∧ J1 161 = J 161 := by
  have hc := h.clv
  have e61 : J 61 p = lv p := (hc.2 p hp8).1
  have hlp := (hc.1 p hp8).1
  have hL : LVR (zup lv p y) (zup sd p z) := fun q hq => by
    by_cases cq : q = p
    · rw [cq, zup_eq, zup_eq]; omega
    · rw [zup_ne cq, zup_ne cq]; exact hc.1 q hq
  have hup : ∀ (lv : Nat → Int) (y : Int) (K : Nat → Nat → Int) (a : Nat), (∀ y, y < 8 → K a y = lv y) → ∀ q, q < 8 → gx_u K a p y a q = zup lv p y q := fun lv y K a hf q hq => by
    by_cases cy : q = p
    · rw [cy, gu_same, zup_eq]
    · rw [gu_at_ne cy, zup_ne cy]; exact hf q hq
  have fr : ∀ a, a ≠ 61 → a ≠ 62 → gx_u (gx_u J 61 p y) 62 p z a = J a := fun a h1 h2 => by rw [gu_ne h2, gu_ne h1]
  refine ⟨gx_u (gx_u J 61 p y) 62 p z, ?_, ?_, fr 161 (by decide) (by decide)⟩
  · generalize lv p = l0 at *
    simp (disch := omega) only [f_L_level, f_X11_level, b_X11_level_16, b_X11_level_35, ↓bnd (isT8_1 hp8 _), ↓dhi_X, ↓dhG_X_0, ↓dhG_X_1, ↓dhG_X_2, ↓dhg_X_3, ↓dhq_X_3, ↓dhG_X_4, ↓dhG_X_5, ↓dhG_X_6, ↓dhg_X_7, ↓dhq_X_7, ↓dhG_X_8, ↓dhG_X_9, ↓dhG_X_10, ↓dhG_X_11, ↓dhG_X_12, ↓dhG_X_13, ↓dhG_X_14, ↓dhG_X_15, ↓dhG_X_16, ↓dha_61, ↓dhs_61, ↓dhl_61, ↓dha_62, ↓dhs_62, ↓dhl_62, Option.bind_some, ↓nm_eq, ↓sm_inl, ↓sm_inr, ↓dzo_0, ↓dzo_1, ↓drg_ok, ↓if_pos, ↓if_neg, if_pos, if_neg, if_true, if_false, Int.toNat_natCast, rg_ok, e61] <;> rfl
  · refine h.upd (fun a ha => fr a (fun z => by simp [z] at ha) (fun z => by simp [z] at ha)) (by rw [fr 0 (by decide) (by decide)]) rfl (h.tl.fr (fr 1 (by decide) (by decide)) (fr 2 (by decide) (by decide))) ⟨hL, fun q hq => ⟨?_, ?_⟩⟩ ?_ (by rw [fr 0 (by decide) (by decide)]; exact h.h7) h.sw
    · rw [gu_ne (by decide)]; exact hup lv y J 61 (fun y hy => (hc.2 y hy).1) q hq
    · exact hup sd z (gx_u J 61 p y) 62 (fun y hy => by rw [gu_ne (by decide)]; exact (hc.2 y hy).2) q hq
    · have := h.cse
      unfold CSE at *
      rw [fr 63 (by decide) (by decide)]; exact this
theorem k_put (hn : 1000000000000000000000000000000 ≤ n) (h : JV u ps rs ps1 rs1 t lv sd w nw tp tq J L) {p q : Nat} (hp1 : p ≤ nw) (hq : q < 8) (hlt : nw < 12) : ∃ J1, f_L_put n 0 (p : Int) (q : Int) (hp u J L) = some ((nw : Int) + 1, hp u J1 L) ∧ JV u ps rs ps1 rs1 t lv sd (wi w p q) (nw + 1) tp tq J1 L ∧ J1 161 = J 161 := by
  have e07 := h.h7
  have hsw := h.sw
  obtain ⟨J1, e1, f1, g1, g2, g3⟩ := put_c (n := n) (u := u) (w := w) (nw := nw) (p := p) (y := q) (J0 := J) (L := L) hlt hq (nw - p) n nw J (by omega) (by omega) (Nat.le_refl _) Fr.rf (fun i hi => by
    rw [h.cse i hi]
    by_cases c : i ≤ nw
    · rw [if_pos c]
    · rw [if_neg c, hsw.2.2 i (by omega), hsw.2.2 (i - 1) (by omega)]) e07
  have fr : ∀ a, a ≠ 0 → a ≠ 63 → J1 a = J a := fun a h1 h2 => f1 a (by simp; omega)
  refine ⟨J1, ?_, ?_, fr 161 (by decide) (by decide)⟩
  · obtain ⟨m, hm⟩ : ∃ m : Int, m = (nw : Int) + 1 := ⟨_, rfl⟩
    rw [← hm] at e1 ⊢
    have hm1 : 0 ≤ m ∧ m ≤ 12 := by omega
    clear hm
    have e5 : f_X11_put n 0 (p : Int) (q : Int) (hp u J L) = some (.inl m, hp u J1 L) := by
      simp (disch := omega) only [f_X11_put, b_X11_put_19, ↓dhi_X, ↓dhG_X_0, ↓dhG_X_1, ↓dhG_X_2, ↓dhg_X_3, ↓dhq_X_3, ↓dhG_X_4, ↓dhG_X_5, ↓dhG_X_6, ↓dhg_X_7, ↓dhq_X_7, ↓dhG_X_8, ↓dhG_X_9, ↓dhG_X_10, ↓dhG_X_11, ↓dhG_X_12, ↓dhG_X_13, ↓dhG_X_14, ↓dhG_X_15, ↓dhG_X_16, Option.bind_some, ↓nm_eq, ↓sm_inl, ↓sm_inr, ↓dzo_0, ↓dzo_1, ↓drg_ok, ↓if_pos, ↓if_neg, if_pos, if_neg, if_true, if_false, Int.toNat_natCast, rg_ok, e07, ↓bnd (isT8_1 hq _)]
      exact e1
    simp (disch := omega) only [f_L_put, ↓dhi_X, ↓dhG_X_0, ↓dhG_X_1, ↓dhG_X_2, ↓dhg_X_3, ↓dhq_X_3, ↓dhG_X_4, ↓dhG_X_5, ↓dhG_X_6, ↓dhg_X_7, ↓dhq_X_7, ↓dhG_X_8, ↓dhG_X_9, ↓dhG_X_10, ↓dhG_X_11, ↓dhG_X_12, ↓dhG_X_13, ↓dhG_X_14, ↓dhG_X_15, ↓dhG_X_16, Option.bind_some, ↓nm_eq, ↓sm_inl, ↓sm_inr, ↓dzo_0, ↓dzo_1, ↓drg_ok, ↓if_pos, ↓if_neg, if_pos, if_neg, if_true, if_false, Int.toNat_natCast, rg_ok, ↓bnd e5]
  · refine h.upd (fun a ha => fr a (fun z => by simp [z] at ha) (fun z => by simp [z] at ha)) (g1 3 (by decide)) rfl (h.tl.fr (fr 1 (by decide) (by decide)) (fr 2 (by decide) (by decide))) (h.clv.fr (fr 61 (by decide) (by decide)) (fr 62 (by decide) (by decide))) g3 (by rw [g2]; omega) (hsw.ins hp1 hlt hq)
theorem k_cut (hn : 1000000000000000000000000000000 ≤ n) (h : JV u ps rs ps1 rs1 t lv sd w nw tp tq J L) {p : Nat} (hp1 : p < nw) : ∃ J1, f_L_cut n 0 (p : Int) (hp u J L) = some ((w p : Int), hp u J1 L) ∧ JV u ps rs ps1 rs1 t lv sd (wc w p) (nw - 1) tp tq J1 L ∧ J1 161 = J 161 := by
  have e07 := h.h7
  have hsw := h.sw
  have h12 := hsw.1
  have hwp := hsw.2.1 p hp1
  have ep : J 63 p = (w p : Int) := h.cse p (by omega)
  obtain ⟨J1, e1, f1, g1, g2, g3⟩ := cut_c (n := n) (u := u) (w := w) (nw := nw) (p := p) (J0 := J) (L := L) h12 (by omega) hsw (w p : Int) (12 - p) n p J (by omega) (by omega) (Nat.le_refl _) Fr.rf (fun i hi => by rw [h.cse i hi, if_neg (by omega)]) e07
  have fr : ∀ a, a ≠ 0 → a ≠ 63 → J1 a = J a := fun a h1 h2 => f1 a (by simp; omega)
  refine ⟨J1, ?_, ?_, fr 161 (by decide) (by decide)⟩
  · simp (disch := omega) only [f_L_cut, f_X11_cut, b_X11_cut_12, ↓dhi_X, ↓dhG_X_0, ↓dhG_X_1, ↓dhG_X_2, ↓dhg_X_3, ↓dhq_X_3, ↓dhG_X_4, ↓dhG_X_5, ↓dhG_X_6, ↓dhg_X_7, ↓dhq_X_7, ↓dhG_X_8, ↓dhG_X_9, ↓dhG_X_10, ↓dhG_X_11, ↓dhG_X_12, ↓dhG_X_13, ↓dhG_X_14, ↓dhG_X_15, ↓dhG_X_16, ↓dha_63, ↓dhs_63, ↓dhl_63, Option.bind_some, ↓nm_eq, ↓sm_inl, ↓sm_inr, ↓dzo_0, ↓dzo_1, ↓drg_ok, ↓if_pos, ↓if_neg, if_pos, if_neg, if_true, if_false, Int.toNat_natCast, rg_ok, ↓bnd e1, e07, ep]
  · refine h.upd (fun a ha => fr a (fun z => by simp [z] at ha) (fun z => by simp [z] at ha)) (g1 3 (by decide)) rfl (h.tl.fr (fr 1 (by decide) (by decide)) (fr 2 (by decide) (by decide))) (h.clv.fr (fr 61 (by decide) (by decide)) (fr 62 (by decide) (by decide))) g3 g2 (hsw.del hp1)
end KC
