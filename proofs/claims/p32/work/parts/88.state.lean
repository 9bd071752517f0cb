/-! ===== the class's state between calls ===== -/
def JV (u : Nat) (ps : List (Nat × List Nat)) (rs : List (Nat × List Int)) (ps1 : List (Nat × List Nat)) (rs1 : List (Nat × List Int)) (t : List Int) (lv sd : Nat → Int) (w : Nat → Nat) (nw tp tq : Nat) (J L : Nat → Nat → Int) : Prop :=
  ((u < 2 ∧ AO ps rs ∧ AO ps1 rs1 ∧ SW w nw ∧ tp < 8 ∧ tq < 8) ∧ A0 ps rs ∧ A0 ps1 rs1) ∧
  (CG (gU u) J ps rs ∧ CG (gO u) J ps1 rs1 ∧ J (gU u) 7 = (tp : Int) ∧ J (gO u) 7 = (tq : Int) ∧ TL 1 J t ∧ CLV lv sd J ∧ CSE w J ∧ J 0 7 = (nw : Int) ∧ J 0 3 = (u : Int)) ∧
  CST u (gtp ps tp) J L
theorem CG.cst' {v : Nat} {J : Nat → Nat → Int} {ps : List (Nat × List Nat)} {rs : List (Nat × List Int)} {tp : Nat} (h : CG v J ps rs) (ht : J v 7 = (tp : Int)) : GW v J ∧ cG J v = gtp ps tp := by
  refine ⟨h.1.1, ?_⟩
  rw [h.1.gt, ht, Int.toNat_natCast]
section JVS
variable {u : Nat} {ps ps1 : List (Nat × List Nat)} {rs rs1 : List (Nat × List Int)} {t : List Int} {lv sd : Nat → Int} {w : Nat → Nat} {nw tp tq : Nat} {J L J' L' : Nat → Nat → Int}
theorem JV.r24 (h : JV u ps rs ps1 rs1 t lv sd w nw tp tq J L) : rs.length ≤ 24 ∧ rs1.length ≤ 24 ∧ ps.length ≤ 24 ∧ ps1.length ≤ 24 := by
  have h1 := h.1.1.2.1.lt
  have h2 := h.1.1.2.2.1.lt
  have h3 := h.2.1.1.1.po.1
  have h4 := h.2.1.2.1.1.po.1
  omega
theorem JV.gr (h : JV u ps rs ps1 rs1 t lv sd w nw tp tq J L) : GR (gtp ps tp) := h.2.2.gr
theorem JV.clv (h : JV u ps rs ps1 rs1 t lv sd w nw tp tq J L) : CLV lv sd J := h.2.1.2.2.2.2.2.1
theorem JV.cse (h : JV u ps rs ps1 rs1 t lv sd w nw tp tq J L) : CSE w J := h.2.1.2.2.2.2.2.2.1
theorem JV.sw (h : JV u ps rs ps1 rs1 t lv sd w nw tp tq J L) : SW w nw := h.1.1.2.2.2.1
theorem JV.tl (h : JV u ps rs ps1 rs1 t lv sd w nw tp tq J L) : TL 1 J t := h.2.1.2.2.2.2.1
theorem JV.h7 (h : JV u ps rs ps1 rs1 t lv sd w nw tp tq J L) : J 0 7 = (nw : Int) := h.2.1.2.2.2.2.2.2.2.1
/-- where only what is found and built has changed -/
theorem JV.rest (h : JV u ps rs ps1 rs1 t lv sd w nw tp tq J L) (e : ∀ a, (a < 64 ∨ (87 ≤ a ∧ a ≤ 144)) → J' a = J a) (hc : CST u (gtp ps tp) J' L') : JV u ps rs ps1 rs1 t lv sd w nw tp tq J' L' := by
  have h24 := h.r24
  obtain ⟨h0, ⟨c1, c2, c3, c4, c5, c6, c7, c8, c9⟩, -⟩ := h
  have hv : ∀ v, v = gU u ∨ v = gO u → ∀ a, v ≤ a → a < v + 58 → J' a = J a := fun v hv a h1 h2 => e a (by rcases gUO u with ⟨q1, q2⟩ | ⟨q1, q2⟩ <;> rcases hv with z | z <;> omega)
  refine ⟨h0, ⟨c1.eq h24.1 (hv _ (Or.inl rfl)), c2.eq h24.2.1 (hv _ (Or.inr rfl)), ?_, ?_, c5.fr (e 1 (by omega)) (e 2 (by omega)), c6.fr (e 61 (by omega)) (e 62 (by omega)), ?_, ?_, ?_⟩, hc⟩
  · rw [hv _ (Or.inl rfl) _ (Nat.le_refl _) (by omega)]; exact c3
  · rw [hv _ (Or.inr rfl) _ (Nat.le_refl _) (by omega)]; exact c4
  · unfold CSE at *; rw [e 63 (by omega)]; exact c7
  · rw [e 0 (by omega)]; exact c8
  · rw [e 0 (by omega)]; exact c9
/-- a question leaves the state -/
theorem JV.c (h : JV u ps rs ps1 rs1 t lv sd w nw tp tq J L) (q : CQO u (gtp ps tp) J L J' L') : JV u ps rs ps1 rs1 t lv sd w nw tp tq J' L' ∧ J' 161 = J 161 := by
  obtain ⟨f, fL, hc⟩ := q
  have hn : ∀ a, (a < 64 ∨ (87 ≤ a ∧ a ≤ 144) ∨ 161 ≤ a) → J' a = J a := fun a ha => f a (fun z => by simp [CLQ] at z; omega)
  exact ⟨h.rest (fun a ha => hn a (by omega)) hc, hn 161 (by omega)⟩
/-- text, levels or word have changed -/
theorem JV.upd (h : JV u ps rs ps1 rs1 t lv sd w nw tp tq J L) {t' : List Int} {lv' sd' : Nat → Int} {w' : Nat → Nat} {nw' : Nat} (e : ∀ a, a ∉ [0, 1, 2, 61, 62, 63, 161] → J' a = J a) (e03 : J' 0 3 = J 0 3) (eL : L' 69 = L 69) (hT : TL 1 J' t') (hl : CLV lv' sd' J') (hs : CSE w' J') (h7 : J' 0 7 = (nw' : Int)) (hsw : SW w' nw') : JV u ps rs ps1 rs1 t' lv' sd' w' nw' tp tq J' L' := by
  have h24 := h.r24
  obtain ⟨⟨⟨a1, a2, a3, a4, a5, a6⟩, b1, b2⟩, ⟨c1, c2, c3, c4, c5, c6, c7, c8, c9⟩, hc⟩ := h
  have hn : ∀ a, ((3 ≤ a ∧ a ≤ 60) ∨ (64 ≤ a ∧ a ≤ 160)) → J' a = J a := fun a ha => e a (fun z => by simp at z; omega)
  have hv : ∀ v, v = gU u ∨ v = gO u → ∀ a, v ≤ a → a < v + 58 → J' a = J a := fun v hv a h1 h2 => hn a (by rcases gUO u with ⟨q1, q2⟩ | ⟨q1, q2⟩ <;> rcases hv with z | z <;> omega)
  refine ⟨⟨⟨a1, a2, a3, hsw, a5, a6⟩, b1, b2⟩, ⟨c1.eq h24.1 (hv _ (Or.inl rfl)), c2.eq h24.2.1 (hv _ (Or.inr rfl)), ?_, ?_, hT, hl, hs, h7, e03.trans c9⟩, ?_⟩
  · rw [hv _ (Or.inl rfl) _ (Nat.le_refl _) (by omega)]; exact c3
  · rw [hv _ (Or.inr rfl) _ (Nat.le_refl _) (by omega)]; exact c4
  · exact hc.eq (fun a ha => hn a (by simp [CKL] at ha; omega)) (fun a ha => by rw [hn a (by simp at ha; omega)]) eL
/-- all that was found has been forgotten -/
theorem JV.forgot (h : JV u ps rs ps1 rs1 t lv sd w nw tp tq J L) {u' : Nat} {psa psb : List (Nat × List Nat)} {rsa rsb : List (Nat × List Int)} {ta tb' : Nat} (hu : u' < 2) (a1 : AO psa rsa) (a2 : AO psb rsb) (b1 : A0 psa rsa) (b2 : A0 psb rsb) (ht : ta < 8) (hq : tb' < 8) (c1 : CG (gU u') J' psa rsa) (c2 : CG (gO u') J' psb rsb) (c3 : J' (gU u') 7 = (ta : Int)) (c4 : J' (gO u') 7 = (tb' : Int)) (e : ∀ a, a ∈ [1, 2, 61, 62, 63] → J' a = J a) (e07 : J' 0 7 = J 0 7) (e03 : J' 0 3 = (u' : Int)) (hf : J' 64 1 = 0 ∧ J' 73 2 = 0 ∧ J' 79 2 = 0) (hm : J' 73 1 = J 73 1 ∧ J' 79 1 = J 79 1 ∧ J' 148 2 = J 148 2 ∧ J' 151 2 = J 151 2 ∧ J' 154 2 = J 154 2) : JV u' psa rsa psb rsb t lv sd w nw ta tb' J' L' := by
  have hmm := h.2.2.2.2.1
  have hcl := h.clv
  have hce := h.cse
  have hT := h.tl
  have h07 := h.h7
  refine ⟨⟨⟨hu, a1, a2, h.sw, ht, hq⟩, b1, b2⟩, ⟨c1, c2, c3, c4, hT.fr (e 1 (by decide)) (e 2 (by decide)), hcl.fr (e 61 (by decide)) (e 62 (by decide)), ?_, e07.trans h07, e03⟩, CST.forgot (c1.cst' c3).1 (c1.cst' c3).2 ?_ hf⟩
  · unfold CSE at *; rw [e 63 (by decide)]; exact hce
  · rw [hm.1, hm.2.1, hm.2.2.1, hm.2.2.2.1, hm.2.2.2.2]; exact hmm
/-- nothing has changed but the room of what was being built -/
theorem JV.same (h : JV u ps rs ps1 rs1 t lv sd w nw tp tq J L) (c1 : CG (gU u) J' ps rs) (e : ∀ a, a < 161 → (a < gU u ∨ gU u + 58 ≤ a) → J' a = J a) (e7 : J' (gU u) 7 = J (gU u) 7) (eL : L' 69 = L 69) : JV u ps rs ps1 rs1 t lv sd w nw tp tq J' L' := by
  have h24 := h.r24
  have hcl := h.clv
  have hce := h.cse
  obtain ⟨hh, ⟨-, c2, c3, c4, c5, c6, c7, c8, c9⟩, hc⟩ := h
  have hn : ∀ a, (a < 3 ∨ (61 ≤ a ∧ a ≤ 86) ∨ (145 ≤ a ∧ a ≤ 160)) → J' a = J a := fun a ha => e a (by omega) (by rcases gUO u with ⟨q1, q2⟩ | ⟨q1, q2⟩ <;> omega)
  have hO : ∀ a, gO u ≤ a → a < gO u + 58 → J' a = J a := fun a h1 h2 => e a (by rcases gUO u with ⟨q1, q2⟩ | ⟨q1, q2⟩ <;> omega) (by rcases gUO u with ⟨q1, q2⟩ | ⟨q1, q2⟩ <;> omega)
  have c3' := e7.trans c3
  refine ⟨hh, ⟨c1, c2.eq h24.2.1 hO, c3', ?_, c5.fr (hn 1 (by omega)) (hn 2 (by omega)), hcl.fr (hn 61 (by omega)) (hn 62 (by omega)), ?_, ?_, ?_⟩, ?_⟩
  · rw [hO _ (Nat.le_refl _) (by omega)]; exact c4
  · unfold CSE at *; rw [hn 63 (by omega)]; exact hce
  · rw [hn 0 (by omega)]; exact c8
  · rw [hn 0 (by omega)]; exact c9
  · exact hc.eq' (c1.cst' c3').1 (c1.cst' c3').2 (fun a h1 h2 => hn a (by omega)) (fun a ha => by rw [hn a (by simp at ha; omega)]) eL
end JVS
/-! questions about nonterminals, where all has been found -/
section QN
variable {u : Nat} {n : Nat} {J L : Nat → Nat → Int} {g : GT}
theorem learn_id (hq : J 64 1 = 1) : f_X3_learn n 64 (hp u J L) = some (hp u J L) := by
  simp (disch := omega) only [f_X3_learn, ↓dhi_F, ↓dhG_F_0, ↓dhg_F_1, ↓dhq_F_1, ↓dhg_F_2, ↓dhq_F_2, ↓dhg_F_3, ↓dhq_F_3, ↓dhg_F_4, ↓dhq_F_4, ↓dhG_F_5, ↓dhG_F_6, ↓dhG_F_7, ↓dhG_F_8, ↓dhG_F_9, ↓dhg_F_10, ↓dhq_F_10, ↓dhG_F_11, ↓dhG_F_12, ↓dhG_F_13, Option.bind_some, ↓nm_eq, ↓sm_inl, ↓sm_inr, ↓dzo_0, ↓dzo_1, ↓drg_ok, ↓if_pos, ↓if_neg, if_pos, if_neg, if_true, if_false, Int.toNat_natCast, rg_ok, hq]
theorem n_shortest (hq : J 64 1 = 1) {a : Nat} (ha : a < 16) : f_L_shortest n 0 (a : Int) (hp u J L) = some (J 68 (16 + a), hp u J L) := by
  have e := learn_id (n := n) (u := u) (L := L) hq
  simp (disch := omega) only [f_L_shortest, f_X11_shortest, ↓bnd (reqN_1 ha _), ↓dhi_X, ↓dhG_X_0, ↓dhG_X_1, ↓dhG_X_2, ↓dhg_X_3, ↓dhq_X_3, ↓dhG_X_4, ↓dhG_X_5, ↓dhG_X_6, ↓dhg_X_7, ↓dhq_X_7, ↓dhG_X_8, ↓dhG_X_9, ↓dhG_X_10, ↓dhG_X_11, ↓dhG_X_12, ↓dhG_X_13, ↓dhG_X_14, ↓dhG_X_15, ↓dhG_X_16, ↓dhi_F, ↓dhG_F_0, ↓dhg_F_1, ↓dhq_F_1, ↓dhg_F_2, ↓dhq_F_2, ↓dhg_F_3, ↓dhq_F_3, ↓dhg_F_4, ↓dhq_F_4, ↓dhG_F_5, ↓dhG_F_6, ↓dhG_F_7, ↓dhG_F_8, ↓dhG_F_9, ↓dhg_F_10, ↓dhq_F_10, ↓dhG_F_11, ↓dhG_F_12, ↓dhG_F_13, Option.bind_some, ↓nm_eq, ↓sm_inl, ↓sm_inr, ↓dzo_0, ↓dzo_1, ↓drg_ok, ↓if_pos, ↓if_neg, if_pos, if_neg, if_true, if_false, Int.toNat_natCast, rg_ok, ↓bnd e, ↓bnd (X3_least ha)]
theorem n_uses (hF : cF g J L) (hq : J 64 1 = 1) {a : Nat} (ha : a < 16) : f_L_uses n 0 (a : Int) (hp u J L) = some ((if cLe J a = 1000 then 0 else 1) + (if bt (J 64 2) a = true then 2 else 0), hp u J L) := by
  have e := learn_id (n := n) (u := u) (L := L) hq
  have e1 := X3_isProductive (u := u) (L := L) (J := J) hF ha
  have e2 := X3_reached (u := u) (L := L) (J := J) ha
  by_cases c1 : cLe J a = 1000
  · rw [if_pos c1] at e1 ⊢
    cases c2 : bt (J 64 2) a with
    | true =>
      rw [c2, b01_t] at e2
      simp (disch := omega) only [f_L_uses, f_X11_uses, b_X11_uses_27, b_X11_uses_43, ↓bnd (reqN_1 ha _), ↓dhi_X, ↓dhG_X_0, ↓dhG_X_1, ↓dhG_X_2, ↓dhg_X_3, ↓dhq_X_3, ↓dhG_X_4, ↓dhG_X_5, ↓dhG_X_6, ↓dhg_X_7, ↓dhq_X_7, ↓dhG_X_8, ↓dhG_X_9, ↓dhG_X_10, ↓dhG_X_11, ↓dhG_X_12, ↓dhG_X_13, ↓dhG_X_14, ↓dhG_X_15, ↓dhG_X_16, ↓dhi_F, ↓dhG_F_0, ↓dhg_F_1, ↓dhq_F_1, ↓dhg_F_2, ↓dhq_F_2, ↓dhg_F_3, ↓dhq_F_3, ↓dhg_F_4, ↓dhq_F_4, ↓dhG_F_5, ↓dhG_F_6, ↓dhG_F_7, ↓dhG_F_8, ↓dhG_F_9, ↓dhg_F_10, ↓dhq_F_10, ↓dhG_F_11, ↓dhG_F_12, ↓dhG_F_13, Option.bind_some, ↓nm_eq, ↓sm_inl, ↓sm_inr, ↓dzo_0, ↓dzo_1, ↓drg_ok, ↓if_pos, ↓if_neg, if_pos, if_neg, if_true, if_false, Int.toNat_natCast, rg_ok, ↓bnd e, ↓bnd e1, ↓bnd e2] <;> rfl
    | false =>
      rw [c2, b01_f] at e2
      simp (disch := omega) only [f_L_uses, f_X11_uses, b_X11_uses_27, b_X11_uses_43, ↓bnd (reqN_1 ha _), ↓dhi_X, ↓dhG_X_0, ↓dhG_X_1, ↓dhG_X_2, ↓dhg_X_3, ↓dhq_X_3, ↓dhG_X_4, ↓dhG_X_5, ↓dhG_X_6, ↓dhg_X_7, ↓dhq_X_7, ↓dhG_X_8, ↓dhG_X_9, ↓dhG_X_10, ↓dhG_X_11, ↓dhG_X_12, ↓dhG_X_13, ↓dhG_X_14, ↓dhG_X_15, ↓dhG_X_16, ↓dhi_F, ↓dhG_F_0, ↓dhg_F_1, ↓dhq_F_1, ↓dhg_F_2, ↓dhq_F_2, ↓dhg_F_3, ↓dhq_F_3, ↓dhg_F_4, ↓dhq_F_4, ↓dhG_F_5, ↓dhG_F_6, ↓dhG_F_7, ↓dhG_F_8, ↓dhG_F_9, ↓dhg_F_10, ↓dhq_F_10, ↓dhG_F_11, ↓dhG_F_12, ↓dhG_F_13, Option.bind_some, ↓nm_eq, ↓sm_inl, ↓sm_inr, ↓dzo_0, ↓dzo_1, ↓drg_ok, ↓if_pos, ↓if_neg, if_pos, if_neg, if_true, if_false, Int.toNat_natCast, rg_ok, ↓bnd e, ↓bnd e1, ↓bnd e2] <;> rfl
  · rw [if_neg c1] at e1 ⊢
    cases c2 : bt (J 64 2) a with
    | true =>
      rw [c2, b01_t] at e2
      simp (disch := omega) only [f_L_uses, f_X11_uses, b_X11_uses_27, b_X11_uses_43, ↓bnd (reqN_1 ha _), ↓dhi_X, ↓dhG_X_0, ↓dhG_X_1, ↓dhG_X_2, ↓dhg_X_3, ↓dhq_X_3, ↓dhG_X_4, ↓dhG_X_5, ↓dhG_X_6, ↓dhg_X_7, ↓dhq_X_7, ↓dhG_X_8, ↓dhG_X_9, ↓dhG_X_10, ↓dhG_X_11, ↓dhG_X_12, ↓dhG_X_13, ↓dhG_X_14, ↓dhG_X_15, ↓dhG_X_16, ↓dhi_F, ↓dhG_F_0, ↓dhg_F_1, ↓dhq_F_1, ↓dhg_F_2, ↓dhq_F_2, ↓dhg_F_3, ↓dhq_F_3, ↓dhg_F_4, ↓dhq_F_4, ↓dhG_F_5, ↓dhG_F_6, ↓dhG_F_7, ↓dhG_F_8, ↓dhG_F_9, ↓dhg_F_10, ↓dhq_F_10, ↓dhG_F_11, ↓dhG_F_12, ↓dhG_F_13, Option.bind_some, ↓nm_eq, ↓sm_inl, ↓sm_inr, ↓dzo_0, ↓dzo_1, ↓drg_ok, ↓if_pos, ↓if_neg, if_pos, if_neg, if_true, if_false, Int.toNat_natCast, rg_ok, ↓bnd e, ↓bnd e1, ↓bnd e2] <;> rfl
    | false =>
      rw [c2, b01_f] at e2
      simp (disch := omega) only [f_L_uses, f_X11_uses, b_X11_uses_27, b_X11_uses_43, ↓bnd (reqN_1 ha _), ↓dhi_X, ↓dhG_X_0, ↓dhG_X_1, ↓dhG_X_2, ↓dhg_X_3, ↓dhq_X_3, ↓dhG_X_4, ↓dhG_X_5, ↓dhG_X_6, ↓dhg_X_7, ↓dhq_X_7, ↓dhG_X_8, ↓dhG_X_9, ↓dhG_X_10, ↓dhG_X_11, ↓dhG_X_12, ↓dhG_X_13, ↓dhG_X_14, ↓dhG_X_15, ↓dhG_X_16, ↓dhi_F, ↓dhG_F_0, ↓dhg_F_1, ↓dhq_F_1, ↓dhg_F_2, ↓dhq_F_2, ↓dhg_F_3, ↓dhq_F_3, ↓dhg_F_4, ↓dhq_F_4, ↓dhG_F_5, ↓dhG_F_6, ↓dhG_F_7, ↓dhG_F_8, ↓dhG_F_9, ↓dhg_F_10, ↓dhq_F_10, ↓dhG_F_11, ↓dhG_F_12, ↓dhG_F_13, Option.bind_some, ↓nm_eq, ↓sm_inl, ↓sm_inr, ↓dzo_0, ↓dzo_1, ↓drg_ok, ↓if_pos, ↓if_neg, if_pos, if_neg, if_true, if_false, Int.toNat_natCast, rg_ok, ↓bnd e, ↓bnd e1, ↓bnd e2] <;> rfl
theorem n_nullable (hq : J 64 1 = 1) {a : Nat} (ha : a < 16) : f_L_nullable n 0 (a : Int) (hp u J L) = some (b01 (bt (J 65 (16 + a)) 9), hp u J L) := by
  have e := learn_id (n := n) (u := u) (L := L) hq
  have ev := X3_vanishes (u := u) (L := L) (J := J) ha
  cases q : bt (J 65 (16 + a)) 9 with
  | true =>
    rw [q, b01_t] at ev
    rw [b01_t]
    simp (disch := omega) only [f_L_nullable, f_X11_isNullable, ↓bnd (reqN_1 ha _), ↓dhi_X, ↓dhG_X_0, ↓dhG_X_1, ↓dhG_X_2, ↓dhg_X_3, ↓dhq_X_3, ↓dhG_X_4, ↓dhG_X_5, ↓dhG_X_6, ↓dhg_X_7, ↓dhq_X_7, ↓dhG_X_8, ↓dhG_X_9, ↓dhG_X_10, ↓dhG_X_11, ↓dhG_X_12, ↓dhG_X_13, ↓dhG_X_14, ↓dhG_X_15, ↓dhG_X_16, ↓dhi_F, ↓dhG_F_0, ↓dhg_F_1, ↓dhq_F_1, ↓dhg_F_2, ↓dhq_F_2, ↓dhg_F_3, ↓dhq_F_3, ↓dhg_F_4, ↓dhq_F_4, ↓dhG_F_5, ↓dhG_F_6, ↓dhG_F_7, ↓dhG_F_8, ↓dhG_F_9, ↓dhg_F_10, ↓dhq_F_10, ↓dhG_F_11, ↓dhG_F_12, ↓dhG_F_13, Option.bind_some, ↓nm_eq, ↓sm_inl, ↓sm_inr, ↓dzo_0, ↓dzo_1, ↓drg_ok, ↓if_pos, ↓if_neg, if_pos, if_neg, if_true, if_false, Int.toNat_natCast, rg_ok, ↓bnd e, ↓bnd ev]
  | false =>
    rw [q, b01_f] at ev
    rw [b01_f]
    simp (disch := omega) only [f_L_nullable, f_X11_isNullable, ↓bnd (reqN_1 ha _), ↓dhi_X, ↓dhG_X_0, ↓dhG_X_1, ↓dhG_X_2, ↓dhg_X_3, ↓dhq_X_3, ↓dhG_X_4, ↓dhG_X_5, ↓dhG_X_6, ↓dhg_X_7, ↓dhq_X_7, ↓dhG_X_8, ↓dhG_X_9, ↓dhG_X_10, ↓dhG_X_11, ↓dhG_X_12, ↓dhG_X_13, ↓dhG_X_14, ↓dhG_X_15, ↓dhG_X_16, ↓dhi_F, ↓dhG_F_0, ↓dhg_F_1, ↓dhq_F_1, ↓dhg_F_2, ↓dhq_F_2, ↓dhg_F_3, ↓dhq_F_3, ↓dhg_F_4, ↓dhq_F_4, ↓dhG_F_5, ↓dhG_F_6, ↓dhG_F_7, ↓dhG_F_8, ↓dhG_F_9, ↓dhg_F_10, ↓dhq_F_10, ↓dhG_F_11, ↓dhG_F_12, ↓dhG_F_13, Option.bind_some, ↓nm_eq, ↓sm_inl, ↓sm_inr, ↓dzo_0, ↓dzo_1, ↓drg_ok, ↓if_pos, ↓if_neg, if_pos, if_neg, if_true, if_false, Int.toNat_natCast, rg_ok, ↓bnd e, ↓bnd ev]
theorem n_first (hq : J 64 1 = 1) {a : Nat} (ha : a < 16) : f_L_first n 0 (a : Int) (hp u J L) = some (gi_and (J 65 (16 + a)) 255, hp u J L) := by
  have e := learn_id (n := n) (u := u) (L := L) hq
  simp (disch := omega) only [f_L_first, f_X11_first, ↓bnd (reqN_1 ha _), ↓dhi_X, ↓dhG_X_0, ↓dhG_X_1, ↓dhG_X_2, ↓dhg_X_3, ↓dhq_X_3, ↓dhG_X_4, ↓dhG_X_5, ↓dhG_X_6, ↓dhg_X_7, ↓dhq_X_7, ↓dhG_X_8, ↓dhG_X_9, ↓dhG_X_10, ↓dhG_X_11, ↓dhG_X_12, ↓dhG_X_13, ↓dhG_X_14, ↓dhG_X_15, ↓dhG_X_16, ↓dhi_F, ↓dhG_F_0, ↓dhg_F_1, ↓dhq_F_1, ↓dhg_F_2, ↓dhq_F_2, ↓dhg_F_3, ↓dhq_F_3, ↓dhg_F_4, ↓dhq_F_4, ↓dhG_F_5, ↓dhG_F_6, ↓dhG_F_7, ↓dhG_F_8, ↓dhG_F_9, ↓dhg_F_10, ↓dhq_F_10, ↓dhG_F_11, ↓dhG_F_12, ↓dhG_F_13, Option.bind_some, ↓nm_eq, ↓sm_inl, ↓sm_inr, ↓dzo_0, ↓dzo_1, ↓drg_ok, ↓if_pos, ↓if_neg, if_pos, if_neg, if_true, if_false, Int.toNat_natCast, rg_ok, ↓bnd e, ↓bnd (X3_firsts ha)]
theorem n_follow (hq : J 64 1 = 1) {a : Nat} (ha : a < 16) : f_L_follow n 0 (a : Int) (hp u J L) = some (J 66 a, hp u J L) := by
  have e := learn_id (n := n) (u := u) (L := L) hq
  simp (disch := omega) only [f_L_follow, f_X11_follow, ↓bnd (reqN_1 ha _), ↓dhi_X, ↓dhG_X_0, ↓dhG_X_1, ↓dhG_X_2, ↓dhg_X_3, ↓dhq_X_3, ↓dhG_X_4, ↓dhG_X_5, ↓dhG_X_6, ↓dhg_X_7, ↓dhq_X_7, ↓dhG_X_8, ↓dhG_X_9, ↓dhG_X_10, ↓dhG_X_11, ↓dhG_X_12, ↓dhG_X_13, ↓dhG_X_14, ↓dhG_X_15, ↓dhG_X_16, ↓dhi_F, ↓dhG_F_0, ↓dhg_F_1, ↓dhq_F_1, ↓dhg_F_2, ↓dhq_F_2, ↓dhg_F_3, ↓dhq_F_3, ↓dhg_F_4, ↓dhq_F_4, ↓dhG_F_5, ↓dhG_F_6, ↓dhG_F_7, ↓dhG_F_8, ↓dhG_F_9, ↓dhg_F_10, ↓dhq_F_10, ↓dhG_F_11, ↓dhG_F_12, ↓dhG_F_13, Option.bind_some, ↓nm_eq, ↓sm_inl, ↓sm_inr, ↓dzo_0, ↓dzo_1, ↓drg_ok, ↓if_pos, ↓if_neg, if_pos, if_neg, if_true, if_false, Int.toNat_natCast, rg_ok, ↓bnd e, ↓bnd (X3_behind a ha)]
theorem n_sent1 (hF : cF g J L) (hq : J 64 1 = 1) {a v : Nat} (ha : a < 16) (h1 : J 68 (16 + a) ≤ 20) (h2 : (v : Int) < J 68 (16 + a)) : ∃ k d : Nat, (k : Int) = J 68 (16 + a) - 1 - v ∧ (∃ e, grJ g e ∧ d = tx e a ∧ ln e a = cLe J a ∧ ∀ b, b < 16 → ln e b = if cLe J b = 1000 then 1000 else if cLe J b ≤ 21 then cLe J b else 21) ∧ f_L_sentence n 0 (a : Int) (v : Int) (hp u J L) = some (((d / 8 ^ k % 8 : Nat) : Int), hp u J L) := by
  have e := learn_id (n := n) (u := u) (L := L) hq
  have el := X3_least (u := u) (L := L) (J := J) ha
  obtain ⟨e9, q1, q2, q3⟩ := hF.2.2.2.2.2.2.2.2.1
  obtain ⟨k, d, hk, hk2, ⟨w, w1, w2, w3⟩, es, h20⟩ := sent_c (u := u) hF ha h1 h2
  have hw : w a = e9 a := grJ_uniq w1 q1 a ha
  have hx : tx w a = tx e9 a := by unfold tx; rw [hw]
  have hl : ln w a = ln e9 a := by unfold ln; rw [hw]
  refine ⟨k, d, hk2, ⟨e9, q1, by rw [w2, hx], by rw [← hl, w3], q2⟩, ?_⟩
  simp (disch := omega) only [f_L_sentence, f_X11_sentence, ↓bnd (reqN_1 ha _), ↓dhi_X, ↓dhG_X_0, ↓dhG_X_1, ↓dhG_X_2, ↓dhg_X_3, ↓dhq_X_3, ↓dhG_X_4, ↓dhG_X_5, ↓dhG_X_6, ↓dhg_X_7, ↓dhq_X_7, ↓dhG_X_8, ↓dhG_X_9, ↓dhG_X_10, ↓dhG_X_11, ↓dhG_X_12, ↓dhG_X_13, ↓dhG_X_14, ↓dhG_X_15, ↓dhG_X_16, ↓dhi_F, ↓dhG_F_0, ↓dhg_F_1, ↓dhq_F_1, ↓dhg_F_2, ↓dhq_F_2, ↓dhg_F_3, ↓dhq_F_3, ↓dhg_F_4, ↓dhq_F_4, ↓dhG_F_5, ↓dhG_F_6, ↓dhG_F_7, ↓dhG_F_8, ↓dhG_F_9, ↓dhg_F_10, ↓dhq_F_10, ↓dhG_F_11, ↓dhG_F_12, ↓dhG_F_13, Option.bind_some, ↓nm_eq, ↓sm_inl, ↓sm_inr, ↓dzo_0, ↓dzo_1, ↓drg_ok, ↓if_pos, ↓if_neg, if_pos, if_neg, if_true, if_false, Int.toNat_natCast, rg_ok, ↓bnd e, ↓bnd el, ↓bnd es]
theorem n_sent0 (hF : cF g J L) (hq : J 64 1 = 1) {a v : Nat} (ha : a < 16) (h1 : J 68 (16 + a) ≤ 20) (h2 : J 68 (16 + a) ≤ (v : Int)) (hv : v < 1000) : f_L_sentence n 0 (a : Int) (v : Int) (hp u J L) = some (-103, hp u J L) := by
  have e := learn_id (n := n) (u := u) (L := L) hq
  have el := X3_least (u := u) (L := L) (J := J) ha
  have hl := cF_len hF ha
  by_cases c : J 68 (16 + a) = -1
  · rw [c] at el
    simp (disch := omega) only [f_L_sentence, f_X11_sentence, b_X11_sentence_50, ↓bnd (reqN_1 ha _), ↓dhi_X, ↓dhG_X_0, ↓dhG_X_1, ↓dhG_X_2, ↓dhg_X_3, ↓dhq_X_3, ↓dhG_X_4, ↓dhG_X_5, ↓dhG_X_6, ↓dhg_X_7, ↓dhq_X_7, ↓dhG_X_8, ↓dhG_X_9, ↓dhG_X_10, ↓dhG_X_11, ↓dhG_X_12, ↓dhG_X_13, ↓dhG_X_14, ↓dhG_X_15, ↓dhG_X_16, ↓dhi_F, ↓dhG_F_0, ↓dhg_F_1, ↓dhq_F_1, ↓dhg_F_2, ↓dhq_F_2, ↓dhg_F_3, ↓dhq_F_3, ↓dhg_F_4, ↓dhq_F_4, ↓dhG_F_5, ↓dhG_F_6, ↓dhG_F_7, ↓dhG_F_8, ↓dhG_F_9, ↓dhg_F_10, ↓dhq_F_10, ↓dhG_F_11, ↓dhG_F_12, ↓dhG_F_13, Option.bind_some, ↓nm_eq, ↓sm_inl, ↓sm_inr, ↓dzo_0, ↓dzo_1, ↓drg_ok, ↓if_pos, ↓if_neg, if_pos, if_neg, if_true, if_false, Int.toNat_natCast, rg_ok, ↓bnd e, ↓bnd el, xI3, xI6, if_true, if_false]
  · simp (disch := omega) only [f_L_sentence, f_X11_sentence, b_X11_sentence_50, ↓bnd (reqN_1 ha _), ↓dhi_X, ↓dhG_X_0, ↓dhG_X_1, ↓dhG_X_2, ↓dhg_X_3, ↓dhq_X_3, ↓dhG_X_4, ↓dhG_X_5, ↓dhG_X_6, ↓dhg_X_7, ↓dhq_X_7, ↓dhG_X_8, ↓dhG_X_9, ↓dhG_X_10, ↓dhG_X_11, ↓dhG_X_12, ↓dhG_X_13, ↓dhG_X_14, ↓dhG_X_15, ↓dhG_X_16, ↓dhi_F, ↓dhG_F_0, ↓dhg_F_1, ↓dhq_F_1, ↓dhg_F_2, ↓dhq_F_2, ↓dhg_F_3, ↓dhq_F_3, ↓dhg_F_4, ↓dhq_F_4, ↓dhG_F_5, ↓dhG_F_6, ↓dhG_F_7, ↓dhG_F_8, ↓dhG_F_9, ↓dhg_F_10, ↓dhq_F_10, ↓dhG_F_11, ↓dhG_F_12, ↓dhG_F_13, Option.bind_some, ↓nm_eq, ↓sm_inl, ↓sm_inr, ↓dzo_0, ↓dzo_1, ↓drg_ok, ↓if_pos, ↓if_neg, if_pos, if_neg, if_true, if_false, Int.toNat_natCast, rg_ok, ↓bnd e, ↓bnd el, xI3, xI6, if_true, if_false]
end QN
