/-! ===== the state after a change ===== -/
theorem CST.eq' {u : Nat} {g : GT} {J J' L L' : Nat → Nat → Int} (h : CST u g J L) (w' : GW (gU u) J') (hg' : cG J' (gU u) = g) (e : ∀ a, 64 ≤ a → a ≤ 86 → J' a = J a) (e2 : ∀ a, a ∈ [148, 151, 154] → J' a 2 = J a 2) (eL : L' 69 = L 69) : CST u g J' L' := by
  obtain ⟨-, hF, hm, h1, h2⟩ := h
  refine ⟨⟨w', hg'⟩, ?_, ?_, ?_, ?_⟩
  · rcases hF with z | ⟨z1, z2⟩
    · exact Or.inl (by rw [e 64 (by omega) (by omega)]; exact z)
    · exact Or.inr ⟨by rw [e 64 (by omega) (by omega)]; exact z1, cF_fr (e 65 (by omega) (by omega)) (e 66 (by omega) (by omega)) (e 67 (by omega) (by omega)) (e 68 (by omega) (by omega)) (e 71 (by omega) (by omega)) (e 72 (by omega) (by omega)) (by rw [e 64 (by omega) (by omega)]) (by rw [e 64 (by omega) (by omega)]) (by rw [e 64 (by omega) (by omega)]) eL z2⟩
  · rw [e2 148 (by decide), e2 151 (by decide), e2 154 (by decide), e 73 (by omega) (by omega), e 79 (by omega) (by omega)]; exact hm
  · exact h1.fr (fun k _ => by rw [e (va true) (by decide) (by decide)]) (e _ (by decide) (by decide)) (e _ (by decide) (by decide))
  · exact h2.fr (fun k _ => by rw [e (va false) (by decide) (by decide)]) (e _ (by decide) (by decide)) (e _ (by decide) (by decide))
theorem RG.re {u : Nat} {J : Nat → Nat → Int} {ps : List (Nat × List Nat)} {rs : List (Nat × List Int)} {tp : Nat} (h : RG u J ps rs) (h9 : J 161 9 = (u : Int)) (ht : J 170 u = (tp : Int)) : RE (gtp ps tp) J := by
  refine ⟨h.1.1, ?_⟩
  have e1 : rw9 J = u := by unfold rw9; rw [h9, Int.toNat_natCast]
  have e2 : rG J = rGw J (rw9 J) := rfl
  rw [e2, e1, h.1.gt, ht, Int.toNat_natCast]
theorem CG.cst {v : Nat} {J : Nat → Nat → Int} {ps : List (Nat × List Nat)} {rs : List (Nat × List Int)} {tp : Nat} (h : CG v J ps rs) (ht : J v 7 = (tp : Int)) : GW v J ∧ cG J v = gtp ps tp := by
  refine ⟨h.1.1, ?_⟩
  rw [h.1.gt, ht, Int.toNat_natCast]
section UPD
variable {u : Nat} {ps ps1 : List (Nat × List Nat)} {rs rs1 : List (Nat × List Int)} {t : List Int} {lv sd : Nat → Int} {w : Nat → Nat} {nw tp tq : Nat} {J L J' L' : Nat → Nat → Int}
/-- text, levels or word have changed -/
theorem IV.upd (h : IV u ps rs ps1 rs1 t lv sd w nw tp tq J L) {t' : List Int} {lv' sd' : Nat → Int} {w' : Nat → Nat} {nw' : Nat} (e : ∀ a, a ∉ [0, 1, 2, 61, 62, 63, 161, 171, 172, 173, 175] → J' a = J a) (e03 : J' 0 3 = J 0 3) (eM : ∀ k, k ≠ 13 → k ≠ 17 → k ≠ 44 → J' 161 k = J 161 k) (eL : ∀ a, a ≠ 193 → L' a = L a) (hT : TL 1 J' t') (hl : CLV lv' sd' J') (hs : CSE w' J') (h7 : J' 0 7 = (nw' : Int)) (rT : RT J' t') (rl : RLV lv' sd' J') (rw' : WSE w' nw' J') (hsw : SW w' nw') : IV u ps rs ps1 rs1 t' lv' sd' w' nw' tp tq J' L' := by
  have h24 := h.r24
  obtain ⟨⟨a1, a2, a3, a4, a5, a6⟩, ⟨c1, c2, c3, c4, c5, c6, c7, c8, c9⟩, ⟨r1, r2, r3, r4, r5, r6, r7, r8⟩, hc, hr⟩ := h
  have hn : ∀ a, ((3 ≤ a ∧ a ≤ 60) ∨ (64 ≤ a ∧ a ≤ 160) ∨ (162 ≤ a ∧ a ≤ 170) ∨ a = 174 ∨ 176 ≤ a) → J' a = J a := fun a ha => e a (fun z => by simp at z; omega)
  have hv : ∀ v, v = gU u ∨ v = gO u → ∀ a, v ≤ a → a < v + 58 → J' a = J a := fun v hv a h1 h2 => hn a (by rcases gUO u with ⟨q1, q2⟩ | ⟨q1, q2⟩ <;> rcases hv with z | z <;> omega)
  refine ⟨⟨a1, a2, a3, hsw, a5, a6⟩, ⟨c1.eq h24.1 (hv _ (Or.inl rfl)), c2.eq h24.2.1 (hv _ (Or.inr rfl)), ?_, ?_, hT, hl, hs, h7, e03.trans c9⟩, ⟨r1.eq (fun a h1 h2 => hn a (by omega)) (eM 9 (by omega) (by omega) (by omega)), r2.eq (fun a h1 h2 => hn a (by omega)) (eM 9 (by omega) (by omega) (by omega)), (eM 9 (by omega) (by omega) (by omega)).trans r3, ?_, ?_, rT, rl, rw'⟩, ?_, ?_⟩
  · rw [hv _ (Or.inl rfl) _ (Nat.le_refl _) (by omega)]; exact c3
  · rw [hv _ (Or.inr rfl) _ (Nat.le_refl _) (by omega)]; exact c4
  · rw [hn 170 (by omega)]; exact r4
  · rw [hn 170 (by omega)]; exact r5
  · exact hc.eq (fun a ha => hn a (by simp [CKL] at ha; omega)) (fun a ha => by rw [hn a (by simp at ha; omega)]) (eL 69 (by omega))
  · have f : Fr [0, 1, 2, 61, 62, 63, 161, 171, 172, 173, 175] J J' := e
    exact hr.eq (hr.1.fr f (eM 9 (by omega) (by omega) (by omega)) (by decide)) (fun a ha => hn a (by simp at ha; omega)) (fun k hk => eM k (by omega) (by omega) (by omega)) (eL 179 (by omega))
/-- all that was found has been forgotten -/
theorem IV.forgot (h : IV u ps rs ps1 rs1 t lv sd w nw tp tq J L) {u' : Nat} {psa psb : List (Nat × List Nat)} {rsa rsb : List (Nat × List Int)} {ta tb' : Nat} (hu : u' < 2) (a1 : AO psa rsa) (a2 : AO psb rsb) (ht : ta < 8) (hq : tb' < 8) (c1 : CG (gU u') J' psa rsa) (c2 : CG (gO u') J' psb rsb) (c3 : J' (gU u') 7 = (ta : Int)) (c4 : J' (gO u') 7 = (tb' : Int)) (e : ∀ a, a ∈ [1, 2, 61, 62, 63, 171, 172, 175] → J' a = J a) (e07 : J' 0 7 = J 0 7) (e03 : J' 0 3 = (u' : Int)) (r1 : RG u' J' psa rsa) (r2 : RG (1 - u') J' psb rsb) (r3 : J' 161 9 = (u' : Int)) (r4 : J' 170 u' = (ta : Int)) (r5 : J' 170 (1 - u') = (tb' : Int)) (r6 : RT J' t) (r17 : J' 161 17 = J 161 17) (hf : J' 64 1 = 0 ∧ J' 73 2 = 0 ∧ J' 79 2 = 0) (hm : J' 73 1 = J 73 1 ∧ J' 79 1 = J 79 1 ∧ J' 148 2 = J 148 2 ∧ J' 151 2 = J 151 2 ∧ J' 154 2 = J 154 2) (hr : J' 161 33 = 0 ∧ J' 161 34 = 0 ∧ J' 161 35 = 0) : IV u' psa rsa psb rsb t lv sd w nw ta tb' J' L' := by
  have hmm := h.2.2.2.1.2.2.1
  have hcl := h.clv
  have hce := h.cse
  have hrl := h.rlv
  have hwe := h.wse
  have hT := h.2.1.2.2.2.2.1
  have h07 := h.2.1.2.2.2.2.2.2.2.1
  refine ⟨⟨hu, a1, a2, h.sw, ht, hq⟩, ⟨c1, c2, c3, c4, hT.fr (e 1 (by decide)) (e 2 (by decide)), hcl.fr (e 61 (by decide)) (e 62 (by decide)), ?_, e07.trans h07, e03⟩, ⟨r1, r2, r3, r4, r5, r6, hrl.fr (e 171 (by decide)) (e 172 (by decide)), ?_⟩, CST.forgot (c1.cst c3).1 (c1.cst c3).2 ?_ hf, RST.forgot (r1.re r3 r4) hr⟩
  · unfold CSE at *; rw [e 63 (by decide)]; exact hce
  · unfold WSE at *; rw [e 175 (by decide), r17]; exact hwe
  · rw [hm.1, hm.2.1, hm.2.2.1, hm.2.2.2.1, hm.2.2.2.2]; exact hmm
/-- nothing has changed but the room of what was being built -/
theorem IV.same (h : IV u ps rs ps1 rs1 t lv sd w nw tp tq J L) (c1 : CG (gU u) J' ps rs) (e : ∀ a, a < 161 → (a < gU u ∨ gU u + 58 ≤ a) → J' a = J a) (e7 : J' (gU u) 7 = J (gU u) 7) (r1 : RG u J' ps rs) (r2 : RG (1 - u) J' ps1 rs1) (e9 : J' 161 9 = J 161 9) (e17 : J' 161 17 = J 161 17) (eR : ∀ a, a ∈ [170, 171, 172, 175, 176, 177, 178, 180, 181, 183, 184, 185, 186] → J' a = J a) (hf : (∀ k, k = 18 ∨ k = 25 ∨ k = 29 ∨ k = 32 ∨ k = 33 ∨ k = 34 ∨ k = 35 → J' 161 k = J 161 k) ∨ (J' 161 33 = 0 ∧ J' 161 34 = 0 ∧ J' 161 35 = 0)) (r6 : RT J' t) (eL : ∀ a, a ≠ 193 → L' a = L a) : IV u ps rs ps1 rs1 t lv sd w nw tp tq J' L' := by
  have h24 := h.r24
  have hcl := h.clv
  have hce := h.cse
  have hrl := h.rlv
  have hwe := h.wse
  obtain ⟨hh, ⟨-, c2, c3, c4, c5, c6, c7, c8, c9⟩, ⟨-, -, r3, r4, r5, -, r7, r8⟩, hc, hr⟩ := h
  have hu := hh.1
  have hn : ∀ a, (a < 3 ∨ (61 ≤ a ∧ a ≤ 86) ∨ (145 ≤ a ∧ a ≤ 160)) → J' a = J a := fun a ha => e a (by omega) (by rcases gUO u with ⟨q1, q2⟩ | ⟨q1, q2⟩ <;> omega)
  have hO : ∀ a, gO u ≤ a → a < gO u + 58 → J' a = J a := fun a h1 h2 => e a (by rcases gUO u with ⟨q1, q2⟩ | ⟨q1, q2⟩ <;> omega) (by rcases gUO u with ⟨q1, q2⟩ | ⟨q1, q2⟩ <;> omega)
  have c3' := e7.trans c3
  have r4' : J' 170 u = (tp : Int) := by rw [eR 170 (by decide)]; exact r4
  have r3' := e9.trans r3
  refine ⟨hh, ⟨c1, c2.eq h24.2.1 hO, c3', ?_, c5.fr (hn 1 (by omega)) (hn 2 (by omega)), hcl.fr (hn 61 (by omega)) (hn 62 (by omega)), ?_, ?_, ?_⟩, ⟨r1, r2, r3', r4', ?_, r6, hrl.fr (eR 171 (by decide)) (eR 172 (by decide)), ?_⟩, ?_, ?_⟩
  · rw [hO _ (Nat.le_refl _) (by omega)]; exact c4
  · unfold CSE at *; rw [hn 63 (by omega)]; exact hce
  · rw [hn 0 (by omega)]; exact c8
  · rw [hn 0 (by omega)]; exact c9
  · rw [eR 170 (by decide)]; exact r5
  · unfold WSE at *; rw [eR 175 (by decide), e17]; exact hwe
  · exact hc.eq' (c1.cst c3').1 (c1.cst c3').2 (fun a h1 h2 => hn a (by omega)) (fun a ha => by rw [hn a (by simp at ha; omega)]) (eL 69 (by omega))
  · rcases hf with z | z
    · exact hr.eq (r1.re r3' r4') (fun a ha => eR a (by simp at ha ⊢; omega)) z (eL 179 (by omega))
    · exact RST.forgot (r1.re r3' r4') z
theorem IV.gm (h : IV u ps rs ps1 rs1 t lv sd w nw tp tq J L) : (gU u = 3 ∨ gU u = 87) ∧ gU u ∈ [3, 87] ∧ GW (gU u) J ∧ cG J (gU u) = gtp ps tp ∧ RE (gtp ps tp) J := ⟨by rcases gUO u with ⟨q, -⟩ | ⟨q, -⟩ <;> omega, gU_mem u, h.2.2.2.1.1.1, h.2.2.2.1.1.2, h.2.2.2.2.1⟩
end UPD
