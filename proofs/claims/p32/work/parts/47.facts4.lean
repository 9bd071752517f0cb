/-! ===== Facts: relations, their closure ===== -/
def cRe (I : Nat → Nat → Int) (a b : Nat) : Prop := a < 16 ∧ b < 16 ∧ bt (I 70 a) b = true
/-- the relation's row holds numbers in range, with no bits but those of nonterminals -/
def cRk (I : Nat → Nat → Int) : Prop := cOk 70 16 I ∧ ∀ a, a < 16 → ∀ i, bt (I 70 a) i = true → i < 16
section FD
variable {u : Nat} {L : Nat → Nat → Int} {n : Nat}
theorem nF70 : 3 ∉ [70] ∧ 4 ∉ [70] ∧ 5 ∉ [70] ∧ 6 ∉ [70] ∧ 87 ∉ [70] ∧ 88 ∉ [70] ∧ 89 ∉ [70] ∧ 90 ∉ [70] := by decide
theorem X3_relate {I J : Nat → Nat → Int} (hw : GW (gU u) I) (hfr : Fr [70] I J) (hR : cRk J) {p k : Nat} (hk : k < Gl (cG I (gU u)) p) :
    ∃ J' : Nat → Nat → Int, f_X3_relate 64 (p : Int) (k : Int) (hp u J L) = some (hp u J' L) ∧ Fr [70] I J' ∧ cRk J' ∧ ∀ a b, cRe J' a b ↔ cRe J a b ∨ (a = Go (cG I (gU u)) p ∧ Gs (cG I (gU u)) p k = 16 + b) := by
  have hg := GR_of hw
  have hwJ := GWu_fr hfr nF70 hw
  have hgJ := cGu_fr (u := u) hfr nF70
  have hkJ : k < Gl (cG J (gU u)) p := by rw [hgJ]; exact hk
  have hp1 := hg.2.2.2.2.1 p k hk
  have hp2 : p < Gn (cG J (gU u)) := by rw [hgJ]; exact hp1
  have hs := hg.2.2.2.2.2 p k hk
  have ho := hg.2.2.1 p
  simp (disch := omega) only [f_X3_relate, hi_F, hG_F_0, hg_F_1, hq_F_1, hg_F_2, hq_F_2, hg_F_3, hq_F_3, hg_F_4, hq_F_4, hG_F_5, hG_F_6, hG_F_7, hG_F_8, hG_F_9, hg_F_10, hq_F_10, hG_F_11, hG_F_12, hG_F_13, Option.bind_some, nm_eq, sm_inl, sm_inr, zo_0, zo_1, hi_G (gU_mem u), X4_symbol (gU_mem u) hwJ hkJ, hgJ, X11_isN, rg_ok]
  by_cases hN : 16 ≤ Gs (cG I (gU u)) p k
  · rw [if_pos (⟨hN, by omega⟩ : 16 ≤ Gs (cG I (gU u)) p k ∧ Gs (cG I (gU u)) p k < 32)]
    simp (disch := omega) only [hi_F, hG_F_0, hg_F_1, hq_F_1, hg_F_2, hq_F_2, hg_F_3, hq_F_3, hg_F_4, hq_F_4, hG_F_5, hG_F_6, hG_F_7, hG_F_8, hG_F_9, hg_F_10, hq_F_10, hG_F_11, hG_F_12, hG_F_13, Option.bind_some, nm_eq, sm_inl, sm_inr, zo_0, zo_1, hi_G (gU_mem u), X4_owner (gU_mem u) hwJ hp2, hgJ, rg_ok]
    rw [if_neg (by decide), show ((Gs (cG I (gU u)) p k : Nat) : Int) - 16 = ((Gs (cG I (gU u)) p k - 16 : Nat) : Int) by omega,
      X3_widen (N := 16) rfl (by decide) (by decide) ho (hR.1 _ ho)]
    have hb : ∀ i, bt (gi_shl 1 ((Gs (cG I (gU u)) p k - 16 : Nat) : Int)) i = decide (i = Gs (cG I (gU u)) p k - 16) := fun i => bt_shl1 (by omega) i
    by_cases e : gi_or (J 70 (Go (cG I (gU u)) p)) (gi_shl 1 ((Gs (cG I (gU u)) p k - 16 : Nat) : Int)) = J 70 (Go (cG I (gU u)) p)
    · rw [if_pos e]
      refine ⟨J, rfl, hfr, hR, fun a b => ⟨Or.inl, ?_⟩⟩
      rintro (q | ⟨q1, q2⟩)
      · exact q
      · have := (bt_or_left (hR.1 _ ho)).mp e (Gs (cG I (gU u)) p k - 16) (by omega) (by rw [hb]; simp)
        rw [q1]
        exact ⟨ho, by omega, by rw [show b = Gs (cG I (gU u)) p k - 16 by omega]; exact this⟩
    · rw [if_neg e]
      refine ⟨_, rfl, hfr.wr (List.mem_singleton.mpr rfl), ⟨hR.1.wr (bt_ok_or _ _), fun a ha i hi => ?_⟩, fun a b => ?_⟩
      · rw [gu_at] at hi
        split at hi
        · rw [bt_or, hb, Bool.or_eq_true, decide_eq_true_eq] at hi
          rcases hi with hi | hi
          · exact hR.2 _ ho i hi
          · omega
        · exact hR.2 a ha i hi
      · unfold cRe
        rw [gu_at]
        split
        · next e1 =>
          rw [bt_or, hb, Bool.or_eq_true, decide_eq_true_eq, ← e1]
          constructor
          · rintro ⟨q1, q2, q3 | q3⟩
            · exact Or.inl ⟨q1, q2, q3⟩
            · exact Or.inr ⟨rfl, by omega⟩
          · rintro (⟨q1, q2, q3⟩ | ⟨q1, q2⟩)
            · exact ⟨q1, q2, Or.inl q3⟩
            · exact ⟨by omega, by omega, Or.inr (by omega)⟩
        · next e1 =>
          constructor
          · exact Or.inl
          · rintro (q | ⟨q1, q2⟩)
            · exact q
            · exact absurd q1 e1
  · rw [if_neg (fun z : 16 ≤ Gs (cG I (gU u)) p k ∧ Gs (cG I (gU u)) p k < 32 => hN z.1)]
    simp (disch := omega) only [Option.bind_some, nm_eq, sm_inl, sm_inr, zo_0, zo_1, rg_ok]
    rw [if_pos trivial]
    refine ⟨J, rfl, hfr, hR, fun a b => ⟨Or.inl, ?_⟩⟩
    rintro (q | ⟨q1, q2⟩)
    · exact q
    · omega
theorem X11_has (x : Int) (k : Nat) (hk : k < 32) (h : gi_H) : f_X11_has x (k : Int) h = some (if bt x k = true then 1 else 0) := by
  simp only [f_X11_has, bt_has hk]
  by_cases hb : bt x k = true
  · rw [if_pos hb]; rfl
  · rw [if_neg hb]; rfl
/-- one turn of the closing, over the rows from f on -/
theorem cR_in {I T : Nat → Nat → Int} {by_ : Nat} (hby : by_ < 16) (r2 : Nat → Int → gi_H → Option gi_H) : ∀ (m f fr : Nat) (J : Nat → Nat → Int), 16 = fr + m → m < f → Fr [70] I J → cRk T → cRk J → (∀ a, a < 16 → ∀ b, bt (J 70 a) b = true ↔ bt (T 70 a) b = true ∨ (a < fr ∧ bt (T 70 a) by_ = true ∧ bt (T 70 by_) b = true)) →
    ∃ J' : Nat → Nat → Int, l_X3_closeRelation_10 n r2 f 64 (by_ : Int) (fr : Int) (hp u J L) = r2 64 ((by_ + 1 : Nat) : Int) (hp u J' L) ∧ Fr [70] I J' ∧ cRk J' ∧ ∀ a, a < 16 → ∀ b, bt (J' 70 a) b = true ↔ bt (T 70 a) b = true ∨ (bt (T 70 a) by_ = true ∧ bt (T 70 by_) b = true) := by
  intro m
  induction m with
  | zero =>
    intro f fr J hm hf hfr hT hR hv
    obtain ⟨f', rfl⟩ : ∃ f', f = f' + 1 := ⟨f - 1, by omega⟩
    simp (disch := omega) only [l_X3_closeRelation_10, b_X3_closeRelation_10, b_X3_closeRelation_50, Option.bind_some, nm_eq, sm_inl, sm_inr, zo_0, zo_1, rg_ok]
    rw [if_pos (by omega), show (by_ : Int) + 1 = ((by_ + 1 : Nat) : Int) by omega]
    refine ⟨J, rfl, hfr, hR, fun a ha b => ?_⟩
    rw [hv a ha b]
    exact ⟨fun q => q.elim Or.inl (fun z => Or.inr z.2), fun q => q.elim Or.inl (fun z => Or.inr ⟨by omega, z⟩)⟩
  | succ m ih =>
    intro f fr J hm hf hfr hT hR hv
    obtain ⟨f', rfl⟩ : ∃ f', f = f' + 1 := ⟨f - 1, by omega⟩
    have hfr16 : fr < 16 := by omega
    simp (disch := omega) only [l_X3_closeRelation_10, b_X3_closeRelation_10, b_X3_closeRelation_44, hi_F, hG_F_0, hg_F_1, hq_F_1, hg_F_2, hq_F_2, hg_F_3, hq_F_3, hg_F_4, hq_F_4, hG_F_5, hG_F_6, hG_F_7, hG_F_8, hG_F_9, hg_F_10, hq_F_10, hG_F_11, hG_F_12, hG_F_13, ha_70, hs_70, hl_70, Option.bind_some, nm_eq, sm_inl, sm_inr, zo_0, zo_1, rg_ok, X11_has, Int.toNat_natCast]
    rw [if_neg (by omega), show (fr : Int) + 1 = ((fr + 1 : Nat) : Int) by omega]
    have hby1 : bt (J 70 fr) by_ = true ↔ bt (T 70 fr) by_ = true := by
      rw [hv fr hfr16 by_]
      exact ⟨fun q => q.elim id (fun z => absurd z.1 (by omega)), Or.inl⟩
    have hby2 : ∀ b, bt (J 70 by_) b = true ↔ bt (T 70 by_) b = true := fun b => by
      rw [hv by_ hby b]
      exact ⟨fun q => q.elim id (fun z => z.2.2), Or.inl⟩
    by_cases hb : bt (J 70 fr) by_ = true
    · rw [if_pos hb]
      try simp (disch := omega) only [hi_F, hG_F_0, hg_F_1, hq_F_1, hg_F_2, hq_F_2, hg_F_3, hq_F_3, hg_F_4, hq_F_4, hG_F_5, hG_F_6, hG_F_7, hG_F_8, hG_F_9, hg_F_10, hq_F_10, hG_F_11, hG_F_12, hG_F_13, ha_70, hs_70, hl_70, Option.bind_some, nm_eq, sm_inl, sm_inr, zo_0, zo_1, rg_ok, Int.toNat_natCast]
      rw [if_neg (by decide)]
      refine ih f' (fr + 1) _ (by omega) (by omega) (hfr.wr (List.mem_singleton.mpr rfl)) hT ⟨hR.1.wr (bt_ok_or _ _), fun a ha i hi => ?_⟩ (fun a ha b => ?_)
      · rw [gu_at] at hi
        split at hi
        · rw [bt_or, Bool.or_eq_true] at hi
          rcases hi with hi | hi
          · exact hR.2 _ hfr16 i hi
          · exact hR.2 _ hby i hi
        · exact hR.2 a ha i hi
      · rw [gu_at]
        split
        · next e =>
          rw [bt_or, Bool.or_eq_true, hby2 b, e, hv fr hfr16 b]
          constructor
          · rintro ((q | q) | q)
            · exact Or.inl q
            · omega
            · exact Or.inr ⟨by omega, hby1.mp hb, q⟩
          · rintro (q | q)
            · exact Or.inl (Or.inl q)
            · exact Or.inr q.2.2
        · next e =>
          rw [hv a ha b]
          exact ⟨fun q => q.elim Or.inl (fun z => Or.inr ⟨by omega, z.2⟩), fun q => q.elim Or.inl (fun z => Or.inr ⟨by omega, z.2⟩)⟩
    · rw [if_neg hb]
      try simp (disch := omega) only [Option.bind_some, nm_eq, sm_inl, sm_inr, zo_0, zo_1, rg_ok]
      rw [if_pos trivial]
      refine ih f' (fr + 1) J (by omega) (by omega) hfr hT hR (fun a ha b => ?_)
      rw [hv a ha b]
      constructor
      · exact fun q => q.elim Or.inl (fun z => Or.inr ⟨by omega, z.2⟩)
      · rintro (q | q)
        · exact Or.inl q
        · by_cases e : a = fr
          · subst e; exact absurd (hby1.mpr q.2.1) hb
          · exact Or.inr ⟨by omega, q.2⟩
theorem cR_out (hn : 1000000000000000000000000000000 ≤ n) {I : Nat → Nat → Int} (R : Nat → Nat → Prop) : ∀ (m f by_ : Nat) (J : Nat → Nat → Int), 16 = by_ + m → m < f → Fr [70] I J → cRk J → (∀ a b, R a b → cRe J a b) → (∀ T' : Nat → Nat → Prop, (∀ a b, R a b → T' a b) → (∀ a b c, T' a b → T' b c → T' a c) → ∀ a b, cRe J a b → T' a b) → (∀ c, c < by_ → ∀ a d, cRe J a c → cRe J c d → cRe J a d) →
    ∃ J' : Nat → Nat → Int, l_X3_closeRelation_2 n f 64 (by_ : Int) (hp u J L) = some (hp u J' L) ∧ Fr [70] I J' ∧ cRk J' ∧ isTC R (cRe J') := by
  intro m
  induction m with
  | zero =>
    intro f by_ J hm hf hfr hR h1 h2 h3
    obtain ⟨f', rfl⟩ : ∃ f', f = f' + 1 := ⟨f - 1, by omega⟩
    simp (disch := omega) only [l_X3_closeRelation_2, b_X3_closeRelation_2, Option.bind_some, nm_eq, sm_inl, sm_inr, zo_0, zo_1, rg_ok]
    rw [if_pos (by omega)]
    exact ⟨J, rfl, hfr, hR, h1, fun a b c q1 q2 => h3 b (by have := q1.2.1; omega) a c q1 q2, h2⟩
  | succ m ih =>
    intro f by_ J hm hf hfr hR h1 h2 h3
    obtain ⟨f', rfl⟩ : ∃ f', f = f' + 1 := ⟨f - 1, by omega⟩
    simp (disch := omega) only [l_X3_closeRelation_2, b_X3_closeRelation_2, Option.bind_some, nm_eq, sm_inl, sm_inr, zo_0, zo_1, rg_ok]
    rw [if_neg (by omega)]
    have hby : by_ < 16 := by omega
    obtain ⟨J1, e, f1, r1, v1⟩ := cR_in (u := u) (L := L) (n := n) (I := I) (T := J) hby (l_X3_closeRelation_2 n f') 16 n 0 J (by omega) (by omega) hfr hR hR (fun a ha b => ⟨Or.inl, fun q => q.elim id (fun z => absurd z.1 (by omega))⟩)
    have e' : l_X3_closeRelation_10 n (l_X3_closeRelation_2 n f') n 64 (by_ : Int) 0 (hp u J L) = l_X3_closeRelation_2 n f' 64 ((by_ + 1 : Nat) : Int) (hp u J1 L) := e
    rw [e']
    have key : ∀ a b, cRe J1 a b ↔ cRe J a b ∨ (cRe J a by_ ∧ cRe J by_ b) := by
      intro a b
      constructor
      · rintro ⟨ha, hb, q⟩
        rcases (v1 a ha b).mp q with q | q
        · exact Or.inl ⟨ha, hb, q⟩
        · exact Or.inr ⟨⟨ha, hby, q.1⟩, hby, hb, q.2⟩
      · rintro (⟨ha, hb, q⟩ | ⟨⟨ha, -, q1⟩, -, hb, q2⟩)
        · exact ⟨ha, hb, (v1 a ha b).mpr (Or.inl q)⟩
        · exact ⟨ha, hb, (v1 a ha b).mpr (Or.inr ⟨q1, q2⟩)⟩
    refine ih f' (by_ + 1) J1 (by omega) (by omega) f1 r1 (fun a b q => (key a b).mpr (Or.inl (h1 a b q))) (fun T' t1 t2 a b q => ?_) (fun c hc a d q1 q2 => ?_)
    · rcases (key a b).mp q with q | ⟨q1, q2⟩
      · exact h2 T' t1 t2 a b q
      · exact t2 _ _ _ (h2 T' t1 t2 _ _ q1) (h2 T' t1 t2 _ _ q2)
    · rw [key] at q1 q2 ⊢
      by_cases e : c = by_
      · subst e
        have w1 : cRe J a c := q1.elim id (fun z => z.1)
        have w2 : cRe J c d := q2.elim id (fun z => z.2)
        exact Or.inr ⟨w1, w2⟩
      · have hc' : c < by_ := by omega
        rcases q1 with q1 | ⟨q1, q1'⟩
        · rcases q2 with q2 | ⟨q2, q2'⟩
          · exact Or.inl (h3 c hc' a d q1 q2)
          · exact Or.inr ⟨h3 c hc' a by_ q1 q2, q2'⟩
        · rcases q2 with q2 | ⟨q2, q2'⟩
          · exact Or.inr ⟨q1, h3 c hc' by_ d q1' q2⟩
          · exact Or.inr ⟨q1, q2'⟩
theorem X3_closeRelation (hn : 1000000000000000000000000000000 ≤ n) {I J : Nat → Nat → Int} (hfr : Fr [70] I J) (hR : cRk J) :
    ∃ J' : Nat → Nat → Int, f_X3_closeRelation n 64 (hp u J L) = some (hp u J' L) ∧ Fr [70] I J' ∧ cRk J' ∧ isTC (cRe J) (cRe J') := by
  obtain ⟨J', e, h1, h2, h3⟩ := cR_out (u := u) (L := L) hn (I := I) (cRe J) 16 n 0 J (by omega) (by omega) hfr hR (fun a b q => q) (fun T' t1 _ a b q => t1 a b q) (fun c hc => absurd hc (by omega))
  exact ⟨J', e, h1, h2, h3⟩
/-- which are related to themselves -/
theorem X3_rel_l {I : Nat → Nat → Int} (hR : cRk I) : ∀ (m f a : Nat) (v : Int), 16 = a + m → m < f → gi_ok v → (∀ i, bt v i = true ↔ i < a ∧ bt (I 70 i) i = true) → ∃ r, l_X3_relatedToThemselves_4 n f 64 v (a : Int) (hp u I L) = some r ∧ gi_ok r ∧ ∀ i, bt r i = true ↔ i < 16 ∧ bt (I 70 i) i = true := by
  intro m
  induction m with
  | zero =>
    intro f a v hm hf ho hv
    obtain ⟨f', rfl⟩ : ∃ f', f = f' + 1 := ⟨f - 1, by omega⟩
    simp (disch := omega) only [l_X3_relatedToThemselves_4, b_X3_relatedToThemselves_4, Option.bind_some, nm_eq, sm_inl, sm_inr, zo_0, zo_1, rg_ok]
    rw [if_pos (by omega)]
    have ha : a = 16 := by omega
    subst ha
    exact ⟨v, rfl, ho, hv⟩
  | succ m ih =>
    intro f a v hm hf ho hv
    obtain ⟨f', rfl⟩ : ∃ f', f = f' + 1 := ⟨f - 1, by omega⟩
    simp (disch := omega) only [l_X3_relatedToThemselves_4, b_X3_relatedToThemselves_4, hi_F, hG_F_0, hg_F_1, hq_F_1, hg_F_2, hq_F_2, hg_F_3, hq_F_3, hg_F_4, hq_F_4, hG_F_5, hG_F_6, hG_F_7, hG_F_8, hG_F_9, hg_F_10, hq_F_10, hG_F_11, hG_F_12, hG_F_13, ha_70, hs_70, hl_70, Option.bind_some, nm_eq, sm_inl, sm_inr, zo_0, zo_1, rg_ok, Int.toNat_natCast]
    rw [if_neg (by omega), show (a : Int) + 1 = ((a + 1 : Nat) : Int) by omega]
    refine ih f' (a + 1) _ (by omega) (by omega) (bt_ok_or _ _) (fun i => ?_)
    rw [bt_or, bt_and, bt_shl1 (by omega), Bool.or_eq_true, Bool.and_eq_true, decide_eq_true_eq, hv i]
    constructor
    · rintro (q | ⟨q1, q2⟩)
      · exact ⟨by omega, q.2⟩
      · subst q2; exact ⟨by omega, q1⟩
    · rintro ⟨q1, q2⟩
      by_cases e : i = a
      · subst e; exact Or.inr ⟨q2, rfl⟩
      · exact Or.inl ⟨by omega, q2⟩
theorem X3_rel (hn : 1000000000000000000000000000000 ≤ n) {I : Nat → Nat → Int} (hR : cRk I) : ∃ r, f_X3_relatedToThemselves n 64 (hp u I L) = some r ∧ gi_ok r ∧ ∀ i, bt r i = true ↔ i < 16 ∧ bt (I 70 i) i = true :=
  X3_rel_l (u := u) (L := L) (n := n) hR 16 n 0 0 (by omega) (by omega) (by decide) (fun i => by rw [bt_zero]; simp)
end FD
