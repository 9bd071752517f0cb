/-! ===== Facts.findSpellings ===== -/
/-- a nonterminal's length and the text by now -/
def eT (I L : Nat → Nat → Int) (a : Nat) : Nat := cLe I a * 1152921504606846976 + (L 69 (16 + a)).toNat % 1152921504606846976
def cSp (I L : Nat → Nat → Int) : Prop := (∀ t, t < 8 → bt (I 64 10) t = true) ∧ (∀ t, t < 8 → L 69 t = (t : Int)) ∧ ∀ a, a < 16 → bt (I 64 10) (16 + a) = true → cLe I a ≤ 20 ∧ 0 ≤ L 69 (16 + a) ∧ (L 69 (16 + a)).toNat < 8 ^ cLe I a
theorem eT_ln {I L : Nat → Nat → Int} : ln (eT I L) = cLe I := by
  funext a; unfold ln eT; omega
theorem cSp_x {I L : Nat → Nat → Int} (h : cSp I L) {a : Nat} (ha : a < 16) (hb : bt (I 64 10) (16 + a) = true) : tx (eT I L) a = (L 69 (16 + a)).toNat ∧ L 69 (16 + a) = (tx (eT I L) a : Int) ∧ tx (eT I L) a < 8 ^ cLe I a ∧ cLe I a ≤ 20 := by
  obtain ⟨h1, h2, h3⟩ := h.2.2 a ha hb
  have h4 := p8_le h1
  have e : tx (eT I L) a = (L 69 (16 + a)).toNat := by unfold tx eT; omega
  exact ⟨e, by omega, by omega, h1⟩
theorem cSp_s {I L : Nat → Nat → Int} (h : cSp I L) (hL : cLo I) {s : Nat} (hs : s < 8 ∨ (16 ≤ s ∧ s < 32)) (hb : bt (I 64 10) s = true) : I 68 s = (dS (cLe I) s : Int) ∧ dS (cLe I) s ≤ 20 ∧ L 69 s = (tS (eT I L) s : Int) ∧ tS (eT I L) s < 8 ^ dS (cLe I) s := by
  rcases hs with hs | hs
  · have h1 := hL.1 s hs
    have h2 := h.2.1 s hs
    unfold dS tS
    rw [if_pos (by omega), if_pos (by omega)]
    exact ⟨by rw [h1]; rfl, by decide, h2, by omega⟩
  · have e : 16 + (s - 16) = s := by omega
    have h1 := cSp_x h (a := s - 16) (by omega) (by rw [e]; exact hb)
    have h2 := cLe_of hL (a := s - 16) (by omega)
    rw [e] at h1 h2
    unfold dS tS
    rw [if_neg (by omega), if_neg (by omega)]
    refine ⟨?_, h1.2.2.2, h1.2.1, h1.2.2.1⟩
    rcases h2 with h2 | h2
    · omega
    · exact h2.1
section FG
variable {u : Nat} {n : Nat}
theorem X3_sp_l {I L : Nat → Nat → Int} (hw : GW (gU u) I) (hL : cLo I) (hS : cSp I L) {p : Nat} (hp1 : p < 1000) : ∀ (m f k acc l : Nat), Gl (cG I (gU u)) p = k + m → m < f → acc < 8 ^ l → l + sm (cG I (gU u)) (cLe I) p k m ≤ 20 →
    (l_X3_spell_5 n f 64 (p : Int) (acc : Int) (k : Int) (hp u I L) = some (-1) ∧ ∃ j, k ≤ j ∧ j < k + m ∧ bt (I 64 10) (Gs (cG I (gU u)) p j) = false) ∨
    (l_X3_spell_5 n f 64 (p : Int) (acc : Int) (k : Int) (hp u I L) = some ((cf (cG I (gU u)) (eT I L) p acc k m : Nat) : Int) ∧ ∀ j, k ≤ j → j < k + m → bt (I 64 10) (Gs (cG I (gU u)) p j) = true) := by
  have hg := GR_of hw
  have h5 := hg.2.2.2.1 p
  intro m
  induction m with
  | zero =>
    intro f k acc l hm hf ha hl
    obtain ⟨f', rfl⟩ : ∃ f', f = f' + 1 := ⟨f - 1, by omega⟩
    simp (disch := omega) only [l_X3_spell_5, b_X3_spell_5, hi_F, hG_F_0, hg_F_1, hq_F_1, hg_F_2, hq_F_2, hg_F_3, hq_F_3, hg_F_4, hq_F_4, hG_F_5, hG_F_6, hG_F_7, hG_F_8, hG_F_9, hg_F_10, hq_F_10, hG_F_11, hG_F_12, hG_F_13, Option.bind_some, nm_eq, sm_inl, sm_inr, zo_0, zo_1, hi_G (gU_mem u), X4_length (gU_mem u) hw hp1, rg_ok]
    rw [if_pos (by omega)]
    exact Or.inr ⟨rfl, fun j h1 h2 => by omega⟩
  | succ m ih =>
    intro f k acc l hm hf ha hl
    obtain ⟨f', rfl⟩ : ∃ f', f = f' + 1 := ⟨f - 1, by omega⟩
    have hk : k < Gl (cG I (gU u)) p := by omega
    have hs := hg.2.2.2.2.2 p k hk
    have hs32 : Gs (cG I (gU u)) p k < 32 := by omega
    have hl' : l + (dS (cLe I) (Gs (cG I (gU u)) p k) + sm (cG I (gU u)) (cLe I) p (k + 1) m) ≤ 20 := hl
    simp (disch := omega) only [l_X3_spell_5, b_X3_spell_5, b_X3_spell_54, hi_F, hG_F_0, hg_F_1, hq_F_1, hg_F_2, hq_F_2, hg_F_3, hq_F_3, hg_F_4, hq_F_4, hG_F_5, hG_F_6, hG_F_7, hG_F_8, hG_F_9, hg_F_10, hq_F_10, hG_F_11, hG_F_12, hG_F_13, Option.bind_some, nm_eq, sm_inl, sm_inr, zo_0, zo_1, hi_G (gU_mem u), X4_length (gU_mem u) hw hp1, X4_symbol (gU_mem u) hw hk, rg_ok]
    rw [if_neg (by omega), if_neg (by omega), if_neg (by omega)]
    simp only [X11_has _ _ hs32, hi_F, hG_F_0, hg_F_1, hq_F_1, hg_F_2, hq_F_2, hg_F_3, hq_F_3, hg_F_4, hq_F_4, hG_F_5, hG_F_6, hG_F_7, hG_F_8, hG_F_9, hg_F_10, hq_F_10, hG_F_11, hG_F_12, hG_F_13, Option.bind_some, nm_eq, sm_inl, sm_inr, zo_0, zo_1]
    by_cases hb : bt (I 64 10) (Gs (cG I (gU u)) p k) = true
    · obtain ⟨q1, q2, q3, q4⟩ := cSp_s hS hL hs hb
      simp (disch := omega) only [if_pos hb, rg_ok, hi_F, hG_F_0, hg_F_1, hq_F_1, hg_F_2, hq_F_2, hg_F_3, hq_F_3, hg_F_4, hq_F_4, hG_F_5, hG_F_6, hG_F_7, hG_F_8, hG_F_9, hg_F_10, hq_F_10, hG_F_11, hG_F_12, hG_F_13, ha_68, hs_68, hl_68, ha_69, hs_69, hl_69, Option.bind_some, nm_eq, sm_inl, sm_inr, zo_0, zo_1, Int.toNat_natCast]
      rw [if_neg (by decide), q1, q3]
      have hacc : acc * 8 ^ dS (cLe I) (Gs (cG I (gU u)) p k) + tS (eT I L) (Gs (cG I (gU u)) p k) < 8 ^ (l + dS (cLe I) (Gs (cG I (gU u)) p k)) := by
        rw [Nat.pow_add]
        calc acc * 8 ^ dS (cLe I) (Gs (cG I (gU u)) p k) + tS (eT I L) (Gs (cG I (gU u)) p k) < acc * 8 ^ dS (cLe I) (Gs (cG I (gU u)) p k) + 8 ^ dS (cLe I) (Gs (cG I (gU u)) p k) := Nat.add_lt_add_left q4 _
          _ = (acc + 1) * 8 ^ dS (cLe I) (Gs (cG I (gU u)) p k) := by rw [Nat.add_mul, Nat.one_mul]
          _ ≤ 8 ^ l * 8 ^ dS (cLe I) (Gs (cG I (gU u)) p k) := Nat.mul_le_mul_right _ ha
      have h8 := p8_le (l := l + dS (cLe I) (Gs (cG I (gU u)) p k)) (by omega)
      rw [shl_or q2 q4 (by omega), show (k : Int) + 1 = ((k + 1 : Nat) : Int) by omega]
      have hcf : cf (cG I (gU u)) (eT I L) p acc k (m + 1) = cf (cG I (gU u)) (eT I L) p (acc * 8 ^ dS (cLe I) (Gs (cG I (gU u)) p k) + tS (eT I L) (Gs (cG I (gU u)) p k)) (k + 1) m := by
        show cf (cG I (gU u)) (eT I L) p (acc * 8 ^ dS (ln (eT I L)) (Gs (cG I (gU u)) p k) + tS (eT I L) (Gs (cG I (gU u)) p k)) (k + 1) m = _
        rw [eT_ln]
      rw [hcf]
      rcases ih f' (k + 1) _ _ (by omega) (by omega) hacc (by omega) with ⟨e, j, h1, h2, h3⟩ | ⟨e, h1⟩
      · exact Or.inl ⟨e, j, by omega, by omega, h3⟩
      · refine Or.inr ⟨e, fun j h2 h3 => ?_⟩
        by_cases hj : j = k
        · subst hj; exact hb
        · exact h1 j (by omega) (by omega)
    · simp (disch := omega) only [if_neg hb, rg_ok, hi_F, hG_F_0, hg_F_1, hq_F_1, hg_F_2, hq_F_2, hg_F_3, hq_F_3, hg_F_4, hq_F_4, hG_F_5, hG_F_6, hG_F_7, hG_F_8, hG_F_9, hg_F_10, hq_F_10, hG_F_11, hG_F_12, hG_F_13, Option.bind_some, nm_eq, sm_inl, sm_inr, zo_0, zo_1]
      rw [if_pos trivial]
      exact Or.inl ⟨rfl, k, by omega, by omega, by simpa using hb⟩
theorem X3_spell (hn : 1000000000000000000000000000000 ≤ n) {I L : Nat → Nat → Int} (hw : GW (gU u) I) (hL : cLo I) (hS : cSp I L) {p : Nat} (hp1 : p < 1000) (h20 : sm (cG I (gU u)) (cLe I) p 0 (Gl (cG I (gU u)) p) ≤ 20) :
    (f_X3_spell n 64 (p : Int) (hp u I L) = some (-1) ∧ ∃ j, j < Gl (cG I (gU u)) p ∧ bt (I 64 10) (Gs (cG I (gU u)) p j) = false) ∨
    (f_X3_spell n 64 (p : Int) (hp u I L) = some ((cf (cG I (gU u)) (eT I L) p 0 0 (Gl (cG I (gU u)) p) : Nat) : Int) ∧ ∀ j, j < Gl (cG I (gU u)) p → bt (I 64 10) (Gs (cG I (gU u)) p j) = true) := by
  have h5 := (GR_of hw).2.2.2.1 p
  have e : f_X3_spell n 64 (p : Int) (hp u I L) = l_X3_spell_5 n n 64 (p : Int) ((0 : Nat) : Int) ((0 : Nat) : Int) (hp u I L) := rfl
  rw [e]
  rcases X3_sp_l (n := n) hw hL hS hp1 (Gl (cG I (gU u)) p) n 0 0 0 (by omega) (by omega) (by decide) (by omega) with ⟨e, j, h1, h2, h3⟩ | ⟨e, h1⟩
  · exact Or.inl ⟨e, j, by omega, h3⟩
  · exact Or.inr ⟨e, fun j h2 => h1 j (by omega) (by omega)⟩
/-- a nonterminal's text is found, or there is none to find -/
def dn (v : Nat → Nat) (I L : Nat → Nat → Int) (a : Nat) : Bool := decide (21 ≤ cLe I a) || (bt (I 64 10) (16 + a) && decide ((L 69 (16 + a)).toNat = tx v a))
theorem dn_iff {v : Nat → Nat} {I L : Nat → Nat → Int} {a : Nat} : dn v I L a = true ↔ 21 ≤ cLe I a ∨ (bt (I 64 10) (16 + a) = true ∧ (L 69 (16 + a)).toNat = tx v a) := by
  unfold dn; simp
/-- what holds between the rounds -/
def iSp (v : Nat → Nat) (I L : Nat → Nat → Int) : Prop := cLo I ∧ cSp I L ∧ (∀ a, a < 16 → (cLe I a ≤ 20 → ln v a = cLe I a) ∧ (ln v a ≤ 20 → cLe I a = ln v a)) ∧ ∀ a, a < 16 → bt (I 64 10) (16 + a) = true → tx v a ≤ (L 69 (16 + a)).toNat
/-- a right all of whose parts are found, that gives its owner's text -/
def rdy (g : GT) (v : Nat → Nat) (I L : Nat → Nat → Int) (p : Nat) : Prop := cJ g v p = v (Go g p) ∧ sm g (ln v) p 0 (Gl g p) ≤ 20 ∧ ∀ k, k < Gl g p → 16 ≤ Gs g p k → dn v I L (Gs g p k - 16) = true
def F69 (I L J K : Nat → Nat → Int) : Prop := Fr [64] I J ∧ Fr [69] L K ∧ ∀ k, k ≠ 10 → J 64 k = I 64 k
theorem F69.rf {I L : Nat → Nat → Int} : F69 I L I L := ⟨Fr.rf, Fr.rf, fun _ _ => rfl⟩
theorem F69.tr {I L J K M N : Nat → Nat → Int} (h : F69 I L J K) (q : F69 J K M N) : F69 I L M N := ⟨h.1.tr q.1, h.2.1.tr q.2.1, fun k hk => (q.2.2 k hk).trans (h.2.2 k hk)⟩
theorem nF64 : 3 ∉ [64] ∧ 4 ∉ [64] ∧ 5 ∉ [64] ∧ 6 ∉ [64] ∧ 87 ∉ [64] ∧ 88 ∉ [64] ∧ 89 ∉ [64] ∧ 90 ∉ [64] := by decide
/-- the sums of the lengths of a right agree as far as they are at most 20 -/
theorem sm_20 {g : GT} (hg : GR g) {d e : Nat → Nat} (h : ∀ a, a < 16 → e a ≤ 20 → d a = e a) {p : Nat} : ∀ (m k : Nat), k + m ≤ Gl g p → sm g e p k m ≤ 20 → sm g d p k m = sm g e p k m ∧ ∀ j, k ≤ j → j < k + m → dS d (Gs g p j) = dS e (Gs g p j) ∧ dS e (Gs g p j) ≤ 20
  | 0, _, _, _ => ⟨rfl, fun j h1 h2 => by omega⟩
  | m + 1, k, hk, hs => by
    have hs' : dS e (Gs g p k) + sm g e p (k + 1) m ≤ 20 := hs
    have h1 := sm_20 hg h (p := p) m (k + 1) (by omega) (by omega)
    have h2 := hg.2.2.2.2.2 p k (by omega)
    have h3 : dS d (Gs g p k) = dS e (Gs g p k) := by
      unfold dS at *
      split
      · rfl
      · next q => rw [if_neg q] at hs'; exact h _ (by omega) (by omega)
    refine ⟨?_, fun j h4 h5 => ?_⟩
    · show dS d (Gs g p k) + sm g d p (k + 1) m = dS e (Gs g p k) + sm g e p (k + 1) m
      rw [h3, h1.1]
    · by_cases hj : j = k
      · subst hj; exact ⟨h3, by omega⟩
      · exact h1.2 j (by omega) (by omega)
theorem dn_mono_wr {v : Nat → Nat} {I L : Nat → Nat → Int} {o x : Nat} (ho : o < 16) (hd : dn v I L o = false) {a : Nat} (ha : a < 16) (h : dn v I L a = true) : dn v (gx_u I 64 10 (gi_or (I 64 10) (gi_shl 1 ((16 + o : Nat) : Int)))) (gx_u L 69 (16 + o) (x : Int)) a = true := by
  have hne : a ≠ o := fun e => by rw [e, hd] at h; cases h
  rw [dn_iff] at h ⊢
  have e1 : cLe (gx_u I 64 10 (gi_or (I 64 10) (gi_shl 1 ((16 + o : Nat) : Int)))) a = cLe I a := by unfold cLe; rw [gu_ne (by decide)]
  rw [e1]
  rcases h with h | ⟨h1, h2⟩
  · exact Or.inl h
  · refine Or.inr ⟨?_, ?_⟩
    · rw [gu_at_eq rfl, bt_or, h1, Bool.true_or]
    · rw [gu_at_ne (by omega)]; exact h2
theorem X3_improve (hn : 1000000000000000000000000000000 ≤ n) {I L : Nat → Nat → Int} (hw : GW (gU u) I) {v : Nat → Nat} (hv : grJ (cG I (gU u)) v) (hI : iSp v I L) {p : Nat} (hp1 : p < Gn (cG I (gU u))) :
    ∃ (r : Int) (J K : Nat → Nat → Int), f_X3_improveSpelling n 64 (p : Int) (hp u I L) = some (r, hp u J K) ∧ F69 I L J K ∧ iSp v J K ∧ (∀ a, a < 16 → dn v I L a = true → dn v J K a = true) ∧ (rdy (cG I (gU u)) v I L p → dn v J K (Go (cG I (gU u)) p) = true) ∧ ((r = 0 ∧ J = I ∧ K = L) ∨ (r = 1 ∧ dn v I L (Go (cG I (gU u)) p) = false)) := by
  have hg := GR_of hw
  have h24 := hg.1
  have ho := hg.2.2.1 p
  obtain ⟨hL, hS, hln, htx⟩ := hI
  have elr := X3_leastOfRight (u := u) (L := L) hn hw hL (p := p) (by omega)
  have hvp := hv.2.1 p hp1
  have stay : (rdy (cG I (gU u)) v I L p → dn v I L (Go (cG I (gU u)) p) = true) → ∃ (r : Int) (J K : Nat → Nat → Int), some ((0 : Int), hp u I L) = some (r, hp u J K) ∧ F69 I L J K ∧ iSp v J K ∧ (∀ a, a < 16 → dn v I L a = true → dn v J K a = true) ∧ (rdy (cG I (gU u)) v I L p → dn v J K (Go (cG I (gU u)) p) = true) ∧ ((r = 0 ∧ J = I ∧ K = L) ∨ (r = 1 ∧ dn v I L (Go (cG I (gU u)) p) = false)) := fun h =>
    ⟨0, I, L, rfl, F69.rf, ⟨hL, hS, hln, htx⟩, fun _ _ h => h, h, Or.inl ⟨rfl, rfl, rfl⟩⟩
  have hR1 : rdy (cG I (gU u)) v I L p → sm (cG I (gU u)) (cLe I) p 0 (Gl (cG I (gU u)) p) = sm (cG I (gU u)) (ln v) p 0 (Gl (cG I (gU u)) p) := fun r => (sm_20 hg (fun a ha q => (hln a ha).2 q) (Gl (cG I (gU u)) p) 0 (by omega) r.2.1).1
  have hR2 : rdy (cG I (gU u)) v I L p → ln v (Go (cG I (gU u)) p) = sm (cG I (gU u)) (cLe I) p 0 (Gl (cG I (gU u)) p) := fun r => by
    have h1 := cJ_ln hg hv.1 p
    have h2 := r.2.1
    rw [r.1] at h1
    rw [hR1 r]
    show v (Go (cG I (gU u)) p) / 1152921504606846976 = _
    rw [h1]; unfold tc
    rw [if_neg (by omega), if_pos (by omega)]
  have eo : (16 : Int) + ((Go (cG I (gU u)) p : Nat) : Int) = ((16 + Go (cG I (gU u)) p : Nat) : Int) := by omega
  simp only [f_X3_improveSpelling, hi_F, hG_F_0, hg_F_1, hq_F_1, hg_F_2, hq_F_2, hg_F_3, hq_F_3, hg_F_4, hq_F_4, hG_F_5, hG_F_6, hG_F_7, hG_F_8, hG_F_9, hg_F_10, hq_F_10, hG_F_11, hG_F_12, hG_F_13, hi_G (gU_mem u), Option.bind_some]
  simp only [X4_owner (gU_mem u) hw hp1, Option.bind_some]
  simp only [nm_eq, eo]
  simp only [elr, hi_F, hG_F_0, hg_F_1, hq_F_1, hg_F_2, hq_F_2, hg_F_3, hq_F_3, hg_F_4, hq_F_4, hG_F_5, hG_F_6, hG_F_7, hG_F_8, hG_F_9, hg_F_10, hq_F_10, hG_F_11, hG_F_12, hG_F_13, Option.bind_some]
  by_cases h20 : sm (cG I (gU u)) (cLe I) p 0 (Gl (cG I (gU u)) p) ≤ 20
  · have e1 : tc 99 (sm (cG I (gU u)) (cLe I) p 0 (Gl (cG I (gU u)) p)) = sm (cG I (gU u)) (cLe I) p 0 (Gl (cG I (gU u)) p) := by
      unfold tc; rw [if_neg (by omega), if_pos (by omega)]
    rw [e1, if_neg (by omega)]
    have hd := cLe_of hL ho
    have hrg : -2147483648 ≤ I 68 (16 + Go (cG I (gU u)) p) ∧ I 68 (16 + Go (cG I (gU u)) p) ≤ 2147483647 := by omega
    simp (disch := omega) only [hi_F, hG_F_0, hg_F_1, hq_F_1, hg_F_2, hq_F_2, hg_F_3, hq_F_3, hg_F_4, hq_F_4, hG_F_5, hG_F_6, hG_F_7, hG_F_8, hG_F_9, hg_F_10, hq_F_10, hG_F_11, hG_F_12, hG_F_13, Option.bind_some, nm_eq, sm_inl, sm_inr, zo_0, zo_1, X3_leastOf, rg_ok]
    rw [if_neg (by omega), if_neg (by omega)]
    by_cases heq : cLe I (Go (cG I (gU u)) p) = sm (cG I (gU u)) (cLe I) p 0 (Gl (cG I (gU u)) p)
    · rw [if_pos (by omega)]
      simp (disch := omega) only [hi_F, hG_F_0, hg_F_1, hq_F_1, hg_F_2, hq_F_2, hg_F_3, hq_F_3, hg_F_4, hq_F_4, hG_F_5, hG_F_6, hG_F_7, hG_F_8, hG_F_9, hg_F_10, hq_F_10, hG_F_11, hG_F_12, hG_F_13, Option.bind_some, nm_eq, sm_inl, sm_inr, zo_0, zo_1, X11_isN1, rg_ok]
      rw [if_neg (by decide)]
      obtain ⟨k1, k2⟩ := sm_20 hg (fun a ha q => (hln a ha).1 q) (Gl (cG I (gU u)) p) 0 (by omega) h20
      rcases X3_spell hn hw hL hS (p := p) (by omega) h20 with ⟨e, j, j1, j2⟩ | ⟨e, hall⟩
      · simp (disch := omega) only [e, hi_F, hG_F_0, hg_F_1, hq_F_1, hg_F_2, hq_F_2, hg_F_3, hq_F_3, hg_F_4, hq_F_4, hG_F_5, hG_F_6, hG_F_7, hG_F_8, hG_F_9, hg_F_10, hq_F_10, hG_F_11, hG_F_12, hG_F_13, Option.bind_some, nm_eq, sm_inl, sm_inr, zo_0, zo_1, rgL_ok, rg_ok, show gi_cmp (-1) (-1) = 0 from rfl]
        rw [if_pos trivial]
        refine stay (fun r => ?_)
        have h1 := hg.2.2.2.2.2 p j j1
        have h2 := (k2 j (by omega) (by omega)).2
        rcases h1 with h1 | h1
        · rw [hS.1 _ h1] at j2; cases j2
        · have h3 := r.2.2 j j1 h1.1
          rw [dn_iff, show 16 + (Gs (cG I (gU u)) p j - 16) = Gs (cG I (gU u)) p j by omega, j2] at h3
          unfold dS at h2
          rw [if_neg (by omega)] at h2
          rcases h3 with h3 | ⟨h3, -⟩
          · omega
          · cases h3
      · -- all parts are spelt
        have htS : ∀ j, j < Gl (cG I (gU u)) p → tS v (Gs (cG I (gU u)) p j) ≤ tS (eT I L) (Gs (cG I (gU u)) p j) ∧ (rdy (cG I (gU u)) v I L p → tS v (Gs (cG I (gU u)) p j) = tS (eT I L) (Gs (cG I (gU u)) p j)) := fun j hj => by
          have h1 := hg.2.2.2.2.2 p j hj
          have h2 := (k2 j (by omega) (by omega)).2
          unfold tS
          split
          · exact ⟨Nat.le_refl _, fun _ => rfl⟩
          · next q =>
            have h3 : 16 + (Gs (cG I (gU u)) p j - 16) = Gs (cG I (gU u)) p j := by omega
            have h4 := cSp_x hS (a := Gs (cG I (gU u)) p j - 16) (by omega) (by rw [h3]; exact hall j hj)
            refine ⟨?_, fun r => ?_⟩
            · rw [h4.1]; exact htx _ (by omega) (by rw [h3]; exact hall j hj)
            · have h5 := r.2.2 j hj (by omega)
              rw [dn_iff] at h5
              rw [h4.1]
              rcases h5 with h5 | h5
              · omega
              · exact h5.2.symm
        have hdS : ∀ j, j < Gl (cG I (gU u)) p → dS (ln v) (Gs (cG I (gU u)) p j) = dS (ln (eT I L)) (Gs (cG I (gU u)) p j) := fun j hj => by rw [eT_ln]; exact (k2 j (by omega) (by omega)).1
        have hcf : cf (cG I (gU u)) v p 0 0 (Gl (cG I (gU u)) p) ≤ cf (cG I (gU u)) (eT I L) p 0 0 (Gl (cG I (gU u)) p) := cf_mono _ _ _ _ (Nat.le_refl _) (fun j _ b => ⟨hdS j (by omega), (htS j (by omega)).1⟩)
        have hcf2 : rdy (cG I (gU u)) v I L p → cf (cG I (gU u)) (eT I L) p 0 0 (Gl (cG I (gU u)) p) ≤ cf (cG I (gU u)) v p 0 0 (Gl (cG I (gU u)) p) := fun r => cf_mono _ _ _ _ (Nat.le_refl _) (fun j _ b => ⟨(hdS j (by omega)).symm, Nat.le_of_eq ((htS j (by omega)).2 r).symm⟩)
        have hlo := (hln _ ho).1 (by omega)
        have hcb : cf (cG I (gU u)) (eT I L) p 0 0 (Gl (cG I (gU u)) p) < 8 ^ cLe I (Go (cG I (gU u)) p) := by
          rw [heq]
          have key : ∀ (m k acc l : Nat), k + m ≤ Gl (cG I (gU u)) p → acc < 8 ^ l → cf (cG I (gU u)) (eT I L) p acc k m < 8 ^ (l + sm (cG I (gU u)) (cLe I) p k m) := by
            intro m
            induction m with
            | zero => intro k acc l _ h; exact h
            | succ m ih =>
              intro k acc l hk h
              have q := (cSp_s hS hL (hg.2.2.2.2.2 p k (by omega)) (hall k (by omega))).2.2.2
              show cf (cG I (gU u)) (eT I L) p (acc * 8 ^ dS (ln (eT I L)) (Gs (cG I (gU u)) p k) + tS (eT I L) (Gs (cG I (gU u)) p k)) (k + 1) m < 8 ^ (l + (dS (cLe I) (Gs (cG I (gU u)) p k) + sm (cG I (gU u)) (cLe I) p (k + 1) m))
              rw [eT_ln, ← Nat.add_assoc]
              refine ih (k + 1) _ _ (by omega) ?_
              rw [Nat.pow_add]
              calc acc * 8 ^ dS (cLe I) (Gs (cG I (gU u)) p k) + tS (eT I L) (Gs (cG I (gU u)) p k) < acc * 8 ^ dS (cLe I) (Gs (cG I (gU u)) p k) + 8 ^ dS (cLe I) (Gs (cG I (gU u)) p k) := Nat.add_lt_add_left q _
                _ = (acc + 1) * 8 ^ dS (cLe I) (Gs (cG I (gU u)) p k) := by rw [Nat.add_mul, Nat.one_mul]
                _ ≤ 8 ^ l * 8 ^ dS (cLe I) (Gs (cG I (gU u)) p k) := Nat.mul_le_mul_right _ h
          have := key (Gl (cG I (gU u)) p) 0 0 0 (by omega) (by decide)
          rwa [Nat.zero_add] at this
        have hcJ : sm (cG I (gU u)) (ln v) p 0 (Gl (cG I (gU u)) p) ≤ 20 → cJ (cG I (gU u)) v p = sm (cG I (gU u)) (ln v) p 0 (Gl (cG I (gU u)) p) * 1152921504606846976 + cf (cG I (gU u)) v p 0 0 (Gl (cG I (gU u)) p) := fun q => by
          unfold cJ; rw [if_neg (by omega), if_neg (by omega)]
        have hcJ1 := hcJ (by omega)
        have h8 := p8_le (l := cLe I (Go (cG I (gU u)) p)) (by omega)
        have hvo : v (Go (cG I (gU u)) p) = ln v (Go (cG I (gU u)) p) * 1152921504606846976 + tx v (Go (cG I (gU u)) p) := by unfold ln tx; omega
        have hx1 : tx v (Go (cG I (gU u)) p) ≤ cf (cG I (gU u)) (eT I L) p 0 0 (Gl (cG I (gU u)) p) := by rw [hcJ1, hvo, hlo, heq, k1] at hvp; omega
        have hx2 : rdy (cG I (gU u)) v I L p → cf (cG I (gU u)) (eT I L) p 0 0 (Gl (cG I (gU u)) p) = tx v (Go (cG I (gU u)) p) := fun r => by
          have r1 := r.1
          rw [hcJ1, hvo, hlo, heq, k1] at r1
          have := hcf2 r; omega
        clear hcJ hcJ1 hcf hcf2 hvo hvp
        generalize cf (cG I (gU u)) (eT I L) p 0 0 (Gl (cG I (gU u)) p) = x at e hcb hx1 hx2
        have hb16 : 16 + Go (cG I (gU u)) p < 32 := by omega
        have hcmp := cmp_rg (x : Int) (-1)
        have hcmp0 : ¬ gi_cmp (x : Int) (-1) = 0 := by rw [cmp_eq]; omega
        simp (disch := omega) only [e, hi_F, hG_F_0, hg_F_1, hq_F_1, hg_F_2, hq_F_2, hg_F_3, hq_F_3, hg_F_4, hq_F_4, hG_F_5, hG_F_6, hG_F_7, hG_F_8, hG_F_9, hg_F_10, hq_F_10, hG_F_11, hG_F_12, hG_F_13, Option.bind_some, nm_eq, sm_inl, sm_inr, zo_0, zo_1, rgL_ok, rg_ok, X11_has _ _ hb16]
        rw [if_neg hcmp0]
        have move : dn v I L (Go (cG I (gU u)) p) = false → ∃ (r : Int) (J K : Nat → Nat → Int), b_X3_improveSpelling_88 n 64 ((16 + Go (cG I (gU u)) p : Nat) : Int) (x : Int) (hp u I L) = some (r, hp u J K) ∧ F69 I L J K ∧ iSp v J K ∧ (∀ a, a < 16 → dn v I L a = true → dn v J K a = true) ∧ (rdy (cG I (gU u)) v I L p → dn v J K (Go (cG I (gU u)) p) = true) ∧ ((r = 0 ∧ J = I ∧ K = L) ∨ (r = 1 ∧ dn v I L (Go (cG I (gU u)) p) = false)) := by
          intro hdn
          have hbt : ∀ i, bt (gx_u I 64 10 (gi_or (I 64 10) (gi_shl 1 ((16 + Go (cG I (gU u)) p : Nat) : Int))) 64 10) i = (bt (I 64 10) i || decide (i = 16 + Go (cG I (gU u)) p)) := fun i => by rw [gu_at_eq rfl, bt_or, bt_shl1 hb16]
          have hle : cLe (gx_u I 64 10 (gi_or (I 64 10) (gi_shl 1 ((16 + Go (cG I (gU u)) p : Nat) : Int)))) = cLe I := cLe_fr (gu_ne (by decide))
          simp (disch := omega) only [b_X3_improveSpelling_88, hi_F, hG_F_0, hg_F_1, hq_F_1, hg_F_2, hq_F_2, hg_F_3, hq_F_3, hg_F_4, hq_F_4, hG_F_5, hG_F_6, hG_F_7, hG_F_8, hG_F_9, hg_F_10, hq_F_10, hG_F_11, hG_F_12, hG_F_13, ha_69, hs_69, hl_69, Option.bind_some, nm_eq, sm_inl, sm_inr, zo_0, zo_1, Int.toNat_natCast]
          refine ⟨1, _, _, rfl, ⟨Fr.rf.wr (List.mem_singleton.mpr rfl), Fr.rf.wr (List.mem_singleton.mpr rfl), fun k hk => gu_at_ne hk⟩, ⟨cLo_fr (gu_ne (by decide)) hL, ⟨fun t ht => ?_, fun t ht => ?_, fun a ha hb => ?_⟩, ?_, fun a ha hb => ?_⟩, fun a ha h => dn_mono_wr ho hdn ha h, fun r => ?_, Or.inr ⟨rfl, hdn⟩⟩
          · rw [hbt, hS.1 t ht, Bool.true_or]
          · rw [gu_at_ne (by omega)]; exact hS.2.1 t ht
          · rw [hle]
            rw [hbt] at hb
            by_cases ea : a = Go (cG I (gU u)) p
            · rw [ea, gu_at_eq rfl]; exact ⟨by omega, by omega, by rw [Int.toNat_natCast]; exact hcb⟩
            · rw [gu_at_ne (by omega)]
              rw [decide_eq_false (by omega), Bool.or_false] at hb
              exact hS.2.2 a ha hb
          · rw [hle]; exact hln
          · rw [hbt] at hb
            by_cases ea : a = Go (cG I (gU u)) p
            · rw [ea, gu_at_eq rfl, Int.toNat_natCast]; exact hx1
            · rw [gu_at_ne (by omega)]
              rw [decide_eq_false (by omega), Bool.or_false] at hb
              exact htx a ha hb
          · rw [dn_iff]
            refine Or.inr ⟨?_, ?_⟩
            · rw [hbt, decide_eq_true rfl, Bool.or_true]
            · rw [gu_at_eq rfl, Int.toNat_natCast]; exact hx2 r
        by_cases hb : bt (I 64 10) (16 + Go (cG I (gU u)) p) = true
        · have h9 := hS.2.2 _ ho hb
          have h10 := htx _ ho hb
          rw [if_pos hb]
          have hcr := cmp_rg (x : Int) (L 69 (16 + Go (cG I (gU u)) p))
          simp (disch := omega) only [hi_F, hG_F_0, hg_F_1, hq_F_1, hg_F_2, hq_F_2, hg_F_3, hq_F_3, hg_F_4, hq_F_4, hG_F_5, hG_F_6, hG_F_7, hG_F_8, hG_F_9, hg_F_10, hq_F_10, hG_F_11, hG_F_12, hG_F_13, ha_69, hs_69, hl_69, Option.bind_some, nm_eq, sm_inl, sm_inr, zo_0, zo_1, rgL_ok, rg_ok, Int.toNat_natCast]
          rw [if_neg (by decide)]
          by_cases hlt : (x : Int) < L 69 (16 + Go (cG I (gU u)) p)
          · rw [if_pos (cmp_lt.mpr hlt)]
            refine move ?_
            rw [← Bool.not_eq_true, dn_iff]
            rintro (q | ⟨-, q⟩)
            · omega
            · omega
          · rw [if_neg (fun q => hlt (cmp_lt.mp q))]
            refine stay (fun r => ?_)
            rw [dn_iff]
            have := hx2 r
            exact Or.inr ⟨hb, by omega⟩
        · rw [if_neg hb]
          simp (disch := omega) only [Option.bind_some, nm_eq, sm_inl, sm_inr, zo_0, zo_1, rg_ok]
          rw [if_pos trivial]
          refine move ?_
          rw [← Bool.not_eq_true, dn_iff]
          rintro (q | ⟨q, -⟩)
          · omega
          · exact hb q
    · rw [if_neg (by omega)]
      refine stay (fun r => ?_)
      have h1 := hR2 r
      have h2 := (hln _ ho).2 (by omega)
      omega
  · have hno : ¬ rdy (cG I (gU u)) v I L p := fun r => by
      have h1 := hR1 r; have h2 := r.2.1; omega
    have htc := tc_le 99 (sm (cG I (gU u)) (cLe I) p 0 (Gl (cG I (gU u)) p))
    by_cases e0 : tc 99 (sm (cG I (gU u)) (cLe I) p 0 (Gl (cG I (gU u)) p)) = 1000
    · rw [if_pos e0]
      simp (disch := omega) only [hi_F, hG_F_0, hg_F_1, hq_F_1, hg_F_2, hq_F_2, hg_F_3, hq_F_3, hg_F_4, hq_F_4, hG_F_5, hG_F_6, hG_F_7, hG_F_8, hG_F_9, hg_F_10, hq_F_10, hG_F_11, hG_F_12, hG_F_13, Option.bind_some, nm_eq, sm_inl, sm_inr, zo_0, zo_1, rg_ok]
      rw [if_pos trivial]
      exact stay (fun r => absurd r hno)
    · rw [if_neg e0]
      have h21 : 20 < tc 99 (sm (cG I (gU u)) (cLe I) p 0 (Gl (cG I (gU u)) p)) := by
        unfold tc at *; repeat' split
        all_goals omega
      simp (disch := omega) only [hi_F, hG_F_0, hg_F_1, hq_F_1, hg_F_2, hq_F_2, hg_F_3, hq_F_3, hg_F_4, hq_F_4, hG_F_5, hG_F_6, hG_F_7, hG_F_8, hG_F_9, hg_F_10, hq_F_10, hG_F_11, hG_F_12, hG_F_13, Option.bind_some, nm_eq, sm_inl, sm_inr, zo_0, zo_1, rg_ok]
      rw [if_neg (by omega), if_pos (by omega)]
      exact stay (fun r => absurd r hno)
end FG
