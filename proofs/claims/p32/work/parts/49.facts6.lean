/-! ===== shortest lengths: greatest solutions, cut at K; Facts.findLeasts ===== -/
def dS (d : Nat → Nat) (s : Nat) : Nat := if s < 16 then 1 else d (s - 16)
/-- the sum over m symbols of a right from a place on; 1000 is none -/
def sm (g : GT) (d : Nat → Nat) (p : Nat) : Nat → Nat → Nat
  | _, 0 => 0
  | k, m + 1 => dS d (Gs g p k) + sm g d p (k + 1) m
def tc (K x : Nat) : Nat := if 1000 ≤ x then 1000 else if x ≤ K then x else K
def vald (K : Nat) (d : Nat → Nat) : Prop := ∀ a, a < 16 → d a ≤ K ∨ d a = 1000
def clD (K : Nat) (g : GT) (d : Nat → Nat) : Prop := ∀ p, p < Gn g → d (Go g p) ≤ tc K (sm g d p 0 (Gl g p))
def grD (K : Nat) (g : GT) (d : Nat → Nat) : Prop := vald K d ∧ clD K g d ∧ ∀ e, vald K e → clD K g e → ∀ a, a < 16 → e a ≤ d a
theorem tc_mono {K x y : Nat} (hK : K ≤ 100) (h : x ≤ y) : tc K x ≤ tc K y := by
  unfold tc; repeat' split
  all_goals omega
theorem tc_le (K x : Nat) : tc K x ≤ K ∨ tc K x = 1000 := by
  unfold tc; repeat' split
  all_goals omega
theorem dS_mono {d e : Nat → Nat} (h : ∀ a, a < 16 → e a ≤ d a) {s : Nat} (hs : s < 8 ∨ (16 ≤ s ∧ s < 32)) : dS e s ≤ dS d s := by
  unfold dS; split
  · omega
  · exact h _ (by omega)
theorem sm_mono {g : GT} (hg : GR g) {d e : Nat → Nat} (h : ∀ a, a < 16 → e a ≤ d a) {p : Nat} : ∀ (m k : Nat), k + m ≤ Gl g p → sm g e p k m ≤ sm g d p k m
  | 0, _, _ => Nat.le_refl 0
  | m + 1, k, hk => Nat.add_le_add (dS_mono h (hg.2.2.2.2.2 p k (by omega))) (sm_mono hg h m (k + 1) (by omega))
theorem sm_di {g : GT} (hg : GR g) {K : Nat} (hK1 : 1 ≤ K) {d : Nat → Nat} (h : vald K d) {p : Nat} : ∀ (m k : Nat), k + m ≤ Gl g p → sm g d p k m ≤ K * m ∨ 1000 ≤ sm g d p k m
  | 0, _, _ => Or.inl (Nat.zero_le _)
  | m + 1, k, hk => by
    have h1 := hg.2.2.2.2.2 p k (by omega)
    have h2 := sm_di hg hK1 h (p := p) m (k + 1) (by omega)
    have h3 : dS d (Gs g p k) ≤ K ∨ dS d (Gs g p k) = 1000 := by
      unfold dS; split
      · omega
      · exact h _ (by omega)
    show dS d (Gs g p k) + sm g d p (k + 1) m ≤ K * (m + 1) ∨ 1000 ≤ dS d (Gs g p k) + sm g d p (k + 1) m
    rw [Nat.mul_succ]
    omega
theorem grD_uniq {K : Nat} {g : GT} {d e : Nat → Nat} (h : grD K g d) (q : grD K g e) (a : Nat) (ha : a < 16) : d a = e a := Nat.le_antisymm (q.2.2 _ h.1 h.2.1 a ha) (h.2.2 _ q.1 q.2.1 a ha)
/-- what is cut at 99 is what is cut at 100, cut at 99 -/
theorem grD_cut {g : GT} (hg : GR g) {c r : Nat → Nat} (hc : grD 99 g c) (hr : grD 100 g r) (a : Nat) (ha : a < 16) : c a = if r a = 1000 then 1000 else if r a ≤ 99 then r a else 99 := by
  have h1 : c a ≤ r a := by
    refine hr.2.2 c (fun a ha => by have := hc.1 a ha; omega) (fun p hp => ?_) a ha
    refine Nat.le_trans (hc.2.1 p hp) ?_
    unfold tc; repeat' split
    all_goals omega
  have h2 : (if r a = 1000 then 1000 else if r a ≤ 99 then r a else 99) ≤ c a := by
    refine hc.2.2 (fun a => if r a = 1000 then 1000 else if r a ≤ 99 then r a else 99) (fun a ha => ?_) (fun p hp => ?_) a ha
    · show (if r a = 1000 then 1000 else if r a ≤ 99 then r a else 99) ≤ 99 ∨ (if r a = 1000 then 1000 else if r a ≤ 99 then r a else 99) = 1000
      repeat' split
      all_goals omega
    · have h3 := hr.2.1 p hp
      -- the sum over what is cut: at least the sum, or 99 already
      have key : ∀ (m k : Nat), k + m ≤ Gl g p → (sm g (fun a => if r a = 1000 then 1000 else if r a ≤ 99 then r a else 99) p k m = sm g r p k m) ∨ (99 ≤ sm g (fun a => if r a = 1000 then 1000 else if r a ≤ 99 then r a else 99) p k m ∧ (1000 ≤ sm g (fun a => if r a = 1000 then 1000 else if r a ≤ 99 then r a else 99) p k m ↔ 1000 ≤ sm g r p k m)) := by
        intro m
        induction m with
        | zero => intro k _; exact Or.inl rfl
        | succ m ih =>
          intro k hk
          have i1 := ih (k + 1) (by omega)
          have i2 := sm_di hg (by decide) hr.1 (p := p) m (k + 1) (by omega)
          have i3 := hg.2.2.2.2.2 p k (by omega)
          have i5 := hg.2.2.2.1 p
          have i6 : sm g (fun a => if r a = 1000 then 1000 else if r a ≤ 99 then r a else 99) p (k + 1) m ≤ sm g r p (k + 1) m := sm_mono hg (fun a _ => by
            show (if r a = 1000 then 1000 else if r a ≤ 99 then r a else 99) ≤ r a
            repeat' split
            all_goals omega) m (k + 1) (by omega)
          have i4 : dS (fun a => if r a = 1000 then 1000 else if r a ≤ 99 then r a else 99) (Gs g p k) = dS r (Gs g p k) ∨ (dS (fun a => if r a = 1000 then 1000 else if r a ≤ 99 then r a else 99) (Gs g p k) = 99 ∧ dS r (Gs g p k) = 100) := by
            unfold dS
            split
            · exact Or.inl rfl
            · have := hr.1 (Gs g p k - 16) (by omega)
              show (if r (Gs g p k - 16) = 1000 then 1000 else if r (Gs g p k - 16) ≤ 99 then r (Gs g p k - 16) else 99) = r (Gs g p k - 16) ∨ ((if r (Gs g p k - 16) = 1000 then 1000 else if r (Gs g p k - 16) ≤ 99 then r (Gs g p k - 16) else 99) = 99 ∧ r (Gs g p k - 16) = 100)
              repeat' split
              all_goals omega
          have i7 : dS r (Gs g p k) ≤ 100 ∨ dS r (Gs g p k) = 1000 := by
            unfold dS; split
            · omega
            · exact hr.1 _ (by omega)
          show (dS _ (Gs g p k) + sm g _ p (k + 1) m = dS r (Gs g p k) + sm g r p (k + 1) m) ∨ (99 ≤ dS _ (Gs g p k) + sm g _ p (k + 1) m ∧ (1000 ≤ dS _ (Gs g p k) + sm g _ p (k + 1) m ↔ 1000 ≤ dS r (Gs g p k) + sm g r p (k + 1) m))
          have i8 : 100 * m ≤ 400 := by omega
          omega
      have k0 := key (Gl g p) 0 (by omega)
      show (if r (Go g p) = 1000 then 1000 else if r (Go g p) ≤ 99 then r (Go g p) else 99) ≤ _
      unfold tc at h3 ⊢
      rcases k0 with k0 | ⟨k1, k2⟩
      · rw [k0]
        repeat' split at h3
        all_goals (repeat' split)
        all_goals omega
      · repeat' split at h3
        all_goals (repeat' split)
        all_goals omega
  have h3 := hr.1 a ha
  have h4 := hc.1 a ha
  by_cases e1 : r a = 1000
  · rw [if_pos e1] at h2 ⊢; omega
  · rw [if_neg e1] at h2 ⊢
    by_cases e2 : r a ≤ 99
    · rw [if_pos e2] at h2 ⊢; omega
    · rw [if_neg e2] at h2 ⊢; omega
/-- sums of 16 numbers, to count turns -/
def sD (d : Nat → Nat) : Nat → Nat
  | 0 => 0
  | k + 1 => sD d k + d k
theorem sD_lt {d e : Nat → Nat} : ∀ N, (∀ a, a < N → e a ≤ d a) → (∃ a, a < N ∧ e a < d a) → sD e N < sD d N
  | 0, _, ⟨a, ha, _⟩ => absurd ha (by omega)
  | N + 1, h, ⟨a, ha, q⟩ => by
    have mono : ∀ M, (∀ a, a < M → e a ≤ d a) → sD e M ≤ sD d M := by
      intro M
      induction M with
      | zero => intro _; exact Nat.le_refl 0
      | succ M ih => intro hM; exact Nat.add_le_add (ih (fun a ha => hM a (by omega))) (hM M (by omega))
    show sD e N + e N < sD d N + d N
    by_cases e1 : a = N
    · subst e1
      have := mono a (fun b hb => h b (by omega)); omega
    · have := sD_lt N (fun b hb => h b (by omega)) ⟨a, by omega, q⟩
      have := h N (by omega); omega
theorem sD_le {d : Nat → Nat} {B : Nat} : ∀ N, (∀ a, a < N → d a ≤ B) → sD d N ≤ B * N
  | 0, _ => Nat.zero_le _
  | N + 1, h => by
    have h1 := sD_le N (fun a ha => h a (by omega)); have h2 := h N (by omega)
    show sD d N + d N ≤ B * (N + 1)
    rw [Nat.mul_succ]; omega
/-- the lengths that the class has found -/
def cLe (I : Nat → Nat → Int) (a : Nat) : Nat := if I 68 (16 + a) = -1 then 1000 else (I 68 (16 + a)).toNat
def cLo (I : Nat → Nat → Int) : Prop := (∀ t, t < 8 → I 68 t = 1) ∧ ∀ a, a < 16 → I 68 (16 + a) = -1 ∨ (0 ≤ I 68 (16 + a) ∧ I 68 (16 + a) ≤ 99)
theorem cLe_fr {I J : Nat → Nat → Int} (h : J 68 = I 68) : cLe J = cLe I := by funext a; unfold cLe; rw [h]
theorem cLo_fr {I J : Nat → Nat → Int} (h : J 68 = I 68) (q : cLo I) : cLo J := by unfold cLo; rw [h]; exact q
theorem cLe_val {I : Nat → Nat → Int} (h : cLo I) : vald 99 (cLe I) := fun a ha => by
  have := h.2 a ha
  unfold cLe; split <;> omega
theorem cLe_of {I : Nat → Nat → Int} (h : cLo I) {a : Nat} (ha : a < 16) : (I 68 (16 + a) = -1 ∧ cLe I a = 1000) ∨ (I 68 (16 + a) = (cLe I a : Int) ∧ cLe I a ≤ 99) := by
  have := h.2 a ha
  unfold cLe; split <;> omega
theorem dS_of {I : Nat → Nat → Int} (h : cLo I) {s : Nat} (hs : s < 8 ∨ (16 ≤ s ∧ s < 32)) : (I 68 s = -1 ∧ dS (cLe I) s = 1000) ∨ (I 68 s = (dS (cLe I) s : Int) ∧ dS (cLe I) s ≤ 99) := by
  rcases hs with hs | hs
  · have := h.1 s hs
    unfold dS; rw [if_pos (by omega)]; omega
  · have := cLe_of h (a := s - 16) (by omega)
    rw [show 16 + (s - 16) = s by omega] at this
    unfold dS; rw [if_neg (by omega)]; exact this
section FF
variable {u : Nat} {L : Nat → Nat → Int} {n : Nat}
theorem nF68 : 3 ∉ [68] ∧ 4 ∉ [68] ∧ 5 ∉ [68] ∧ 6 ∉ [68] ∧ 87 ∉ [68] ∧ 88 ∉ [68] ∧ 89 ∉ [68] ∧ 90 ∉ [68] := by decide
theorem X3_leastOf {I : Nat → Nat → Int} (s : Nat) (hs : s < 32) : f_X3_leastOf 64 (s : Int) (hp u I L) = some (I 68 s) := by
  simp (disch := omega) only [f_X3_leastOf, b_X3_leastOf_19, hi_F, hG_F_0, hg_F_1, hq_F_1, hg_F_2, hq_F_2, hg_F_3, hq_F_3, hg_F_4, hq_F_4, hG_F_5, hG_F_6, hG_F_7, hG_F_8, hG_F_9, hg_F_10, hq_F_10, hG_F_11, hG_F_12, hG_F_13, ha_68, hs_68, hl_68, Option.bind_some, nm_eq, sm_inl, sm_inr, zo_0, zo_1, rg_ok, Int.toNat_natCast]
  rw [if_neg (by omega), if_neg (by omega)]
theorem X3_lR_l {I : Nat → Nat → Int} (hw : GW (gU u) I) (hL : cLo I) {p : Nat} (hp1 : p < 1000) : ∀ (m f k acc : Nat), Gl (cG I (gU u)) p = k + m → m < f → acc ≤ 99 → l_X3_leastOfRight_4 n f 64 (p : Int) (acc : Int) (k : Int) (hp u I L) = some (if 1000 ≤ acc + sm (cG I (gU u)) (cLe I) p k m then -1 else ((tc 99 (acc + sm (cG I (gU u)) (cLe I) p k m) : Nat) : Int)) := by
  have hg := GR_of hw
  have h5 := hg.2.2.2.1 p
  intro m
  induction m with
  | zero =>
    intro f k acc hm hf ha
    obtain ⟨f', rfl⟩ : ∃ f', f = f' + 1 := ⟨f - 1, by omega⟩
    simp (disch := omega) only [l_X3_leastOfRight_4, b_X3_leastOfRight_4, hi_F, hG_F_0, hg_F_1, hq_F_1, hg_F_2, hq_F_2, hg_F_3, hq_F_3, hg_F_4, hq_F_4, hG_F_5, hG_F_6, hG_F_7, hG_F_8, hG_F_9, hg_F_10, hq_F_10, hG_F_11, hG_F_12, hG_F_13, Option.bind_some, nm_eq, sm_inl, sm_inr, zo_0, zo_1, hi_G (gU_mem u), X4_length (gU_mem u) hw hp1, rg_ok]
    rw [if_pos (by omega)]
    show some (acc : Int) = some (if 1000 ≤ acc + 0 then -1 else ((tc 99 (acc + 0) : Nat) : Int))
    rw [if_neg (by omega)]
    unfold tc
    rw [if_neg (by omega), if_pos (by omega)]; rfl
  | succ m ih =>
    intro f k acc hm hf ha
    obtain ⟨f', rfl⟩ : ∃ f', f = f' + 1 := ⟨f - 1, by omega⟩
    have hk : k < Gl (cG I (gU u)) p := by omega
    have hs := hg.2.2.2.2.2 p k hk
    have hd := dS_of hL hs
    have hdi := sm_di hg (by decide) (cLe_val hL) (p := p) m (k + 1) (by omega)
    simp (disch := omega) only [l_X3_leastOfRight_4, b_X3_leastOfRight_4, hi_F, hG_F_0, hg_F_1, hq_F_1, hg_F_2, hq_F_2, hg_F_3, hq_F_3, hg_F_4, hq_F_4, hG_F_5, hG_F_6, hG_F_7, hG_F_8, hG_F_9, hg_F_10, hq_F_10, hG_F_11, hG_F_12, hG_F_13, Option.bind_some, nm_eq, sm_inl, sm_inr, zo_0, zo_1, hi_G (gU_mem u), X4_length (gU_mem u) hw hp1, X4_symbol (gU_mem u) hw hk, X3_leastOf, rg_ok]
    rw [if_neg (by omega)]
    show _ = some (if 1000 ≤ acc + (dS (cLe I) (Gs (cG I (gU u)) p k) + sm (cG I (gU u)) (cLe I) p (k + 1) m) then -1 else ((tc 99 (acc + (dS (cLe I) (Gs (cG I (gU u)) p k) + sm (cG I (gU u)) (cLe I) p (k + 1) m)) : Nat) : Int))
    rcases hd with ⟨d1, d2⟩ | ⟨d1, d2⟩
    · rw [if_pos d1, if_pos (by omega)]
    · rw [if_neg (by omega)]
      have hmin : gi_min 99 ((acc : Int) + I 68 (Gs (cG I (gU u)) p k)) = ((if acc + dS (cLe I) (Gs (cG I (gU u)) p k) ≤ 99 then acc + dS (cLe I) (Gs (cG I (gU u)) p k) else 99 : Nat) : Int) := by
        unfold gi_min; rw [d1]; split <;> split <;> omega
      rw [hmin, show (k : Int) + 1 = ((k + 1 : Nat) : Int) by omega, ih f' (k + 1) _ (by omega) (by omega) (by split <;> omega)]
      have h99 : 99 * m ≤ 396 := by omega
      congr 1
      unfold tc
      repeat' split
      all_goals omega
theorem X3_leastOfRight (hn : 1000000000000000000000000000000 ≤ n) {I : Nat → Nat → Int} (hw : GW (gU u) I) (hL : cLo I) {p : Nat} (hp1 : p < 1000) : f_X3_leastOfRight n 64 (p : Int) (hp u I L) = some (if tc 99 (sm (cG I (gU u)) (cLe I) p 0 (Gl (cG I (gU u)) p)) = 1000 then -1 else ((tc 99 (sm (cG I (gU u)) (cLe I) p 0 (Gl (cG I (gU u)) p)) : Nat) : Int)) := by
  have hg := GR_of hw
  have h5 := hg.2.2.2.1 p
  have e : f_X3_leastOfRight n 64 (p : Int) (hp u I L) = l_X3_leastOfRight_4 n n 64 (p : Int) ((0 : Nat) : Int) ((0 : Nat) : Int) (hp u I L) := rfl
  rw [e, X3_lR_l hw hL hp1 (Gl (cG I (gU u)) p) n 0 0 (by omega) (by omega) (by omega)]
  congr 1
  rw [Nat.zero_add]
  by_cases q : 1000 ≤ sm (cG I (gU u)) (cLe I) p 0 (Gl (cG I (gU u)) p)
  · rw [if_pos q, if_pos (by unfold tc; rw [if_pos q])]
  · rw [if_neg q, if_neg (by unfold tc; rw [if_neg q]; split <;> omega)]
/-- lengths found by now: above every closed one -/
def cLi (g : GT) (J : Nat → Nat → Int) : Prop := cLo J ∧ ∀ e, vald 99 e → clD 99 g e → ∀ a, a < 16 → e a ≤ cLe J a
theorem cLi_wr {g : GT} (hg : GR g) {J : Nat → Nat → Int} (h : cLi g J) {p x : Nat} (hp : p < Gn g) (hx : x = tc 99 (sm g (cLe J) p 0 (Gl g p))) (hlt : x < cLe J (Go g p)) : cLi g (gx_u J 68 (16 + Go g p) (x : Int)) ∧ (∀ a, a ≠ Go g p → cLe (gx_u J 68 (16 + Go g p) (x : Int)) a = cLe J a) ∧ cLe (gx_u J 68 (16 + Go g p) (x : Int)) (Go g p) = x := by
  have ho := hg.2.2.1 p
  have h99 : x ≤ 99 := by
    have h1 := tc_le 99 (sm g (cLe J) p 0 (Gl g p))
    have h2 := cLe_val h.1 _ ho
    omega
  have e1 : ∀ a, a ≠ Go g p → cLe (gx_u J 68 (16 + Go g p) (x : Int)) a = cLe J a := fun a ha => by unfold cLe; rw [gu_at_ne (by omega)]
  have e2 : cLe (gx_u J 68 (16 + Go g p) (x : Int)) (Go g p) = x := by unfold cLe; rw [gu_at_eq rfl, if_neg (by omega)]; omega
  refine ⟨⟨⟨fun t ht => by rw [gu_at_ne (by omega)]; exact h.1.1 t ht, fun a ha => ?_⟩, fun e he hc a ha => ?_⟩, e1, e2⟩
  · rw [gu_at]; split
    · omega
    · exact h.1.2 a ha
  · by_cases q : a = Go g p
    · rw [q, e2, hx]
      exact Nat.le_trans (hc p hp) (tc_mono (by decide) (sm_mono hg (h.2 e he hc) _ _ (by omega)))
    · rw [e1 a q]; exact h.2 e he hc a ha
theorem fM_in (hn : 1000000000000000000000000000000 ≤ n) {I J0 : Nat → Nat → Int} (hw : GW (gU u) I) (v2 : Int) (r33 : Nat → Int → Int → gi_H → Option gi_H) : ∀ (m f p : Nat) (J : Nat → Nat → Int) (v1 : Int), Gn (cG I (gU u)) = p + m → m < f → Fr [68] I J → cLi (cG I (gU u)) J → ((v1 = 0 ∧ J = J0 ∧ ∀ q, q < p → cLe J (Go (cG I (gU u)) q) ≤ tc 99 (sm (cG I (gU u)) (cLe J) q 0 (Gl (cG I (gU u)) q))) ∨ (v1 = 1 ∧ sD (cLe J) 16 < sD (cLe J0) 16)) →
    ∃ (J' : Nat → Nat → Int) (v1' : Int), l_X3_findLeasts_47 n r33 f 64 v1 v2 (p : Int) (hp u J L) = r33 64 v1' (v2 + 1) (hp u J' L) ∧ Fr [68] I J' ∧ cLi (cG I (gU u)) J' ∧ ((v1' = 0 ∧ J' = J0 ∧ clD 99 (cG I (gU u)) (cLe J')) ∨ (v1' = 1 ∧ sD (cLe J') 16 < sD (cLe J0) 16)) := by
  have hg := GR_of hw
  have h24 := hg.1
  intro m
  induction m with
  | zero =>
    intro f p J v1 hm hf hfr hB hv
    obtain ⟨f', rfl⟩ : ∃ f', f = f' + 1 := ⟨f - 1, by omega⟩
    have hwJ := GWu_fr hfr nF68 hw
    have hgJ := cGu_fr (u := u) hfr nF68
    simp (disch := omega) only [l_X3_findLeasts_47, b_X3_findLeasts_47, b_X3_findLeasts_142, hi_F, hG_F_0, hg_F_1, hq_F_1, hg_F_2, hq_F_2, hg_F_3, hq_F_3, hg_F_4, hq_F_4, hG_F_5, hG_F_6, hG_F_7, hG_F_8, hG_F_9, hg_F_10, hq_F_10, hG_F_11, hG_F_12, hG_F_13, Option.bind_some, nm_eq, sm_inl, sm_inr, zo_0, zo_1, hi_G (gU_mem u), X4_count (gU_mem u) hwJ, hgJ, rg_ok]
    rw [if_pos (by omega)]
    refine ⟨J, v1, rfl, hfr, hB, ?_⟩
    rcases hv with ⟨a1, a2, a3⟩ | hv
    · exact Or.inl ⟨a1, a2, fun q hq => a3 q (by omega)⟩
    · exact Or.inr hv
  | succ m ih =>
    intro f p J v1 hm hf hfr hB hv
    obtain ⟨f', rfl⟩ : ∃ f', f = f' + 1 := ⟨f - 1, by omega⟩
    have hwJ := GWu_fr hfr nF68 hw
    have hgJ := cGu_fr (u := u) hfr nF68
    have hp1 : p < Gn (cG I (gU u)) := by omega
    have hp2 : p < Gn (cG J (gU u)) := by rw [hgJ]; exact hp1
    have ho := hg.2.2.1 p
    have elr := X3_leastOfRight (u := u) (L := L) hn hwJ hB.1 (p := p) (by omega)
    rw [hgJ] at elr
    have hx : tc 99 (sm (cG I (gU u)) (cLe J) p 0 (Gl (cG I (gU u)) p)) ≤ 99 ∨ tc 99 (sm (cG I (gU u)) (cLe J) p 0 (Gl (cG I (gU u)) p)) = 1000 := tc_le _ _
    generalize hX : tc 99 (sm (cG I (gU u)) (cLe J) p 0 (Gl (cG I (gU u)) p)) = x at elr hx
    have hd := cLe_of hB.1 ho
    simp (disch := omega) only [l_X3_findLeasts_47, b_X3_findLeasts_47, hi_F, hG_F_0, hg_F_1, hq_F_1, hg_F_2, hq_F_2, hg_F_3, hq_F_3, hg_F_4, hq_F_4, hG_F_5, hG_F_6, hG_F_7, hG_F_8, hG_F_9, hg_F_10, hq_F_10, hG_F_11, hG_F_12, hG_F_13, Option.bind_some, nm_eq, sm_inl, sm_inr, zo_0, zo_1, hi_G (gU_mem u), X4_count (gU_mem u) hwJ, hgJ, rg_ok, X4_owner (gU_mem u) hwJ hp2, elr]
    rw [if_neg (by omega), show (16 : Int) + ((Go (cG I (gU u)) p : Nat) : Int) = ((16 + Go (cG I (gU u)) p : Nat) : Int) by omega]
    simp (disch := omega) only [hi_F, hG_F_0, hg_F_1, hq_F_1, hg_F_2, hq_F_2, hg_F_3, hq_F_3, hg_F_4, hq_F_4, hG_F_5, hG_F_6, hG_F_7, hG_F_8, hG_F_9, hg_F_10, hq_F_10, hG_F_11, hG_F_12, hG_F_13, Option.bind_some, nm_eq, sm_inl, sm_inr, zo_0, zo_1, X3_leastOf, rg_ok]
    -- not shorter: the next production
    have stay : cLe J (Go (cG I (gU u)) p) ≤ x → ∃ (J' : Nat → Nat → Int) (v1' : Int), b_X3_findLeasts_136 n r33 (l_X3_findLeasts_47 n r33 f') 64 v1 v2 (p : Int) (hp u J L) = r33 64 v1' (v2 + 1) (hp u J' L) ∧ Fr [68] I J' ∧ cLi (cG I (gU u)) J' ∧ ((v1' = 0 ∧ J' = J0 ∧ clD 99 (cG I (gU u)) (cLe J')) ∨ (v1' = 1 ∧ sD (cLe J') 16 < sD (cLe J0) 16)) := by
      intro hle
      rw [b_X3_findLeasts_136, nm_eq, show (p : Int) + 1 = ((p + 1 : Nat) : Int) by omega]
      refine ih f' (p + 1) J v1 (by omega) (by omega) hfr hB ?_
      rcases hv with ⟨a1, a2, a3⟩ | hv
      · refine Or.inl ⟨a1, a2, fun q hq => ?_⟩
        by_cases hqp : q = p
        · subst hqp; rw [hX]; exact hle
        · exact a3 q (by omega)
      · exact Or.inr hv
    -- shorter: it is told
    have move : x < cLe J (Go (cG I (gU u)) p) → ∃ (J' : Nat → Nat → Int) (v1' : Int), b_X3_findLeasts_99 n r33 (l_X3_findLeasts_47 n r33 f') 64 v1 v2 (p : Int) ((16 + Go (cG I (gU u)) p : Nat) : Int) (x : Int) (hp u J L) = r33 64 v1' (v2 + 1) (hp u J' L) ∧ Fr [68] I J' ∧ cLi (cG I (gU u)) J' ∧ ((v1' = 0 ∧ J' = J0 ∧ clD 99 (cG I (gU u)) (cLe J')) ∨ (v1' = 1 ∧ sD (cLe J') 16 < sD (cLe J0) 16)) := by
      intro hlt
      have h3 := cLe_val hB.1 _ ho
      obtain ⟨k1, k2, k3⟩ := cLi_wr hg hB hp1 hX.symm hlt
      simp (disch := omega) only [b_X3_findLeasts_99, b_X3_findLeasts_104, b_X3_findLeasts_136, hi_F, hG_F_0, hg_F_1, hq_F_1, hg_F_2, hq_F_2, hg_F_3, hq_F_3, hg_F_4, hq_F_4, hG_F_5, hG_F_6, hG_F_7, hG_F_8, hG_F_9, hg_F_10, hq_F_10, hG_F_11, hG_F_12, hG_F_13, ha_68, hs_68, hl_68, Option.bind_some, nm_eq, sm_inl, sm_inr, zo_0, zo_1, rg_ok, X11_isN1, Int.toNat_natCast]
      rw [if_neg (by omega), if_neg (by decide), if_neg (by decide), show (p : Int) + 1 = ((p + 1 : Nat) : Int) by omega]
      refine ih f' (p + 1) _ 1 (by omega) (by omega) (hfr.wr (List.mem_singleton.mpr rfl)) k1 (Or.inr ⟨rfl, ?_⟩)
      have hs : sD (cLe (gx_u J 68 (16 + Go (cG I (gU u)) p) (x : Int))) 16 < sD (cLe J) 16 := by
        refine sD_lt 16 (fun a ha => ?_) ⟨Go (cG I (gU u)) p, ho, by rw [k3]; exact hlt⟩
        by_cases q : a = Go (cG I (gU u)) p
        · rw [q, k3]; omega
        · rw [k2 a q]; omega
      rcases hv with ⟨-, a2, -⟩ | ⟨-, a2⟩
      · rw [← a2]; exact hs
      · exact Nat.lt_trans hs a2
    rcases hd with ⟨d1, d2⟩ | ⟨d1, d2⟩
    · rw [if_pos d1]
      by_cases hx0 : x = 1000
      · rw [if_pos hx0]
        try simp (disch := omega) only [b_X3_findLeasts_99, b_X3_findLeasts_104, Option.bind_some, nm_eq, sm_inl, sm_inr, zo_0, zo_1, rg_ok]
        rw [if_pos trivial]
        exact stay (by omega)
      · rw [if_neg hx0]; exact move (by have hx1 : x ≤ 99 := hx.resolve_right hx0; rw [d2]; exact Nat.lt_of_le_of_lt hx1 (by decide))
    · rw [if_neg (by omega)]
      by_cases hx0 : x = 1000
      · rw [if_pos hx0]
        try simp (disch := omega) only [Option.bind_some, nm_eq, sm_inl, sm_inr, zo_0, zo_1, rg_ok]
        rw [if_neg (by omega)]
        try simp (disch := omega) only [b_X3_findLeasts_99, b_X3_findLeasts_104, Option.bind_some, nm_eq, sm_inl, sm_inr, zo_0, zo_1, rg_ok]
        rw [if_pos trivial]
        exact stay (by omega)
      · have hx1 : x ≤ 99 := hx.resolve_right hx0
        clear hx
        rw [if_neg hx0]
        try simp (disch := omega) only [Option.bind_some, nm_eq, sm_inl, sm_inr, zo_0, zo_1, rg_ok]
        by_cases hc : cLe J (Go (cG I (gU u)) p) ≤ x
        · rw [if_pos (by omega)]
          try simp (disch := omega) only [b_X3_findLeasts_104, Option.bind_some, nm_eq, sm_inl, sm_inr, zo_0, zo_1, rg_ok]
          rw [if_neg (by omega), if_pos trivial]
          exact stay hc
        · rw [if_neg (by omega)]; exact move (by omega)
theorem fM_out (hn : 1000000000000000000000000000000 ≤ n) {I : Nat → Nat → Int} (hw : GW (gU u) I) : ∀ (m f rd : Nat) (J : Nat → Nat → Int), sD (cLe J) 16 < m → m < f → rd + sD (cLe J) 16 ≤ 16000 → Fr [68] I J → cLi (cG I (gU u)) J →
    ∃ J' : Nat → Nat → Int, l_X3_findLeasts_33 n f 64 1 (rd : Int) (hp u J L) = some (hp u J' L) ∧ Fr [68] I J' ∧ cLi (cG I (gU u)) J' ∧ clD 99 (cG I (gU u)) (cLe J') := by
  intro m
  induction m with
  | zero => intro f rd J hm; omega
  | succ m ih =>
    intro f rd J hm hf hrd hfr hB
    obtain ⟨f', rfl⟩ : ∃ f', f = f' + 1 := ⟨f - 1, by omega⟩
    simp (disch := omega) only [l_X3_findLeasts_33, b_X3_findLeasts_33, Option.bind_some, nm_eq, sm_inl, sm_inr, zo_0, zo_1, rg_ok]
    rw [if_neg (by omega), if_neg (by decide)]
    obtain ⟨J1, v1, e, h1, h2, h3⟩ := fM_in (L := L) (J0 := J) hn hw (rd : Int) (l_X3_findLeasts_33 n f') (Gn (cG I (gU u))) n 0 J 0 (by omega) (by have := (GR_of hw).1; omega) hfr hB (Or.inl ⟨rfl, rfl, fun q hq => absurd hq (by omega)⟩)
    have e' : l_X3_findLeasts_47 n (l_X3_findLeasts_33 n f') n 64 0 (rd : Int) 0 (hp u J L) = l_X3_findLeasts_33 n f' 64 v1 ((rd : Int) + 1) (hp u J1 L) := e
    rw [e']
    rcases h3 with ⟨a1, a2, a3⟩ | ⟨a1, a2⟩
    · rw [a1]
      by_cases h0 : f' = 0
      · omega
      · obtain ⟨f2, rfl⟩ : ∃ f2, f' = f2 + 1 := ⟨f' - 1, by omega⟩
        simp (disch := omega) only [l_X3_findLeasts_33, b_X3_findLeasts_33, Option.bind_some, nm_eq, sm_inl, sm_inr, zo_0, zo_1, rg_ok]
        rw [if_neg (by omega), if_pos trivial]
        exact ⟨J1, rfl, h1, h2, a3⟩
    · rw [a1, show (rd : Int) + 1 = ((rd + 1 : Nat) : Int) by omega]
      exact ih f' (rd + 1) J1 (by omega) (by omega) (by omega) h1 h2
theorem fM_ter {I : Nat → Nat → Int} : ∀ (m f t : Nat) (J : Nat → Nat → Int), 8 = t + m → m < f → Fr [68] I J → (∀ s, s < t → J 68 s = 1) → (∀ s, t ≤ s → s < 32 → J 68 s = -1) →
    ∃ J' : Nat → Nat → Int, l_X3_findLeasts_10 n f 64 (t : Int) (hp u J L) = b_X3_findLeasts_29 n 64 (hp u J' L) ∧ Fr [68] I J' ∧ (∀ s, s < 8 → J' 68 s = 1) ∧ ∀ s, 8 ≤ s → s < 32 → J' 68 s = -1 := by
  intro m
  induction m with
  | zero =>
    intro f t J hm hf hfr h1 h2
    obtain ⟨f', rfl⟩ : ∃ f', f = f' + 1 := ⟨f - 1, by omega⟩
    simp (disch := omega) only [l_X3_findLeasts_10, b_X3_findLeasts_10, Option.bind_some, nm_eq, sm_inl, sm_inr, zo_0, zo_1, rg_ok]
    rw [if_pos (by omega)]
    exact ⟨J, rfl, hfr, fun s hs => h1 s (by omega), fun s hs hs2 => h2 s (by omega) hs2⟩
  | succ m ih =>
    intro f t J hm hf hfr h1 h2
    obtain ⟨f', rfl⟩ : ∃ f', f = f' + 1 := ⟨f - 1, by omega⟩
    simp (disch := omega) only [l_X3_findLeasts_10, b_X3_findLeasts_10, hi_F, hG_F_0, hg_F_1, hq_F_1, hg_F_2, hq_F_2, hg_F_3, hq_F_3, hg_F_4, hq_F_4, hG_F_5, hG_F_6, hG_F_7, hG_F_8, hG_F_9, hg_F_10, hq_F_10, hG_F_11, hG_F_12, hG_F_13, ha_68, hs_68, hl_68, Option.bind_some, nm_eq, sm_inl, sm_inr, zo_0, zo_1, rg_ok]
    rw [if_neg (by omega), show (t : Int) + 1 = ((t + 1 : Nat) : Int) by omega]
    simp only [Int.toNat_natCast]
    refine ih f' (t + 1) _ (by omega) (by omega) (hfr.wr (List.mem_singleton.mpr rfl)) (fun s hs => ?_) (fun s hs hs2 => ?_)
    · by_cases e : s = t
      · subst e; rw [gu_at_eq rfl]
      · rw [gu_at_ne e]; exact h1 s (by omega)
    · rw [gu_at_ne (by omega)]; exact h2 s (by omega) hs2
theorem X3_findLeasts (hn : 1000000000000000000000000000000 ≤ n) {I : Nat → Nat → Int} (hw : GW (gU u) I) :
    ∃ J : Nat → Nat → Int, f_X3_findLeasts n 64 (hp u I L) = some (hp u J L) ∧ Fr [68] I J ∧ cLo J ∧ grD 99 (cG I (gU u)) (cLe J) := by
  obtain ⟨J1, e1, f1, v1⟩ := J7_fill (u := u) (L := L) (I := I) (x := -1) (a := 68) (N := 32) hn rfl (by decide) (by decide)
  obtain ⟨J2, e2, f2, t2, z2⟩ := fM_ter (u := u) (L := L) (n := n) (I := I) 8 n 0 J1 (by omega) (by omega) f1 (fun s hs => absurd hs (by omega)) (fun s _ hs => by rw [v1 s, if_pos hs])
  have hc : ∀ a, a < 16 → cLe J2 a = 1000 := fun a ha => by unfold cLe; rw [z2 (16 + a) (by omega) (by omega), if_pos rfl]
  have hB : cLi (cG I (gU u)) J2 := ⟨⟨t2, fun a ha => Or.inl (z2 (16 + a) (by omega) (by omega))⟩, fun e he _ a ha => by rw [hc a ha]; have := he a ha; omega⟩
  have hsum : sD (cLe J2) 16 ≤ 1000 * 16 := sD_le 16 (fun a ha => by rw [hc a ha]; omega)
  obtain ⟨J3, e3, f3, b3, c3⟩ := fM_out (u := u) (L := L) hn hw 16001 n 0 J2 (by omega) (by omega) (by omega) f2 hB
  refine ⟨J3, ?_, f3, b3.1, cLe_val b3.1, c3, b3.2⟩
  rw [f_X3_findLeasts]
  simp only [hi_F, hG_F_0, hg_F_1, hq_F_1, hg_F_2, hq_F_2, hg_F_3, hq_F_3, hg_F_4, hq_F_4, hG_F_5, hG_F_6, hG_F_7, hG_F_8, hG_F_9, hg_F_10, hq_F_10, hG_F_11, hG_F_12, hG_F_13, Option.bind_some, nm_eq, sm_inl, sm_inr, zo_0, zo_1, e1]
  exact e2.trans e3
end FF
