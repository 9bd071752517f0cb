/-! ===== Facts.findBeginnings finds the least closed sets ===== -/
theorem or00 : gi_or 0 0 = 0 := by decide +kernel
theorem or01 : gi_or 0 1 = 1 := by decide +kernel
theorem or10 : gi_or 1 0 = 1 := by decide +kernel
theorem or11 : gi_or 1 1 = 1 := by decide +kernel
/-- grammars whose symbols are in range -/
def GR (g : GT) : Prop := Gn g ≤ 24 ∧ Gt g < 8 ∧ (∀ p, Go g p < 16) ∧ (∀ p, Gl g p ≤ 5) ∧ (∀ p k, k < Gl g p → p < Gn g) ∧ ∀ p k, k < Gl g p → Gs g p k < 8 ∨ (16 ≤ Gs g p k ∧ Gs g p k < 32)
theorem GR_of {I : Nat → Nat → Int} {v : Nat} (hw : GW v I) : GR (cG I v) := ⟨cG_n24 hw, cG_t7 hw, fun _ => cG_o16 hw, fun _ => cG_l5 hw, fun _ _ h => cG_lp h, fun _ _ h => cG_sr hw h⟩
def cBI (g : GT) (J : Nat → Nat → Int) : Prop := cTb J ∧ ∀ N' F', cl1 g N' F' → (∀ a, cNi J a → N' a) ∧ ∀ a t, cFi J a t → F' a t
def clp (g : GT) (J : Nat → Nat → Int) (p : Nat) : Prop := (emF g (cNi J) p 0 → cNi J (Go g p)) ∧ ∀ t, fsF g (cNi J) (cFi J) p 0 t → cFi J (Go g p) t
theorem fsF_lt8 {g : GT} (hg : GR g) {J : Nat → Nat → Int} {N : Nat → Prop} {p k t : Nat} (h : fsF g N (cFi J) p k t) : t < 8 := by
  obtain ⟨j, -, h2, -, h4⟩ := h
  rcases h4 with ⟨h5, rfl⟩ | ⟨-, h5⟩
  · have := hg.2.2.2.2.2 p j h2; omega
  · exact h5.2.1
theorem cBI_no {g : GT} (hg : GR g) {J : Nat → Nat → Int} (h : cBI g J) {p : Nat} {r : Int} (hr : ∀ i, bt r i = true ↔ (i < 8 ∧ fsF g (cNi J) (cFi J) p 0 i) ∨ (i = 9 ∧ emF g (cNi J) p 0)) (e : gi_or (J 65 (16 + Go g p)) r = J 65 (16 + Go g p)) : clp g J p := by
  have h1 := (bt_or_left (h.1.2.1 _ (by have := hg.2.2.1 p; omega))).mp e
  refine ⟨fun q => ⟨hg.2.2.1 p, h1 9 (by decide) ((hr 9).mpr (Or.inr ⟨rfl, q⟩))⟩, fun t q => ?_⟩
  have h8 := fsF_lt8 hg q
  exact ⟨hg.2.2.1 p, h8, h1 t (by omega) ((hr t).mpr (Or.inl ⟨h8, q⟩))⟩
theorem cBI_wr {g : GT} {J : Nat → Nat → Int} (h : cBI g J) {p : Nat} (hp : p < Gn g) {r : Int} (hr : ∀ i, bt r i = true ↔ (i < 8 ∧ fsF g (cNi J) (cFi J) p 0 i) ∨ (i = 9 ∧ emF g (cNi J) p 0)) : cBI g (gx_u J 65 (16 + Go g p) (gi_or (J 65 (16 + Go g p)) r)) := by
  refine ⟨⟨fun t ht i => ?_, fun k hk => ?_, fun a ha i hi => ?_⟩, fun N' F' hc => ?_⟩
  · rw [gu_at_ne (by omega)]; exact h.1.1 t ht i
  · rw [gu_at]; split
    · exact bt_ok_or _ _
    · exact h.1.2.1 k hk
  · by_cases e : a = Go g p
    · subst e
      rw [gu_at_eq rfl, bt_or, Bool.or_eq_true] at hi
      rcases hi with hi | hi
      · exact h.1.2.2 _ ha i hi
      · rcases (hr i).mp hi with z | z
        · exact Or.inl z.1
        · exact Or.inr z.1
    · rw [gu_at_ne (by omega)] at hi; exact h.1.2.2 a ha i hi
  · obtain ⟨m1, m2⟩ := h.2 N' F' hc
    have hcp := hc p hp
    refine ⟨fun a q => ?_, fun a t q => ?_⟩
    · obtain ⟨ha, q⟩ := q
      by_cases e : a = Go g p
      · subst e
        rw [gu_at_eq rfl, bt_or, Bool.or_eq_true] at q
        rcases q with q | q
        · exact m1 _ ⟨ha, q⟩
        · rcases (hr 9).mp q with z | z
          · omega
          · exact hcp.1 (emF_mono m1 z.2)
      · rw [gu_at_ne (by omega)] at q; exact m1 _ ⟨ha, q⟩
    · obtain ⟨ha, ht, q⟩ := q
      by_cases e : a = Go g p
      · subst e
        rw [gu_at_eq rfl, bt_or, Bool.or_eq_true] at q
        rcases q with q | q
        · exact m2 _ _ ⟨ha, ht, q⟩
        · rcases (hr t).mp q with z | z
          · exact hcp.2 t (fsF_mono m1 m2 z.2)
          · omega
      · rw [gu_at_ne (by omega)] at q; exact m2 _ _ ⟨ha, ht, q⟩
section FB
variable {u : Nat} {L : Nat → Nat → Int} {n : Nat}
theorem nF65 : 3 ∉ [65] ∧ 4 ∉ [65] ∧ 5 ∉ [65] ∧ 6 ∉ [65] ∧ 87 ∉ [65] ∧ 88 ∉ [65] ∧ 89 ∉ [65] ∧ 90 ∉ [65] := by decide
theorem fB_in (hn : 1000000000000000000000000000000 ≤ n) {I J0 : Nat → Nat → Int} (hw : GW (gU u) I) (v2 : Int) (r35 : Nat → Int → Int → gi_H → Option gi_H) : ∀ (m f p : Nat) (J : Nat → Nat → Int) (v1 : Int), Gn (cG I (gU u)) = p + m → m < f → Fr [65] I J → cBI (cG I (gU u)) J → ((v1 = 0 ∧ J = J0 ∧ ∀ q, q < p → clp (cG I (gU u)) J q) ∨ (v1 = 1 ∧ cM (J0 65) 32 < cM (J 65) 32)) →
    ∃ (J' : Nat → Nat → Int) (v1' : Int), l_X3_findBeginnings_49 n r35 f 64 v1 v2 (p : Int) (hp u J L) = r35 64 v1' (v2 + 1) (hp u J' L) ∧ Fr [65] I J' ∧ cBI (cG I (gU u)) J' ∧ ((v1' = 0 ∧ J' = J0 ∧ ∀ q, q < Gn (cG I (gU u)) → clp (cG I (gU u)) J' q) ∨ (v1' = 1 ∧ cM (J0 65) 32 < cM (J' 65) 32)) := by
  have hg := GR_of hw
  intro m
  induction m with
  | zero =>
    intro f p J v1 hm hf hfr hB hv
    obtain ⟨f', rfl⟩ : ∃ f', f = f' + 1 := ⟨f - 1, by omega⟩
    have hwJ := GWu_fr hfr nF65 hw
    have hgJ := cGu_fr (u := u) hfr nF65
    have h24 := hg.1
    simp (disch := omega) only [l_X3_findBeginnings_49, b_X3_findBeginnings_49, b_X3_findBeginnings_97, hi_F, hG_F_0, hg_F_1, hq_F_1, hg_F_2, hq_F_2, hg_F_3, hq_F_3, hg_F_4, hq_F_4, hG_F_5, hG_F_6, hG_F_7, hG_F_8, hG_F_9, hg_F_10, hq_F_10, hG_F_11, hG_F_12, hG_F_13, Option.bind_some, nm_eq, sm_inl, sm_inr, zo_0, zo_1, hi_G (gU_mem u), X4_count (gU_mem u) hwJ, hgJ, rg_ok]
    rw [if_pos (by omega)]
    refine ⟨J, v1, rfl, hfr, hB, ?_⟩
    rcases hv with ⟨a1, a2, a3⟩ | hv
    · exact Or.inl ⟨a1, a2, fun q hq => a3 q (by omega)⟩
    · exact Or.inr hv
  | succ m ih =>
    intro f p J v1 hm hf hfr hB hv
    obtain ⟨f', rfl⟩ : ∃ f', f = f' + 1 := ⟨f - 1, by omega⟩
    have hwJ := GWu_fr hfr nF65 hw
    have hgJ := cGu_fr (u := u) hfr nF65
    have h24 := hg.1
    have hp1 : p < Gn (cG I (gU u)) := by omega
    have hp2 : p < Gn (cG J (gU u)) := by rw [hgJ]; exact hp1
    obtain ⟨r, er, hro, hr⟩ := X3_beg (n := n) (L := L) hn hwJ hB.1 (p := p) (k := 0) (by omega) (by omega)
    have er' : f_X3_beginnings n 64 (p : Int) 0 (hp u J L) = some r := er
    rw [hgJ] at hr
    have h16 := hg.2.2.1 p
    simp (disch := omega) only [l_X3_findBeginnings_49, b_X3_findBeginnings_49, hi_F, hG_F_0, hg_F_1, hq_F_1, hg_F_2, hq_F_2, hg_F_3, hq_F_3, hg_F_4, hq_F_4, hG_F_5, hG_F_6, hG_F_7, hG_F_8, hG_F_9, hg_F_10, hq_F_10, hG_F_11, hG_F_12, hG_F_13, Option.bind_some, nm_eq, sm_inl, sm_inr, zo_0, zo_1, hi_G (gU_mem u), X4_count (gU_mem u) hwJ, hgJ, rg_ok, X4_owner (gU_mem u) hwJ hp2, er']
    rw [if_neg (by omega), show (16 : Int) + ((Go (cG I (gU u)) p : Nat) : Int) = ((16 + Go (cG I (gU u)) p : Nat) : Int) by omega,
      X3_widen (N := 32) rfl (by decide) (by decide) (by omega) (hB.1.2.1 _ (by omega)), show (p : Int) + 1 = ((p + 1 : Nat) : Int) by omega]
    by_cases e : gi_or (J 65 (16 + Go (cG I (gU u)) p)) r = J 65 (16 + Go (cG I (gU u)) p)
    · rw [if_pos e]
      simp only [Option.bind_some, nm_eq, sm_inl, sm_inr, zo_0, zo_1]
      have hc := cBI_no hg hB hr e
      rcases hv with ⟨a1, a2, a3⟩ | ⟨a1, a2⟩
      · rw [a1, or00]
        exact ih f' (p + 1) J 0 (by omega) (by omega) hfr hB (Or.inl ⟨rfl, a2, fun q hq => by
          by_cases hqp : q = p
          · subst hqp; exact hc
          · exact a3 q (by omega)⟩)
      · rw [a1, or10]
        exact ih f' (p + 1) J 1 (by omega) (by omega) hfr hB (Or.inr ⟨rfl, a2⟩)
    · rw [if_neg e]
      simp only [Option.bind_some, nm_eq, sm_inl, sm_inr, zo_0, zo_1]
      have hlt := cM_wid (N := 32) (I := J) (a := 65) (by omega) (hB.1.2.1 (16 + Go (cG I (gU u)) p) (by omega)) e
      have hv1 : gi_or v1 1 = 1 := by rcases hv with ⟨a1, -⟩ | ⟨a1, -⟩ <;> rw [a1] <;> first | exact or01 | exact or11
      rw [hv1]
      refine ih f' (p + 1) _ 1 (by omega) (by omega) (hfr.wr (List.mem_singleton.mpr rfl)) (cBI_wr hB hp1 hr) (Or.inr ⟨rfl, ?_⟩)
      rcases hv with ⟨-, a2, -⟩ | ⟨-, a2⟩
      · rw [← a2]; exact hlt
      · exact Nat.lt_trans a2 hlt
theorem fB_out (hn : 1000000000000000000000000000000 ≤ n) {I : Nat → Nat → Int} (hw : GW (gU u) I) : ∀ (m f rd : Nat) (J : Nat → Nat → Int), 1025 ≤ cM (J 65) 32 + m → m < f → rd ≤ cM (J 65) 32 → Fr [65] I J → cBI (cG I (gU u)) J →
    ∃ J' : Nat → Nat → Int, l_X3_findBeginnings_35 n f 64 1 (rd : Int) (hp u J L) = some (hp u J' L) ∧ Fr [65] I J' ∧ cBI (cG I (gU u)) J' ∧ ∀ q, q < Gn (cG I (gU u)) → clp (cG I (gU u)) J' q := by
  intro m
  induction m with
  | zero => intro f rd J hm; have := cM_le (J 65) 32; omega
  | succ m ih =>
    intro f rd J hm hf hrd hfr hB
    obtain ⟨f', rfl⟩ : ∃ f', f = f' + 1 := ⟨f - 1, by omega⟩
    have hM := cM_le (J 65) 32
    simp (disch := omega) only [l_X3_findBeginnings_35, b_X3_findBeginnings_35, Option.bind_some, nm_eq, sm_inl, sm_inr, zo_0, zo_1, rg_ok]
    rw [if_neg (by omega), if_neg (by decide)]
    obtain ⟨J1, v1, e, h1, h2, h3⟩ := fB_in (L := L) (J0 := J) hn hw (rd : Int) (l_X3_findBeginnings_35 n f') (Gn (cG I (gU u))) n 0 J 0 (by omega) (by have := (GR_of hw).1; omega) hfr hB (Or.inl ⟨rfl, rfl, fun q hq => absurd hq (by omega)⟩)
    have e' : l_X3_findBeginnings_49 n (l_X3_findBeginnings_35 n f') n 64 0 (rd : Int) 0 (hp u J L) = l_X3_findBeginnings_35 n f' 64 v1 ((rd : Int) + 1) (hp u J1 L) := e
    rw [e']
    rcases h3 with ⟨a1, a2, a3⟩ | ⟨a1, a2⟩
    · obtain ⟨f2, rfl⟩ : ∃ f2, f' = f2 + 1 := ⟨f' - 1, by omega⟩
      rw [a1]
      simp (disch := omega) only [l_X3_findBeginnings_35, b_X3_findBeginnings_35, Option.bind_some, nm_eq, sm_inl, sm_inr, zo_0, zo_1, rg_ok]
      rw [if_neg (by omega), if_pos trivial]
      exact ⟨J1, rfl, h1, h2, a3⟩
    · rw [a1, show (rd : Int) + 1 = ((rd + 1 : Nat) : Int) by omega]
      exact ih f' (rd + 1) J1 (by omega) (by omega) (by omega) h1 h2
/-- the loop that makes the terminals' own sets -/
theorem fB_ter {I : Nat → Nat → Int} : ∀ (m f t : Nat) (J : Nat → Nat → Int), 8 = t + m → m < f → Fr [65] I J → (∀ s, s < t → ∀ i, bt (J 65 s) i = decide (i = s)) → (∀ s, t ≤ s → s < 32 → J 65 s = 0) → (∀ k, k < 32 → gi_ok (J 65 k)) →
    ∃ J' : Nat → Nat → Int, l_X3_findBeginnings_10 n f 64 (t : Int) (hp u J L) = b_X3_findBeginnings_31 n 64 (hp u J' L) ∧ Fr [65] I J' ∧ (∀ s, s < 8 → ∀ i, bt (J' 65 s) i = decide (i = s)) ∧ (∀ s, 8 ≤ s → s < 32 → J' 65 s = 0) ∧ ∀ k, k < 32 → gi_ok (J' 65 k) := by
  intro m
  induction m with
  | zero =>
    intro f t J hm hf hfr h1 h2 h3
    obtain ⟨f', rfl⟩ : ∃ f', f = f' + 1 := ⟨f - 1, by omega⟩
    simp (disch := omega) only [l_X3_findBeginnings_10, b_X3_findBeginnings_10, Option.bind_some, nm_eq, sm_inl, sm_inr, zo_0, zo_1, rg_ok]
    rw [if_pos (by omega)]
    exact ⟨J, rfl, hfr, fun s hs => h1 s (by omega), fun s hs hs2 => h2 s (by omega) hs2, h3⟩
  | succ m ih =>
    intro f t J hm hf hfr h1 h2 h3
    obtain ⟨f', rfl⟩ : ∃ f', f = f' + 1 := ⟨f - 1, by omega⟩
    simp (disch := omega) only [l_X3_findBeginnings_10, b_X3_findBeginnings_10, hi_F, hG_F_0, hg_F_1, hq_F_1, hg_F_2, hq_F_2, hg_F_3, hq_F_3, hg_F_4, hq_F_4, hG_F_5, hG_F_6, hG_F_7, hG_F_8, hG_F_9, hg_F_10, hq_F_10, hG_F_11, hG_F_12, hG_F_13, ha_65, hs_65, hl_65, Option.bind_some, nm_eq, sm_inl, sm_inr, zo_0, zo_1, rg_ok]
    rw [if_neg (by omega), show (t : Int) + 1 = ((t + 1 : Nat) : Int) by omega]
    simp only [Int.toNat_natCast]
    refine ih f' (t + 1) _ (by omega) (by omega) (hfr.wr (List.mem_singleton.mpr rfl)) (fun s hs i => ?_) (fun s hs hs2 => ?_) (fun k hk => ?_)
    · by_cases e : s = t
      · subst e; rw [gu_at_eq rfl, bt_shl1 (by omega)]
      · rw [gu_at_ne e]; exact h1 s (by omega) i
    · rw [gu_at_ne (by omega)]; exact h2 s (by omega) hs2
    · rw [gu_at]; split
      · exact bt_ok_shl _ _
      · exact h3 k hk
theorem X3_findBeginnings (hn : 1000000000000000000000000000000 ≤ n) {I : Nat → Nat → Int} (hw : GW (gU u) I) :
    ∃ J : Nat → Nat → Int, f_X3_findBeginnings n 64 (hp u I L) = some (hp u J L) ∧ Fr [65] I J ∧ cTb J ∧ ls1 (cG I (gU u)) (cNi J) (cFi J) := by
  obtain ⟨J1, e1, f1, v1⟩ := J7_fill (u := u) (L := L) (I := I) (x := 0) (a := 65) (N := 32) hn rfl (by decide) (by decide)
  have hz : ∀ k, k < 32 → J1 65 k = 0 := fun k hk => by rw [v1 k, if_pos hk]
  obtain ⟨J2, e2, f2, t2, z2, o2⟩ := fB_ter (u := u) (L := L) (n := n) (I := I) 8 n 0 J1 (by omega) (by omega) f1 (fun s hs => absurd hs (by omega)) (fun s _ hs => hz s hs) (fun k hk => by rw [hz k hk]; decide)
  have hB : cBI (cG I (gU u)) J2 := by
    refine ⟨⟨t2, o2, fun a ha i hi => ?_⟩, fun N' F' _ => ⟨fun a q => ?_, fun a t q => ?_⟩⟩
    · rw [z2 (16 + a) (by omega) (by omega), bt_zero] at hi; cases hi
    · have h9 := q.2; have ha := q.1; rw [z2 (16 + a) (by omega) (by omega), bt_zero] at h9; cases h9
    · have h9 := q.2.2; have ha := q.1; rw [z2 (16 + a) (by omega) (by omega), bt_zero] at h9; cases h9
  obtain ⟨J3, e3, f3, b3, c3⟩ := fB_out (u := u) (L := L) hn hw 1025 n 0 J2 (by omega) (by omega) (by omega) f2 hB
  refine ⟨J3, ?_, f3, b3.1, fun p hp => c3 p hp, b3.2⟩
  rw [f_X3_findBeginnings]
  simp only [hi_F, hG_F_0, hg_F_1, hq_F_1, hg_F_2, hq_F_2, hg_F_3, hq_F_3, hg_F_4, hq_F_4, hG_F_5, hG_F_6, hG_F_7, hG_F_8, hG_F_9, hg_F_10, hq_F_10, hG_F_11, hG_F_12, hG_F_13, Option.bind_some, nm_eq, sm_inl, sm_inr, zo_0, zo_1, e1]
  exact e2.trans e3
end FB
