section FH
variable {u : Nat} {n : Nat}
theorem fG_in (hn : 1000000000000000000000000000000 ≤ n) {I L J0 K0 : Nat → Nat → Int} (hw : GW (gU u) I) {v : Nat → Nat} (hv : grJ (cG I (gU u)) v) (v2 : Int) (r33 : Nat → Int → Int → gi_H → Option gi_H) : ∀ (m f p : Nat) (J K : Nat → Nat → Int) (v1 : Int), Gn (cG I (gU u)) = p + m → m < f → F69 I L J K → iSp v J K → (∀ a, a < 16 → dn v J0 K0 a = true → dn v J K a = true) → (∀ q, q < p → rdy (cG I (gU u)) v J0 K0 q → dn v J K (Go (cG I (gU u)) q) = true) → ((v1 = 0 ∧ J = J0 ∧ K = K0) ∨ (v1 = 1 ∧ ∃ a, a < 16 ∧ dn v J0 K0 a = false)) →
    ∃ (J' K' : Nat → Nat → Int) (v1' : Int), l_X3_findSpellings_47 n r33 f 64 v1 v2 (p : Int) (hp u J K) = r33 64 v1' (v2 + 1) (hp u J' K') ∧ F69 I L J' K' ∧ iSp v J' K' ∧ (∀ a, a < 16 → dn v J0 K0 a = true → dn v J' K' a = true) ∧ (∀ q, q < Gn (cG I (gU u)) → rdy (cG I (gU u)) v J0 K0 q → dn v J' K' (Go (cG I (gU u)) q) = true) ∧ ((v1' = 0 ∧ J' = J0 ∧ K' = K0) ∨ (v1' = 1 ∧ ∃ a, a < 16 ∧ dn v J0 K0 a = false)) := by
  have hg := GR_of hw
  have h24 := hg.1
  intro m
  induction m with
  | zero =>
    intro f p J K v1 hm hf hfr hi hD hR hv1
    obtain ⟨f', rfl⟩ : ∃ f', f = f' + 1 := ⟨f - 1, by omega⟩
    have hwJ := GWu_fr hfr.1 nF64 hw
    have hgJ := cGu_fr (u := u) hfr.1 nF64
    simp (disch := omega) only [l_X3_findSpellings_47, b_X3_findSpellings_47, b_X3_findSpellings_72, hi_F, hG_F_0, hg_F_1, hq_F_1, hg_F_2, hq_F_2, hg_F_3, hq_F_3, hg_F_4, hq_F_4, hG_F_5, hG_F_6, hG_F_7, hG_F_8, hG_F_9, hg_F_10, hq_F_10, hG_F_11, hG_F_12, hG_F_13, Option.bind_some, nm_eq, sm_inl, sm_inr, zo_0, zo_1, hi_G (gU_mem u), X4_count (gU_mem u) hwJ, hgJ, rg_ok]
    rw [if_pos (by omega)]
    exact ⟨J, K, v1, rfl, hfr, hi, hD, fun q hq => hR q (by omega), hv1⟩
  | succ m ih =>
    intro f p J K v1 hm hf hfr hi hD hR hv1
    obtain ⟨f', rfl⟩ : ∃ f', f = f' + 1 := ⟨f - 1, by omega⟩
    have hwJ := GWu_fr hfr.1 nF64 hw
    have hgJ := cGu_fr (u := u) hfr.1 nF64
    obtain ⟨r, J1, K1, e1, f1, i1, d1, y1, z1⟩ := X3_improve (u := u) hn hwJ (v := v) (by rw [hgJ]; exact hv) hi (p := p) (by rw [hgJ]; omega)
    rw [hgJ] at y1 z1
    simp (disch := omega) only [l_X3_findSpellings_47, b_X3_findSpellings_47, hi_F, hG_F_0, hg_F_1, hq_F_1, hg_F_2, hq_F_2, hg_F_3, hq_F_3, hg_F_4, hq_F_4, hG_F_5, hG_F_6, hG_F_7, hG_F_8, hG_F_9, hg_F_10, hq_F_10, hG_F_11, hG_F_12, hG_F_13, Option.bind_some, nm_eq, sm_inl, sm_inr, zo_0, zo_1, hi_G (gU_mem u), X4_count (gU_mem u) hwJ, hgJ, rg_ok, e1]
    rw [if_neg (by omega), show (p : Int) + 1 = ((p + 1 : Nat) : Int) by omega]
    have hDn : ∀ a, a < 16 → dn v J0 K0 a = true → dn v J1 K1 a = true := fun a ha h => d1 a ha (hD a ha h)
    refine ih f' (p + 1) J1 K1 (gi_or v1 r) (by omega) (by omega) (hfr.tr f1) i1 hDn (fun q hq hr => ?_) ?_
    · by_cases e : q = p
      · subst e
        exact y1 ⟨hr.1, hr.2.1, fun k hk hs => hD _ (by have := hg.2.2.2.2.2 q k hk; omega) (hr.2.2 k hk hs)⟩
      · exact d1 _ (hg.2.2.1 q) (hR q (by omega) hr)
    · rcases z1 with ⟨r0, j0, k0⟩ | ⟨r1, hz⟩
      · rw [r0, j0, k0]
        rcases hv1 with ⟨a1, a2, a3⟩ | ⟨a1, a2⟩
        · rw [a1]; exact Or.inl ⟨rfl, a2, a3⟩
        · rw [a1]; exact Or.inr ⟨rfl, a2⟩
      · rw [r1]
        have hnd : dn v J0 K0 (Go (cG I (gU u)) p) = false := by
          rw [← Bool.not_eq_true]
          intro q
          rw [hD _ (hg.2.2.1 p) q] at hz; cases hz
        rcases hv1 with ⟨a1, -⟩ | ⟨a1, -⟩
        · rw [a1]; exact Or.inr ⟨rfl, _, hg.2.2.1 p, hnd⟩
        · rw [a1]; exact Or.inr ⟨rfl, _, hg.2.2.1 p, hnd⟩
theorem dn_turn {g : GT} (hg : GR g) {v : Nat → Nat} (hv : grJ g v) {J K : Nat → Nat → Int} (hi : iSp v J K) (hex : ∃ a, a < 16 ∧ dn v J K a = false) : ∃ p, p < Gn g ∧ dn v J K (Go g p) = false ∧ rdy g v J K p := by
  have hne : ∀ a, (if dn v J K a = true then v a else v a + 1) ≠ v a ↔ dn v J K a = false := fun a => by
    cases h : dn v J K a <;> simp
  obtain ⟨p, p1, p2, p3, p4, p5⟩ := turn hg hv (e := fun a => if dn v J K a = true then v a else v a + 1) (fun a ha h => by
    have h1 := (hne a).mp h
    have h2 : ¬ 21 ≤ cLe J a := fun q => by
      rw [dn_iff.mpr (Or.inl q)] at h1; cases h1
    rw [(hi.2.2.1 a ha).1 (by omega)]; omega) (by
    obtain ⟨a, ha, h⟩ := hex
    exact ⟨a, ha, (hne a).mpr h⟩)
  refine ⟨p, p1, (hne _).mp p2, p3, p4, fun k hk hs => ?_⟩
  have h1 := p5 k hk hs
  cases h : dn v J K (Gs g p k - 16)
  · exact absurd h1 ((hne _).mpr h)
  · rfl
def dc (v : Nat → Nat) (J K : Nat → Nat → Int) : Nat := sD (fun a => if dn v J K a = true then 0 else 1) 16
theorem fG_out (hn : 1000000000000000000000000000000 ≤ n) {I L : Nat → Nat → Int} (hw : GW (gU u) I) {v : Nat → Nat} (hv : grJ (cG I (gU u)) v) : ∀ (m f rd : Nat) (J K : Nat → Nat → Int), dc v J K < m → m < f → rd + dc v J K ≤ 16 → F69 I L J K → iSp v J K →
    ∃ J' K' : Nat → Nat → Int, l_X3_findSpellings_33 n f 64 1 (rd : Int) (hp u J K) = some (hp u J' K') ∧ F69 I L J' K' ∧ iSp v J' K' ∧ ∀ a, a < 16 → dn v J' K' a = true := by
  have hg := GR_of hw
  intro m
  induction m with
  | zero => intro f rd J K hm; omega
  | succ m ih =>
    intro f rd J K hm hf hrd hfr hi
    obtain ⟨f', rfl⟩ : ∃ f', f = f' + 1 := ⟨f - 1, by omega⟩
    simp (disch := omega) only [l_X3_findSpellings_33, b_X3_findSpellings_33, Option.bind_some, nm_eq, sm_inl, sm_inr, zo_0, zo_1, rg_ok]
    rw [if_neg (by omega), if_neg (by decide)]
    obtain ⟨J1, K1, v1, e, h1, h2, h3, h4, h5⟩ := fG_in (L := L) (J0 := J) (K0 := K) hn hw hv (rd : Int) (l_X3_findSpellings_33 n f') (Gn (cG I (gU u))) n 0 J K 0 (by omega) (by have := hg.1; omega) hfr hi (fun _ _ h => h) (fun q hq => absurd hq (by omega)) (Or.inl ⟨rfl, rfl, rfl⟩)
    have e' : l_X3_findSpellings_47 n (l_X3_findSpellings_33 n f') n 64 0 (rd : Int) 0 (hp u J K) = l_X3_findSpellings_33 n f' 64 v1 ((rd : Int) + 1) (hp u J1 K1) := e
    rw [e']
    rcases h5 with ⟨a1, a2, a3⟩ | ⟨a1, a2⟩
    · rw [a1]
      obtain ⟨f2, rfl⟩ : ∃ f2, f' = f2 + 1 := ⟨f' - 1, by omega⟩
      simp (disch := omega) only [l_X3_findSpellings_33, b_X3_findSpellings_33, Option.bind_some, nm_eq, sm_inl, sm_inr, zo_0, zo_1, rg_ok]
      rw [if_neg (by omega), if_pos trivial]
      refine ⟨J1, K1, rfl, h1, h2, fun a ha => ?_⟩
      cases hd : dn v J1 K1 a
      · obtain ⟨p, p1, p2, p3⟩ := dn_turn hg hv h2 ⟨a, ha, hd⟩
        have := h4 p p1 (by rw [← a2, ← a3]; exact p3)
        rw [p2] at this; cases this
      · rfl
    · obtain ⟨p, p1, p2, p3⟩ := dn_turn hg hv hi a2
      have h6 := h4 p p1 p3
      have hlt : dc v J1 K1 < dc v J K := sD_lt 16 (fun a ha => by
        by_cases q : dn v J K a = true
        · rw [if_pos q, if_pos (h3 a ha q)]; exact Nat.le_refl _
        · rw [if_neg q]; split <;> omega) ⟨_, hg.2.2.1 p, by
          show (if dn v J1 K1 (Go (cG I (gU u)) p) = true then 0 else 1) < (if dn v J K (Go (cG I (gU u)) p) = true then 0 else 1)
          rw [if_pos h6, p2]; decide⟩
      rw [a1, show (rd : Int) + 1 = ((rd + 1 : Nat) : Int) by omega]
      exact ih f' (rd + 1) J1 K1 (by omega) (by omega) (by omega) h1 h2
theorem fG_ter {I L : Nat → Nat → Int} : ∀ (m f t : Nat) (K : Nat → Nat → Int), 8 = t + m → m < f → Fr [69] L K → (∀ s, s < t → K 69 s = (s : Int)) →
    ∃ K' : Nat → Nat → Int, l_X3_findSpellings_9 n f 64 (t : Int) (hp u I K) = b_X3_findSpellings_29 n 64 (hp u I K') ∧ Fr [69] L K' ∧ ∀ s, s < 8 → K' 69 s = (s : Int) := by
  intro m
  induction m with
  | zero =>
    intro f t K hm hf hfr h1
    obtain ⟨f', rfl⟩ : ∃ f', f = f' + 1 := ⟨f - 1, by omega⟩
    simp (disch := omega) only [l_X3_findSpellings_9, b_X3_findSpellings_9, Option.bind_some, nm_eq, sm_inl, sm_inr, zo_0, zo_1, rg_ok]
    rw [if_pos (by omega)]
    exact ⟨K, rfl, hfr, fun s hs => h1 s (by omega)⟩
  | succ m ih =>
    intro f t K hm hf hfr h1
    obtain ⟨f', rfl⟩ : ∃ f', f = f' + 1 := ⟨f - 1, by omega⟩
    simp (disch := omega) only [l_X3_findSpellings_9, b_X3_findSpellings_9, hi_F, hG_F_0, hg_F_1, hq_F_1, hg_F_2, hq_F_2, hg_F_3, hq_F_3, hg_F_4, hq_F_4, hG_F_5, hG_F_6, hG_F_7, hG_F_8, hG_F_9, hg_F_10, hq_F_10, hG_F_11, hG_F_12, hG_F_13, ha_69, hs_69, hl_69, Option.bind_some, nm_eq, sm_inl, sm_inr, zo_0, zo_1, rg_ok]
    rw [if_neg (by omega), show (t : Int) + 1 = ((t + 1 : Nat) : Int) by omega]
    simp only [Int.toNat_natCast]
    refine ih f' (t + 1) _ (by omega) (by omega) (hfr.wr (List.mem_singleton.mpr rfl)) (fun s hs => ?_)
    by_cases e : s = t
    · subst e; rw [gu_at_eq rfl]
    · rw [gu_at_ne e]; exact h1 s (by omega)
theorem X3_findSpellings (hn : 1000000000000000000000000000000 ≤ n) {I L : Nat → Nat → Int} (hw : GW (gU u) I) (hL : cLo I) (hd : grD 99 (cG I (gU u)) (cLe I)) :
    ∃ (J K : Nat → Nat → Int) (v : Nat → Nat), f_X3_findSpellings n 64 (hp u I L) = some (hp u J K) ∧ F69 I L J K ∧ grJ (cG I (gU u)) v ∧ (∀ a, a < 16 → ln v a = if cLe I a = 1000 then 1000 else if cLe I a ≤ 21 then cLe I a else 21) ∧ ∀ a, a < 16 → cLe I a ≤ 20 → K 69 (16 + a) = (tx v a : Int) := by
  have hg := GR_of hw
  obtain ⟨v, hv⟩ := grJ_ex hg
  have hlv := fun a ha => grD_cutK hg (by decide) (by decide) (by decide) (grJ_ln hg hv) hd a ha
  obtain ⟨K1, e1, f1, v1⟩ := fG_ter (u := u) (n := n) (I := gx_u I 64 10 255) (L := L) 8 n 0 L (by omega) (by omega) Fr.rf (fun s hs => absurd hs (by omega))
  have hle : cLe (gx_u I 64 10 255) = cLe I := cLe_fr (gu_ne (by decide))
  have hnb : ∀ a, a < 16 → bt (gx_u I 64 10 255 64 10) (16 + a) = true → False := fun a ha h => by
    rw [gu_at_eq rfl, bt_255] at h; simp at h; omega
  have hi : iSp v (gx_u I 64 10 255) K1 := ⟨cLo_fr (gu_ne (by decide)) hL, ⟨fun t ht => by rw [gu_at_eq rfl, bt_255]; simp; exact ht, v1, fun a ha h => (hnb a ha h).elim⟩, fun a ha => by
    have h1 := hlv a ha
    rw [hle]
    refine ⟨fun q => ?_, fun q => ?_⟩
    · rw [if_neg (by omega), if_pos (by omega)] at h1; exact h1
    · by_cases q1 : cLe I a = 1000
      · rw [if_pos q1] at h1; omega
      · rw [if_neg q1] at h1
        by_cases q2 : cLe I a ≤ 21
        · rw [if_pos q2] at h1; exact h1.symm
        · rw [if_neg q2] at h1; omega, fun a ha h => (hnb a ha h).elim⟩
  have hdc : dc v (gx_u I 64 10 255) K1 ≤ 1 * 16 := sD_le 16 (fun a ha => by split <;> omega)
  obtain ⟨J2, K2, e2, f2, i2, d2⟩ := fG_out hn hw hv 17 n 0 (gx_u I 64 10 255) K1 (by omega) (by omega) (by omega) ⟨Fr.rf.wr (List.mem_singleton.mpr rfl), f1, fun k hk => gu_at_ne hk⟩ hi
  refine ⟨J2, K2, v, ?_, f2, hv, hlv, fun a ha q => ?_⟩
  · rw [f_X3_findSpellings]
    simp only [hi_F, hG_F_0, hg_F_1, hq_F_1, hg_F_2, hq_F_2, hg_F_3, hq_F_3, hg_F_4, hq_F_4, hG_F_5, hG_F_6, hG_F_7, hG_F_8, hG_F_9, hg_F_10, hq_F_10, hG_F_11, hG_F_12, hG_F_13, Option.bind_some, nm_eq, sm_inl, sm_inr, zo_0, zo_1]
    exact e1.trans e2
  · have h1 := dn_iff.mp (d2 a ha)
    have h2 : cLe J2 a = cLe I a := by rw [cLe_fr (f2.1 68 (by decide))]
    rcases h1 with h1 | ⟨h3, h4⟩
    · omega
    · have h5 := (i2.2.1.2.2 a ha h3).2.1
      omega
end FH
