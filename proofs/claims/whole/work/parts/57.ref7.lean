/-! ===== loops; the reference: findsShort, the rounds ===== -/
/-- a counting loop -/
def zLP {σ β : Type} (N : Nat) (l : Nat → Nat → σ → β) (Inv : Nat → σ → Prop) (Q : β → Prop) : Prop := ∀ (m f k : Nat) (s : σ), N = k + m → m < f → Inv k s → Q (l f k s)
theorem zlp {σ β : Type} {N : Nat} {l : Nat → Nat → σ → β} {Inv : Nat → σ → Prop} {Q : β → Prop} (step : ∀ f k s, k < N → Inv k s → Q (l (f + 1) k s) ∨ ∃ s', l (f + 1) k s = l f (k + 1) s' ∧ Inv (k + 1) s') (stop : ∀ f s, Inv N s → Q (l (f + 1) N s)) : zLP N l Inv Q := by
  intro m
  induction m with
  | zero =>
    intro f k s hm hf hI
    obtain ⟨f', rfl⟩ : ∃ f', f = f' + 1 := ⟨f - 1, by omega⟩
    have e : k = N := by omega
    subst e
    exact stop f' s hI
  | succ m ih =>
    intro f k s hm hf hI
    obtain ⟨f', rfl⟩ : ∃ f', f = f' + 1 := ⟨f - 1, by omega⟩
    rcases step f' k s (by omega) hI with q | ⟨s', e, h⟩
    · exact q
    · rw [e]; exact ih f' (k + 1) s' (by omega) (by omega) h
/-- a loop with a measure -/
def zWL {σ β : Type} (l : Nat → σ → β) (mu : σ → Nat) (Inv : σ → Prop) (Q : β → Prop) : Prop := ∀ (m f : Nat) (s : σ), mu s ≤ m → m < f → Inv s → Q (l f s)
theorem zwl {σ β : Type} {l : Nat → σ → β} {mu : σ → Nat} {Inv : σ → Prop} {Q : β → Prop} (step : ∀ f s, Inv s → Q (l (f + 1) s) ∨ ∃ s', l (f + 1) s = l f s' ∧ Inv s' ∧ mu s' < mu s) : zWL l mu Inv Q := by
  intro m
  induction m with
  | zero =>
    intro f s hm hf hI
    obtain ⟨f', rfl⟩ : ∃ f', f = f' + 1 := ⟨f - 1, by omega⟩
    rcases step f' s hI with q | ⟨s', -, -, h⟩
    · exact q
    · omega
  | succ m ih =>
    intro f s hm hf hI
    obtain ⟨f', rfl⟩ : ∃ f', f = f' + 1 := ⟨f - 1, by omega⟩
    rcases step f' s hI with q | ⟨s', e, h, h2⟩
    · exact q
    · rw [e]; exact ih f' s' (by omega) (by omega) h
theorem rLn_wr {I : Nat → Nat → Int} {o S : Nat} (hS : S ≤ 100) : (∀ a, a ≠ o → rLn (gx_u I 178 o (S : Int)) a = rLn I a) ∧ rLn (gx_u I 178 o (S : Int)) o = S := by
  refine ⟨fun a ha => ?_, ?_⟩
  · unfold rLn; rw [gu_at_ne ha]
  · unfold rLn; rw [gu_at_eq rfl, if_neg (by omega)]; omega
theorem eR_wr {I L : Nat → Nat → Int} {o S T : Nat} (hS : S ≤ 100) : (∀ a, a ≠ o → eR (gx_u I 178 o (S : Int)) (gx_u L 179 o (T : Int)) a = eR I L a) ∧ eR (gx_u I 178 o (S : Int)) (gx_u L 179 o (T : Int)) o = if 21 ≤ S then 21 * 1152921504606846976 else S * 1152921504606846976 + T := by
  have h := rLn_wr (I := I) (o := o) hS
  refine ⟨fun a ha => ?_, ?_⟩
  · unfold eR; rw [h.1 a ha, gu_at_ne ha]
  · unfold eR; rw [h.2, if_neg (by omega), gu_at_eq rfl]; rfl
section RH
variable {u : Nat} {n : Nat}
theorem X12_findsShort (hn : 1000000000000000000000000000000 ≤ n) {I L : Nat → Nat → Int} (hw : RW I) (hB : rBL (rG I) I L) {p : Nat} (hp1 : p < Gn (rG I)) :
    ∃ (r : Int) (J K : Nat → Nat → Int), f_X12_findsShort n 161 (p : Int) (hp u I L) = some (r, hp u J K) ∧ Fr [178] I J ∧ Fr [179] L K ∧ rBL (rG I) J K ∧ ((r = 0 ∧ J = I ∧ K = L ∧ rcp (rG I) I L p) ∨ (r = 1 ∧ rMs J K < rMs I L)) := by
  have hg := GR_r hw
  have h5 := hg.2.2.2.1 p
  have ho := hg.2.2.1 p
  have hO := hB.1
  have hO1 := hO _ ho
  have hrl := rLn_of hO ho
  have hdi := sm_di hg (by decide) (rLn_val hO) (p := p) (Gl (rG I) p) 0 (by omega)
  have hcJ := cJ_R hg hO p
  have hlt : (L 179 (Go (rG I) p)).toNat < 1152921504606846976 := by
    by_cases q : I 178 (Go (rG I) p) ≤ 20
    · have h2 := hO1.2.2.1 q
      have h4 := p8_le (l := rLn I (Go (rG I) p)) (by omega)
      omega
    · have := hO1.2.2.2 (by omega); omega
  have heo : eR I L (Go (rG I) p) = if rLn I (Go (rG I) p) = 1000 then 1000 * 1152921504606846976 else if 21 ≤ rLn I (Go (rG I) p) then 21 * 1152921504606846976 else rLn I (Go (rG I) p) * 1152921504606846976 + (L 179 (Go (rG I) p)).toNat := rfl
  have e0 : f_X12_findsShort n 161 (p : Int) (hp u I L) = l_X12_findsShort_7 n n 161 (p : Int) ((0 : Nat) : Int) ((0 : Nat) : Int) ((0 : Nat) : Int) (hp u I L) := rfl
  rw [e0]
  rcases X12_sh_l (n := n) (u := u) hw hO hp1 (Gl (rG I) p) n 0 0 0 (by omega) (by omega) (by omega) (fun _ => by decide) (fun _ => rfl) with ⟨a1, a2⟩ | ⟨a1, S, T, a2, a3, a4, a5⟩
  · refine ⟨0, I, L, a2, Fr.rf, Fr.rf, hB, Or.inl ⟨rfl, rfl, rfl, ?_, ?_⟩⟩
    · unfold tc; rw [if_pos a1]; rcases hrl with q | q <;> omega
    · rw [hcJ, if_pos a1]; exact okc_le (eR_val hO _ ho)
  · rw [Nat.zero_add] at a3 a4
    have hS : S ≤ 100 := by rw [a3]; split <;> omega
    have hsm : sm (rG I) (rLn I) p 0 (Gl (rG I) p) < 1000 := by omega
    have htc : tc 100 (sm (rG I) (rLn I) p 0 (Gl (rG I) p)) = S := by
      unfold tc; rw [if_neg (by omega), a3]
    have hT : T < 1152921504606846976 := by
      by_cases q : S ≤ 20
      · have := a5 q; have := p8_le q; omega
      · rw [a4, if_neg (by intro z; rw [if_pos (by omega)] at a3; omega)]; decide
    have hcc : cJ (rG I) (eR I L) p = if 21 ≤ S then 21 * 1152921504606846976 else S * 1152921504606846976 + T := by
      rw [hcJ, if_neg (by omega)]
      by_cases q : sm (rG I) (rLn I) p 0 (Gl (rG I) p) ≤ 20
      · rw [if_pos (by omega)] at a3
        rw [if_pos q] at a4
        rw [if_neg (by omega), if_neg (by omega), a3, a4]
      · rw [if_pos (by omega), if_pos (by rw [a3]; split <;> omega)]
    rw [a2]
    rcases X12_sh_130 (n := n) (u := u) hw hO hp1 (S := S) (T := T) hS hT with ⟨b1, b2⟩ | ⟨b1, b2⟩
    · rw [b2]
      refine ⟨1, _, _, rfl, Fr.rf.wr (by decide), Fr.rf.wr (by decide), ?_, Or.inr ⟨rfl, ?_⟩⟩
      · have q1 := rLn_wr (I := I) (o := Go (rG I) p) hS
        have q2 := eR_wr (I := I) (L := L) (o := Go (rG I) p) (T := T) hS
        refine ⟨fun a ha => ?_, fun d hd hc a ha => ?_, fun f hf hc a ha => ?_⟩
        · by_cases q : a = Go (rG I) p
          · rw [q, q1.2, gu_at_eq rfl, gu_at_eq rfl]
            refine ⟨by omega, by omega, fun z => ?_, fun z => ?_⟩
            · have := a5 (by omega); omega
            · rw [a4, if_neg (by intro y; rw [if_pos (by omega)] at a3; omega)]; rfl
          · rw [q1.1 a q, gu_at_ne q, gu_at_ne q]; exact hO a ha
        · by_cases q : a = Go (rG I) p
          · rw [q, q1.2, ← htc]
            exact Nat.le_trans (hc p hp1) (tc_mono (by decide) (sm_mono hg (hB.2.1 d hd hc) _ _ (by omega)))
          · rw [q1.1 a q]; exact hB.2.1 d hd hc a ha
        · by_cases q : a = Go (rG I) p
          · rw [q, q2.2, ← hcc]
            exact Nat.le_trans (hc p hp1) (cJ_mono hg hf (eR_val hO) (hB.2.2 f hf hc) p)
          · rw [q2.1 a q]; exact hB.2.2 f hf hc a ha
      · have hstr : S * 1152921504606846976 + T < (I 178 (Go (rG I) p)).toNat * 1152921504606846976 + (L 179 (Go (rG I) p)).toNat := by
          rcases b1 with b1 | b1
          · have h1 : S + 1 ≤ (I 178 (Go (rG I) p)).toNat := by omega
            have h2 := Nat.mul_le_mul_right 1152921504606846976 h1
            omega
          · have h1 : S = (I 178 (Go (rG I) p)).toNat := by omega
            rw [← h1]; omega
        refine sD_lt 16 (fun a ha => ?_) ⟨Go (rG I) p, ho, ?_⟩
        · by_cases q : a = Go (rG I) p
          · rw [q, gu_at_eq rfl, gu_at_eq rfl, Int.toNat_natCast, Int.toNat_natCast]; exact Nat.le_of_lt hstr
          · rw [gu_at_ne q, gu_at_ne q]; exact Nat.le_refl _
        · rw [gu_at_eq rfl, gu_at_eq rfl, Int.toNat_natCast, Int.toNat_natCast]; exact hstr
    · rw [b2]
      refine ⟨0, I, L, rfl, Fr.rf, Fr.rf, hB, Or.inl ⟨rfl, rfl, rfl, ?_, ?_⟩⟩
      · rw [htc]; rcases hrl with q | q <;> omega
      · rw [hcc, heo]
        rcases hrl with q | q
        · exact absurd (Or.inl (by omega)) b1
        · rw [if_neg (by omega)]
          by_cases q2 : 21 ≤ rLn I (Go (rG I) p)
          · rw [if_pos q2, if_pos (by omega)]; exact Nat.le_refl _
          · rw [if_neg q2]
            by_cases q3 : 21 ≤ S
            · rw [if_pos q3]; omega
            · rw [if_neg q3]
              by_cases q4 : rLn I (Go (rG I) p) = S
              · rw [q4]; omega
              · have h1 : rLn I (Go (rG I) p) + 1 ≤ S := by omega
                have h2 := Nat.mul_le_mul_right 1152921504606846976 h1
                omega
theorem nR8 : 162 ∉ [178] ∧ 163 ∉ [178] ∧ 164 ∉ [178] ∧ 165 ∉ [178] ∧ 170 ∉ [178] := by decide
theorem X12_finds125 (hn : 1000000000000000000000000000000 ≤ n) {I J0 K0 : Nat → Nat → Int} (hw : RW I) (hJ0 : Fr [178] I J0) (r117 : Nat → Int → gi_H → Option gi_H) : zLP (Gn (rG I)) (fun f p (s : Int × (Nat → Nat → Int) × (Nat → Nat → Int)) => l_X12_finds_125 n r117 f 161 s.1 (p : Int) (hp u s.2.1 s.2.2))
    (fun p s => Fr [178] I s.2.1 ∧ Fr [179] K0 s.2.2 ∧ rBL (rG I) s.2.1 s.2.2 ∧ ((s.1 = 0 ∧ s.2.1 = J0 ∧ s.2.2 = K0 ∧ ∀ q, q < p → rcp (rG I) J0 K0 q) ∨ (s.1 = 1 ∧ rMs s.2.1 s.2.2 < rMs J0 K0)))
    (fun r => ∃ (v1 : Int) (J K : Nat → Nat → Int), r = r117 161 v1 (hp u J K) ∧ Fr [178] I J ∧ Fr [179] K0 K ∧ rBL (rG I) J K ∧ ((v1 = 0 ∧ J = J0 ∧ K = K0 ∧ ∀ q, q < Gn (rG I) → rcp (rG I) J0 K0 q) ∨ (v1 = 1 ∧ rMs J K < rMs J0 K0))) := by
  have h24 := (GR_r hw).1
  refine zlp ?_ ?_
  · rintro f p ⟨v1, J, K⟩ hp1 ⟨h1, h2, h3, h4⟩
    dsimp only at h1 h2 h3 h4 ⊢
    have h9 : J 161 9 = I 161 9 := by rw [h1 161 (by decide)]
    have hwJ := RW_fr h1 h9 nR8 hw
    have hgJ := rG_fr h1 h9 nR8
    have hn1 := rG_n hwJ
    have hw9 := rw9_of hwJ
    rw [hgJ] at hn1
    obtain ⟨r, J1, K1, e, f1, f2, b1, c1⟩ := X12_findsShort (u := u) (I := J) (L := K) hn hwJ (by rw [hgJ]; exact h3) (p := p) (by rw [hgJ]; exact hp1)
    rw [hgJ] at b1 c1
    refine Or.inr ⟨(if r = 0 then v1 else 1, J1, K1), ?_, h1.tr f1, h2.tr f2, b1, ?_⟩
    · have hr : r = 0 ∨ r = 1 := by rcases c1 with q | q <;> omega
      have hv : v1 = 0 ∨ v1 = 1 := by rcases h4 with q | q <;> omega
      simp (disch := omega) only [l_X12_finds_125, b_X12_finds_125, b_X12_finds_150, b_X12_finds_155, hi_M, hG_M_0, hG_M_1, hG_M_2, hG_M_3, hG_M_4, hG_M_5, hG_M_6, hG_M_7, hG_M_8, hg_M_9, hq_M_9, hG_M_10, hG_M_11, hG_M_12, hg_M_13, hq_M_13, hG_M_14, hg_M_15, hq_M_15, hG_M_16, hg_M_17, hq_M_17, hg_M_18, hq_M_18, hG_M_19, hG_M_20, hG_M_21, hG_M_22, hG_M_23, hG_M_24, hg_M_25, hq_M_25, hG_M_26, hG_M_27, hG_M_28, hg_M_29, hq_M_29, hG_M_30, hG_M_31, hg_M_32, hq_M_32, hg_M_33, hq_M_33, hg_M_34, hq_M_34, hg_M_35, hq_M_35, hG_M_36, hG_M_37, hg_M_38, hq_M_38, hg_M_39, hq_M_39, hG_M_40, hG_M_41, hG_M_42, hG_M_43, hg_M_44, hq_M_44, ha_165, hs_165, hl_165, Option.bind_some, nm_eq, sm_inl, sm_inr, zo_0, zo_1, rg_ok, hw9.1, Int.toNat_natCast, ← hn1, e]
      rw [if_neg (by omega)]
      rw [show (p : Int) + 1 = ((p + 1 : Nat) : Int) by omega]
      rcases hr with hr | hr
      · rw [if_pos hr, if_pos hr]
        rcases hv with hv | hv
        · rw [if_pos hv, hv]
        · rw [if_neg (by omega), hv]
      · rw [if_neg (by omega), if_neg (by omega)]
    · dsimp only
      rcases c1 with ⟨a1, a2, a3, a4⟩ | ⟨a1, a2⟩
      · rw [if_pos a1, a2, a3]
        rcases h4 with ⟨c1, c2, c3, c4⟩ | h4
        · refine Or.inl ⟨c1, c2, c3, fun q hq => ?_⟩
          by_cases z : q = p
          · rw [z, ← c2, ← c3]; exact a4
          · exact c4 q (by omega)
        · exact Or.inr h4
      · rw [if_neg (by omega)]
        refine Or.inr ⟨rfl, ?_⟩
        rcases h4 with ⟨c1, c2, c3, c4⟩ | ⟨-, h4⟩
        · rw [← c2, ← c3]; exact a2
        · exact Nat.lt_trans a2 h4
  · rintro f ⟨v1, J, K⟩ ⟨h1, h2, h3, h4⟩
    dsimp only at h1 h2 h3 h4 ⊢
    have h9 : J 161 9 = I 161 9 := by rw [h1 161 (by decide)]
    have hwJ := RW_fr h1 h9 nR8 hw
    have hgJ := rG_fr h1 h9 nR8
    have hn1 := rG_n hwJ
    have hw9 := rw9_of hwJ
    rw [hgJ] at hn1
    refine ⟨v1, J, K, ?_, h1, h2, h3, h4⟩
    simp (disch := omega) only [l_X12_finds_125, b_X12_finds_125, b_X12_finds_162, hi_M, hG_M_0, hG_M_1, hG_M_2, hG_M_3, hG_M_4, hG_M_5, hG_M_6, hG_M_7, hG_M_8, hg_M_9, hq_M_9, hG_M_10, hG_M_11, hG_M_12, hg_M_13, hq_M_13, hG_M_14, hg_M_15, hq_M_15, hG_M_16, hg_M_17, hq_M_17, hg_M_18, hq_M_18, hG_M_19, hG_M_20, hG_M_21, hG_M_22, hG_M_23, hG_M_24, hg_M_25, hq_M_25, hG_M_26, hG_M_27, hG_M_28, hg_M_29, hq_M_29, hG_M_30, hG_M_31, hg_M_32, hq_M_32, hg_M_33, hq_M_33, hg_M_34, hq_M_34, hg_M_35, hq_M_35, hG_M_36, hG_M_37, hg_M_38, hq_M_38, hg_M_39, hq_M_39, hG_M_40, hG_M_41, hG_M_42, hG_M_43, hg_M_44, hq_M_44, ha_165, hs_165, hl_165, Option.bind_some, nm_eq, sm_inl, sm_inr, zo_0, zo_1, rg_ok, hw9.1, Int.toNat_natCast, ← hn1]
    rw [if_pos (by omega)]
theorem rMs_le {g : GT} {J K : Nat → Nat → Int} (h : rBL g J K) : rMs J K ≤ 102 * 1152921504606846976 * 16 := by
  refine sD_le 16 (fun a ha => ?_)
  have h1 := h.1 a ha
  have h2 : (K 179 a).toNat < 1152921504606846976 := by
    by_cases q : J 178 a ≤ 20
    · have h2 := h1.2.2.1 q
      have h3 := rLn_of h.1 ha
      have h4 := p8_le (l := rLn J a) (by omega)
      omega
    · have := h1.2.2.2 (by omega); omega
  have h3 : (J 178 a).toNat ≤ 101 := by omega
  have h4 := Nat.mul_le_mul_right 1152921504606846976 h3
  exact Nat.le_trans (Nat.add_le_add h4 (Nat.le_of_lt h2)) (by decide)
theorem X12_finds117 (hn : 1000000000000000000000000000000 ≤ n) {I L : Nat → Nat → Int} (hw : RW I) (hB : rBL (rG I) I L) :
    ∃ J K : Nat → Nat → Int, b_X12_finds_115 n 161 (hp u I L) = b_X12_finds_165 n 161 (hp u J K) ∧ Fr [178] I J ∧ Fr [179] L K ∧ rOk J K ∧ grD 100 (rG I) (rLn J) ∧ grJ (rG I) (eR J K) := by
  have hg := GR_r hw
  suffices key : zWL (fun f (s : Int × (Nat → Nat → Int) × (Nat → Nat → Int)) => l_X12_finds_117 n f 161 s.1 (hp u s.2.1 s.2.2)) (fun s => rMs s.2.1 s.2.2 + s.1.toNat) (fun s => Fr [178] I s.2.1 ∧ Fr [179] L s.2.2 ∧ rBL (rG I) s.2.1 s.2.2 ∧ (s.1 = 1 ∨ (s.1 = 0 ∧ ∀ q, q < Gn (rG I) → rcp (rG I) s.2.1 s.2.2 q))) (fun r => ∃ J K : Nat → Nat → Int, r = b_X12_finds_165 n 161 (hp u J K) ∧ Fr [178] I J ∧ Fr [179] L K ∧ rOk J K ∧ grD 100 (rG I) (rLn J) ∧ grJ (rG I) (eR J K)) by
    exact key (102 * 1152921504606846976 * 16 + 1) n (1, I, L) (Nat.add_le_add_right (rMs_le hB) 1) (by omega) ⟨Fr.rf, Fr.rf, hB, Or.inl rfl⟩
  refine zwl ?_
  · rintro f ⟨v1, J, K⟩ ⟨h1, h2, h3, h4⟩
    dsimp only at h1 h2 h3 h4 ⊢
    rcases h4 with h4 | ⟨h4, h5⟩
    · obtain ⟨v, J1, K1, e, f1, f2, b1, c1⟩ := X12_finds125 (u := u) (J0 := J) (K0 := K) hn hw h1 (l_X12_finds_117 n f) (Gn (rG I)) n 0 (0, J, K) (by omega) (by have := hg.1; omega) ⟨h1, Fr.rf, h3, Or.inl ⟨rfl, rfl, rfl, fun q hq => absurd hq (by omega)⟩⟩
      have e' : l_X12_finds_125 n (l_X12_finds_117 n f) n 161 0 0 (hp u J K) = l_X12_finds_117 n f 161 v (hp u J1 K1) := e
      refine Or.inr ⟨(v, J1, K1), ?_, ⟨f1, h2.tr f2, b1, ?_⟩, ?_⟩
      · simp (disch := omega) only [l_X12_finds_117, b_X12_finds_117, Option.bind_some, nm_eq, sm_inl, sm_inr, zo_0, zo_1, rg_ok, h4]
        rw [if_neg (by decide)]
        exact e'
      · dsimp only
        rcases c1 with ⟨a1, a2, a3, a4⟩ | ⟨a1, a2⟩
        · rw [a2, a3]; exact Or.inr ⟨a1, a4⟩
        · exact Or.inl a1
      · dsimp only
        rcases c1 with ⟨a1, a2, a3, a4⟩ | ⟨a1, a2⟩
        · rw [a1, a2, a3, h4]; omega
        · rw [a1, h4]; omega
    · refine Or.inl ⟨J, K, ?_, h1, h2, h3.1, ⟨rLn_val h3.1, fun p hp1 => (h5 p hp1).1, h3.2.1⟩, ⟨eR_val h3.1, fun p hp1 => (h5 p hp1).2, h3.2.2⟩⟩
      simp (disch := omega) only [l_X12_finds_117, b_X12_finds_117, Option.bind_some, nm_eq, sm_inl, sm_inr, zo_0, zo_1, rg_ok, h4]
      rw [if_pos trivial]
end RH
