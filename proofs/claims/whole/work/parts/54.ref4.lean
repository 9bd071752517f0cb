/-! ===== the reference: what is behind ===== -/
def rBe (I : Nat → Nat → Int) (a t : Nat) : Prop := a < 16 ∧ t < 9 ∧ bt (I 177 a) t = true
def rI2 (g : GT) (N : Nat → Prop) (F : Nat → Nat → Prop) (J : Nat → Nat → Int) : Prop := cOk 177 16 J ∧ (∀ a, a < 16 → ∀ i, bt (J 177 a) i = true → i < 9) ∧ (∀ B', cl2 g N F B' → ∀ a t, rBe J a t → B' a t) ∧ bt (J 177 (Gt g)) 8 = true
def rlq (g : GT) (N : Nat → Prop) (F : Nat → Nat → Prop) (J : Nat → Nat → Int) (p k : Nat) : Prop := 16 ≤ Gs g p k → ∀ t, (fsF g N F p (k + 1) t ∨ (emF g N p (k + 1) ∧ rBe J (Go g p) t)) → rBe J (Gs g p k - 16) t
/-- the bits that come to what is behind the symbol -/
def rhb (g : GT) (N : Nat → Prop) (F : Nat → Nat → Prop) (J : Nat → Nat → Int) (p k i : Nat) : Prop := (i < 8 ∧ fsF g N F p (k + 1) i) ∨ (emF g N p (k + 1) ∧ bt (J 177 (Go g p)) i = true)
theorem rI2_no {g : GT} (hg : GR g) {N : Nat → Prop} {F : Nat → Nat → Prop} {J : Nat → Nat → Int} (h8 : ∀ p k t, fsF g N F p k t → t < 8) (h : rI2 g N F J) {p k : Nat} (hk : k < Gl g p) {r : Int} (hr : ∀ i, bt r i = true ↔ rhb g N F J p k i) (e : gi_or (J 177 (Gs g p k - 16)) r = J 177 (Gs g p k - 16)) : rlq g N F J p k := by
  intro hs t q
  have h0 := hg.2.2.2.2.2 p k hk
  have h1 := (bt_or_left (h.1 _ (by omega))).mp e
  have ht : t < 9 := by
    rcases q with q | q
    · have := h8 _ _ _ q; omega
    · exact q.2.2.1
  refine ⟨by omega, ht, h1 t (by omega) ((hr t).mpr ?_)⟩
  rcases q with q | q
  · exact Or.inl ⟨h8 _ _ _ q, q⟩
  · exact Or.inr ⟨q.1, q.2.2.2⟩
theorem rI2_wr {g : GT} (hg : GR g) {N : Nat → Prop} {F : Nat → Nat → Prop} {J : Nat → Nat → Int} (h8 : ∀ p k t, fsF g N F p k t → t < 8) (h : rI2 g N F J) {p k : Nat} (hk : k < Gl g p) (hs : 16 ≤ Gs g p k) {r : Int} (hr : ∀ i, bt r i = true ↔ rhb g N F J p k i) : rI2 g N F (gx_u J 177 (Gs g p k - 16) (gi_or (J 177 (Gs g p k - 16)) r)) := by
  have ho := hg.2.2.1 p
  refine ⟨h.1.wr (bt_ok_or _ _), fun a ha i hi => ?_, fun B' hB a t q => ?_, ?_⟩
  · by_cases e : a = Gs g p k - 16
    · subst e
      rw [gu_at_eq rfl, bt_or, Bool.or_eq_true] at hi
      rcases hi with hi | hi
      · exact h.2.1 _ ha i hi
      · rcases (hr i).mp hi with z | z
        · omega
        · exact h.2.1 _ ho i z.2
    · rw [gu_at_ne (by omega)] at hi; exact h.2.1 a ha i hi
  · obtain ⟨ha, ht, q⟩ := q
    by_cases e : a = Gs g p k - 16
    · subst e
      rw [gu_at_eq rfl, bt_or, Bool.or_eq_true] at q
      rcases q with q | q
      · exact h.2.2.1 B' hB _ _ ⟨ha, ht, q⟩
      · refine hB.2 p (hg.2.2.2.2.1 p k hk) k hk hs t ?_
        rcases (hr t).mp q with z | z
        · exact Or.inl z.2
        · exact Or.inr ⟨z.1, h.2.2.1 B' hB _ _ ⟨ho, ht, z.2⟩⟩
    · rw [gu_at_ne (by omega)] at q; exact h.2.2.1 B' hB _ _ ⟨ha, ht, q⟩
  · rw [gu_at]
    split
    · next e => rw [bt_or, ← e, h.2.2.2, Bool.true_or]
    · exact h.2.2.2
theorem nR7 : 162 ∉ [177] ∧ 163 ∉ [177] ∧ 164 ∉ [177] ∧ 165 ∉ [177] ∧ 170 ∉ [177] := by decide
theorem rTb_fr {I J : Nat → Nat → Int} (h : J 176 = I 176) (h8 : J 161 18 = I 161 18) (q : rTb I) : rTb J := by unfold rTb; rw [h, h8]; exact q
theorem rNi_fr {I J : Nat → Nat → Int} (h8 : J 161 18 = I 161 18) : rNi J = rNi I := by funext a; unfold rNi; rw [h8]
theorem rFi_fr {I J : Nat → Nat → Int} (h : J 176 = I 176) : rFi J = rFi I := by funext a t; unfold rFi; rw [h]
section RE
variable {u : Nat} {L : Nat → Nat → Int} {n : Nat}
theorem rB_in (hn : 1000000000000000000000000000000 ≤ n) {I J0 : Nat → Nat → Int} (hw : RW I) (hT : rTb I) (r4 : Nat → Int → Int → gi_H → Option (Int × gi_H)) {p : Nat} (hp1 : p < Gn (rG I)) : ∀ (m f k : Nat) (J : Nat → Nat → Int) (v1 : Int), Gl (rG I) p = k + m → m < f → Fr [177] I J → rI2 (rG I) (rNi I) (rFi I) J → ((v1 = 0 ∧ J = J0 ∧ (∀ q, q < p → ∀ j, j < Gl (rG I) q → rlq (rG I) (rNi I) (rFi I) J q j) ∧ ∀ j, j < k → rlq (rG I) (rNi I) (rFi I) J p j) ∨ (v1 = 1 ∧ cM (J0 177) 16 < cM (J 177) 16)) →
    ∃ (J' : Nat → Nat → Int) (v1' : Int), l_X12_findsBehind_19 n r4 f 161 v1 (p : Int) (k : Int) (hp u J L) = r4 161 v1' ((p + 1 : Nat) : Int) (hp u J' L) ∧ Fr [177] I J' ∧ rI2 (rG I) (rNi I) (rFi I) J' ∧ ((v1' = 0 ∧ J' = J0 ∧ ∀ q, q < p + 1 → ∀ j, j < Gl (rG I) q → rlq (rG I) (rNi I) (rFi I) J' q j) ∨ (v1' = 1 ∧ cM (J0 177) 16 < cM (J' 177) 16)) := by
  have hg := GR_r hw
  have h24 := hg.1
  have h5 := hg.2.2.2.1 p
  have h8 : ∀ p k t, fsF (rG I) (rNi I) (rFi I) p k t → t < 8 := fun p k t q => fsF_lt8r hg q
  intro m
  induction m with
  | zero =>
    intro f k J v1 hm hf hfr hB hv
    obtain ⟨f', rfl⟩ : ∃ f', f = f' + 1 := ⟨f - 1, by omega⟩
    have h9 : J 161 9 = I 161 9 := by rw [hfr 161 (by decide)]
    have hwJ := RW_fr hfr h9 nR7 hw
    have hgJ := rG_fr hfr h9 nR7
    have esz := X12_sizeOf (u := u) (L := L) hwJ (p := p) (by rw [hgJ]; exact hp1)
    rw [hgJ] at esz
    simp (disch := omega) only [l_X12_findsBehind_19, b_X12_findsBehind_19, b_X12_findsBehind_120, hi_M, hG_M_0, hG_M_1, hG_M_2, hG_M_3, hG_M_4, hG_M_5, hG_M_6, hG_M_7, hG_M_8, hg_M_9, hq_M_9, hG_M_10, hG_M_11, hG_M_12, hg_M_13, hq_M_13, hG_M_14, hg_M_15, hq_M_15, hG_M_16, hg_M_17, hq_M_17, hg_M_18, hq_M_18, hG_M_19, hG_M_20, hG_M_21, hG_M_22, hG_M_23, hG_M_24, hg_M_25, hq_M_25, hG_M_26, hG_M_27, hG_M_28, hg_M_29, hq_M_29, hG_M_30, hG_M_31, hg_M_32, hq_M_32, hg_M_33, hq_M_33, hg_M_34, hq_M_34, hg_M_35, hq_M_35, hG_M_36, hG_M_37, hg_M_38, hq_M_38, hg_M_39, hq_M_39, hG_M_40, hG_M_41, hG_M_42, hG_M_43, hg_M_44, hq_M_44, Option.bind_some, nm_eq, sm_inl, sm_inr, zo_0, zo_1, rg_ok, esz]
    rw [if_pos (by omega), show (p : Int) + 1 = ((p + 1 : Nat) : Int) by omega]
    refine ⟨J, v1, rfl, hfr, hB, ?_⟩
    rcases hv with ⟨a1, a2, a3, a4⟩ | hv
    · refine Or.inl ⟨a1, a2, fun q hq j hj => ?_⟩
      by_cases e : q = p
      · subst e; exact a4 j (by omega)
      · exact a3 q (by omega) j hj
    · exact Or.inr hv
  | succ m ih =>
    intro f k J v1 hm hf hfr hB hv
    obtain ⟨f', rfl⟩ : ∃ f', f = f' + 1 := ⟨f - 1, by omega⟩
    have h9 : J 161 9 = I 161 9 := by rw [hfr 161 (by decide)]
    have h18 : J 161 18 = I 161 18 := by rw [hfr 161 (by decide)]
    have h176 : J 176 = I 176 := hfr 176 (by decide)
    have hwJ := RW_fr hfr h9 nR7 hw
    have hgJ := rG_fr hfr h9 nR7
    have hTJ := rTb_fr h176 h18 hT
    have hk : k < Gl (rG I) p := by omega
    have hp2 : p < Gn (rG J) := by rw [hgJ]; exact hp1
    have esz := X12_sizeOf (u := u) (L := L) hwJ hp2
    have esy := X12_symbol (u := u) (L := L) hwJ (p := p) (k := k) (by rw [hgJ]; exact hk)
    have eld := X12_lead (u := u) (L := L) hwJ hp2
    obtain ⟨r1, er1, ok1, b1⟩ := X12_first (n := n) (u := u) (L := L) hn hwJ hTJ (p := p) (k := k + 1) hp2 (by rw [hgJ]; omega)
    obtain ⟨e0, ee, he⟩ := X12_empty (n := n) (u := u) (L := L) hn hwJ hTJ (p := p) (k := k + 1) hp2 (by rw [hgJ]; omega)
    rw [hgJ] at esz esy eld b1 he
    rw [rNi_fr h18, rFi_fr h176] at b1
    rw [rNi_fr h18] at he
    have ek : (k : Int) + 1 = ((k + 1 : Nat) : Int) := by omega
    have hs := hg.2.2.2.2.2 p k hk
    have ho := hg.2.2.1 p
    have hze : e0 = 0 ∨ e0 = 1 := by rcases he with q | q <;> omega
    have next : ∀ s0 s1 : Int, (∀ i, bt (gi_or s0 s1) i = true ↔ rhb (rG I) (rNi I) (rFi I) J p k i) → ∃ (J' : Nat → Nat → Int) (v1' : Int), b_X12_findsBehind_72 n r4 (l_X12_findsBehind_19 n r4 f') 161 v1 (p : Int) (k : Int) (((Gs (rG I) p k : Nat) : Int) - 16) s0 s1 (hp u J L) = r4 161 v1' ((p + 1 : Nat) : Int) (hp u J' L) ∧ Fr [177] I J' ∧ rI2 (rG I) (rNi I) (rFi I) J' ∧ ((v1' = 0 ∧ J' = J0 ∧ ∀ q, q < p + 1 → ∀ j, j < Gl (rG I) q → rlq (rG I) (rNi I) (rFi I) J' q j) ∨ (v1' = 1 ∧ cM (J0 177) 16 < cM (J' 177) 16)) := by
      intro s0 s1 hr
      have skip : rlq (rG I) (rNi I) (rFi I) J p k → ∃ (J' : Nat → Nat → Int) (v1' : Int), b_X12_findsBehind_114 n r4 (l_X12_findsBehind_19 n r4 f') 161 v1 (p : Int) (k : Int) (hp u J L) = r4 161 v1' ((p + 1 : Nat) : Int) (hp u J' L) ∧ Fr [177] I J' ∧ rI2 (rG I) (rNi I) (rFi I) J' ∧ ((v1' = 0 ∧ J' = J0 ∧ ∀ q, q < p + 1 → ∀ j, j < Gl (rG I) q → rlq (rG I) (rNi I) (rFi I) J' q j) ∨ (v1' = 1 ∧ cM (J0 177) 16 < cM (J' 177) 16)) := fun hc => by
        simp only [b_X12_findsBehind_114, nm_eq, ek]
        refine ih f' (k + 1) J v1 (by omega) (by omega) hfr hB ?_
        rcases hv with ⟨a1, a2, a3, a4⟩ | hv
        · refine Or.inl ⟨a1, a2, a3, fun j hj => ?_⟩
          by_cases e : j = k
          · subst e; exact hc
          · exact a4 j (by omega)
        · exact Or.inr hv
      by_cases hN : 16 ≤ Gs (rG I) p k
      · have e16 : ((Gs (rG I) p k : Nat) : Int) - 16 = ((Gs (rG I) p k - 16 : Nat) : Int) := by omega
        have hor := bt_ok_or (J 177 (Gs (rG I) p k - 16)) (gi_or s0 s1)
        have hj := hB.1 (Gs (rG I) p k - 16) (by omega)
        have hj' : -2147483648 ≤ J 177 (Gs (rG I) p k - 16) ∧ J 177 (Gs (rG I) p k - 16) ≤ 2147483647 := hj
        rw [e16]
        simp (disch := omega) only [b_X12_findsBehind_72, hi_M, hG_M_0, hG_M_1, hG_M_2, hG_M_3, hG_M_4, hG_M_5, hG_M_6, hG_M_7, hG_M_8, hg_M_9, hq_M_9, hG_M_10, hG_M_11, hG_M_12, hg_M_13, hq_M_13, hG_M_14, hg_M_15, hq_M_15, hG_M_16, hg_M_17, hq_M_17, hg_M_18, hq_M_18, hG_M_19, hG_M_20, hG_M_21, hG_M_22, hG_M_23, hG_M_24, hg_M_25, hq_M_25, hG_M_26, hG_M_27, hG_M_28, hg_M_29, hq_M_29, hG_M_30, hG_M_31, hg_M_32, hq_M_32, hg_M_33, hq_M_33, hg_M_34, hq_M_34, hg_M_35, hq_M_35, hG_M_36, hG_M_37, hg_M_38, hq_M_38, hg_M_39, hq_M_39, hG_M_40, hG_M_41, hG_M_42, hG_M_43, hg_M_44, hq_M_44, ha_177, hs_177, hl_177, Option.bind_some, nm_eq, sm_inl, sm_inr, zo_0, zo_1, rg_ok, Int.toNat_natCast]
        rw [if_neg (by omega)]
        by_cases e : gi_or (J 177 (Gs (rG I) p k - 16)) (gi_or s0 s1) = J 177 (Gs (rG I) p k - 16)
        · rw [if_pos e]; exact skip (rI2_no hg h8 hB hk hr e)
        · rw [if_neg e]
          have hlt := cM_wid (N := 16) (I := J) (a := 177) (by omega) hj e
          simp only [b_X12_findsBehind_114, nm_eq, ek]
          refine ih f' (k + 1) _ 1 (by omega) (by omega) (hfr.wr (List.mem_singleton.mpr rfl)) (rI2_wr hg h8 hB hk hN hr) (Or.inr ⟨rfl, ?_⟩)
          rcases hv with ⟨-, a2, -, -⟩ | ⟨-, a2⟩
          · rw [← a2]; exact hlt
          · exact Nat.lt_trans a2 hlt
      · simp (disch := omega) only [b_X12_findsBehind_72, Option.bind_some, nm_eq, sm_inl, sm_inr, zo_0, zo_1, rg_ok]
        rw [if_pos (by omega)]
        exact skip (fun q => absurd q hN)
    simp (disch := omega) only [l_X12_findsBehind_19, b_X12_findsBehind_19, hi_M, hG_M_0, hG_M_1, hG_M_2, hG_M_3, hG_M_4, hG_M_5, hG_M_6, hG_M_7, hG_M_8, hg_M_9, hq_M_9, hG_M_10, hG_M_11, hG_M_12, hg_M_13, hq_M_13, hG_M_14, hg_M_15, hq_M_15, hG_M_16, hg_M_17, hq_M_17, hg_M_18, hq_M_18, hG_M_19, hG_M_20, hG_M_21, hG_M_22, hG_M_23, hG_M_24, hg_M_25, hq_M_25, hG_M_26, hG_M_27, hG_M_28, hg_M_29, hq_M_29, hG_M_30, hG_M_31, hg_M_32, hq_M_32, hg_M_33, hq_M_33, hg_M_34, hq_M_34, hg_M_35, hq_M_35, hG_M_36, hG_M_37, hg_M_38, hq_M_38, hg_M_39, hq_M_39, hG_M_40, hG_M_41, hG_M_42, hG_M_43, hg_M_44, hq_M_44, ha_177, hs_177, hl_177, Option.bind_some, nm_eq, sm_inl, sm_inr, zo_0, zo_1, rg_ok, esz, esy, eld, ek, er1, ee, Int.toNat_natCast]
    rw [if_neg (by omega)]
    rcases he with ⟨a, b⟩ | ⟨a, b⟩
    · rw [if_neg (by omega)]
      refine next r1 _ (fun i => ?_)
      rw [bt_or, Bool.or_eq_true, b1 i]
      unfold rhb
      simp [b]
    · rw [if_pos a]
      refine next r1 0 (fun i => ?_)
      rw [bt_or, Bool.or_eq_true, b1 i, bt_zero]
      unfold rhb
      simp [b]
theorem rB_out (hn : 1000000000000000000000000000000 ≤ n) {I J0 : Nat → Nat → Int} (hw : RW I) (hT : rTb I) : ∀ (m f p : Nat) (J : Nat → Nat → Int) (v1 : Int), Gn (rG I) = p + m → m < f → Fr [177] I J → rI2 (rG I) (rNi I) (rFi I) J → ((v1 = 0 ∧ J = J0 ∧ ∀ q, q < p → ∀ j, j < Gl (rG I) q → rlq (rG I) (rNi I) (rFi I) J q j) ∨ (v1 = 1 ∧ cM (J0 177) 16 < cM (J 177) 16)) →
    ∃ (J' : Nat → Nat → Int) (v1' : Int), l_X12_findsBehind_4 n f 161 v1 (p : Int) (hp u J L) = some (v1', hp u J' L) ∧ Fr [177] I J' ∧ rI2 (rG I) (rNi I) (rFi I) J' ∧ ((v1' = 0 ∧ J' = J0 ∧ ∀ q, q < Gn (rG I) → ∀ j, j < Gl (rG I) q → rlq (rG I) (rNi I) (rFi I) J' q j) ∨ (v1' = 1 ∧ cM (J0 177) 16 < cM (J' 177) 16)) := by
  have hg := GR_r hw
  have h24 := hg.1
  intro m
  induction m with
  | zero =>
    intro f p J v1 hm hf hfr hB hv
    obtain ⟨f', rfl⟩ : ∃ f', f = f' + 1 := ⟨f - 1, by omega⟩
    have h9 : J 161 9 = I 161 9 := by rw [hfr 161 (by decide)]
    have hwJ := RW_fr hfr h9 nR7 hw
    have hgJ := rG_fr hfr h9 nR7
    have hn1 := rG_n hwJ
    have hw9 := rw9_of hwJ
    rw [hgJ] at hn1
    have hzo : v1 = 0 ∨ v1 = 1 := by rcases hv with q | q <;> omega
    simp (disch := omega) only [l_X12_findsBehind_4, b_X12_findsBehind_4, hi_M, hG_M_0, hG_M_1, hG_M_2, hG_M_3, hG_M_4, hG_M_5, hG_M_6, hG_M_7, hG_M_8, hg_M_9, hq_M_9, hG_M_10, hG_M_11, hG_M_12, hg_M_13, hq_M_13, hG_M_14, hg_M_15, hq_M_15, hG_M_16, hg_M_17, hq_M_17, hg_M_18, hq_M_18, hG_M_19, hG_M_20, hG_M_21, hG_M_22, hG_M_23, hG_M_24, hg_M_25, hq_M_25, hG_M_26, hG_M_27, hG_M_28, hg_M_29, hq_M_29, hG_M_30, hG_M_31, hg_M_32, hq_M_32, hg_M_33, hq_M_33, hg_M_34, hq_M_34, hg_M_35, hq_M_35, hG_M_36, hG_M_37, hg_M_38, hq_M_38, hg_M_39, hq_M_39, hG_M_40, hG_M_41, hG_M_42, hG_M_43, hg_M_44, hq_M_44, ha_165, hs_165, hl_165, Option.bind_some, nm_eq, sm_inl, sm_inr, zo_0, zo_1, rg_ok, hw9.1, Int.toNat_natCast, ← hn1]
    rw [if_pos (by omega)]
    refine ⟨J, v1, ?_, hfr, hB, ?_⟩
    · rcases hzo with q | q <;> rw [q] <;> rfl
    · rcases hv with ⟨a1, a2, a3⟩ | hv
      · exact Or.inl ⟨a1, a2, fun q hq => a3 q (by omega)⟩
      · exact Or.inr hv
  | succ m ih =>
    intro f p J v1 hm hf hfr hB hv
    obtain ⟨f', rfl⟩ : ∃ f', f = f' + 1 := ⟨f - 1, by omega⟩
    have h9 : J 161 9 = I 161 9 := by rw [hfr 161 (by decide)]
    have hwJ := RW_fr hfr h9 nR7 hw
    have hgJ := rG_fr hfr h9 nR7
    have hn1 := rG_n hwJ
    have hw9 := rw9_of hwJ
    rw [hgJ] at hn1
    have hp1 : p < Gn (rG I) := by omega
    have h5 := hg.2.2.2.1 p
    simp (disch := omega) only [l_X12_findsBehind_4, b_X12_findsBehind_4, hi_M, hG_M_0, hG_M_1, hG_M_2, hG_M_3, hG_M_4, hG_M_5, hG_M_6, hG_M_7, hG_M_8, hg_M_9, hq_M_9, hG_M_10, hG_M_11, hG_M_12, hg_M_13, hq_M_13, hG_M_14, hg_M_15, hq_M_15, hG_M_16, hg_M_17, hq_M_17, hg_M_18, hq_M_18, hG_M_19, hG_M_20, hG_M_21, hG_M_22, hG_M_23, hG_M_24, hg_M_25, hq_M_25, hG_M_26, hG_M_27, hG_M_28, hg_M_29, hq_M_29, hG_M_30, hG_M_31, hg_M_32, hq_M_32, hg_M_33, hq_M_33, hg_M_34, hq_M_34, hg_M_35, hq_M_35, hG_M_36, hG_M_37, hg_M_38, hq_M_38, hg_M_39, hq_M_39, hG_M_40, hG_M_41, hG_M_42, hG_M_43, hg_M_44, hq_M_44, ha_165, hs_165, hl_165, Option.bind_some, nm_eq, sm_inl, sm_inr, zo_0, zo_1, rg_ok, hw9.1, Int.toNat_natCast, ← hn1]
    rw [if_neg (by omega)]
    obtain ⟨J1, v1', e, f1, b1, c1⟩ := rB_in (L := L) (u := u) (J0 := J0) hn hw hT (l_X12_findsBehind_4 n f') hp1 (Gl (rG I) p) n 0 J v1 (by omega) (by omega) hfr hB (by
      rcases hv with ⟨a1, a2, a3⟩ | hv
      · exact Or.inl ⟨a1, a2, a3, fun j hj => absurd hj (by omega)⟩
      · exact Or.inr hv)
    have e' : l_X12_findsBehind_19 n (l_X12_findsBehind_4 n f') n 161 v1 (p : Int) 0 (hp u J L) = _ := e
    rw [e']
    exact ih f' (p + 1) J1 v1' (by omega) (by omega) f1 b1 c1
theorem X12_finds103 (hn : 1000000000000000000000000000000 ≤ n) {I : Nat → Nat → Int} (hw : RW I) (hT : rTb I) : ∀ (m f : Nat) (J : Nat → Nat → Int), 513 ≤ cM (J 177) 16 + m → m < f → Fr [177] I J → rI2 (rG I) (rNi I) (rFi I) J →
    ∃ J' : Nat → Nat → Int, l_X12_finds_103 n f 161 1 (hp u J L) = b_X12_finds_115 n 161 (hp u J' L) ∧ Fr [177] I J' ∧ rI2 (rG I) (rNi I) (rFi I) J' ∧ ls2 (rG I) (rNi I) (rFi I) (rBe J') := by
  have hg := GR_r hw
  intro m
  induction m with
  | zero => intro f J hm; have := cM_le (J 177) 16; omega
  | succ m ih =>
    intro f J hm hf hfr hB
    obtain ⟨f', rfl⟩ : ∃ f', f = f' + 1 := ⟨f - 1, by omega⟩
    have hM := cM_le (J 177) 16
    obtain ⟨J1, v1, e, h1, h2, h3⟩ := rB_out (L := L) (u := u) (J0 := J) hn hw hT (Gn (rG I)) n 0 J 0 (by omega) (by have := hg.1; omega) hfr hB (Or.inl ⟨rfl, rfl, fun q hq => absurd hq (by omega)⟩)
    have e' : f_X12_findsBehind n 161 (hp u J L) = some (v1, hp u J1 L) := e
    simp (disch := omega) only [l_X12_finds_103, b_X12_finds_103, hi_M, hG_M_0, hG_M_1, hG_M_2, hG_M_3, hG_M_4, hG_M_5, hG_M_6, hG_M_7, hG_M_8, hg_M_9, hq_M_9, hG_M_10, hG_M_11, hG_M_12, hg_M_13, hq_M_13, hG_M_14, hg_M_15, hq_M_15, hG_M_16, hg_M_17, hq_M_17, hg_M_18, hq_M_18, hG_M_19, hG_M_20, hG_M_21, hG_M_22, hG_M_23, hG_M_24, hg_M_25, hq_M_25, hG_M_26, hG_M_27, hG_M_28, hg_M_29, hq_M_29, hG_M_30, hG_M_31, hg_M_32, hq_M_32, hg_M_33, hq_M_33, hg_M_34, hq_M_34, hg_M_35, hq_M_35, hG_M_36, hG_M_37, hg_M_38, hq_M_38, hg_M_39, hq_M_39, hG_M_40, hG_M_41, hG_M_42, hG_M_43, hg_M_44, hq_M_44, Option.bind_some, nm_eq, sm_inl, sm_inr, zo_0, zo_1, rg_ok, e']
    rw [if_neg (by decide)]
    rcases h3 with ⟨a1, a2, a3⟩ | ⟨a1, a2⟩
    · obtain ⟨f2, rfl⟩ : ∃ f2, f' = f2 + 1 := ⟨f' - 1, by omega⟩
      rw [a1]
      simp (disch := omega) only [l_X12_finds_103, b_X12_finds_103, hi_M, hG_M_0, hG_M_1, hG_M_2, hG_M_3, hG_M_4, hG_M_5, hG_M_6, hG_M_7, hG_M_8, hg_M_9, hq_M_9, hG_M_10, hG_M_11, hG_M_12, hg_M_13, hq_M_13, hG_M_14, hg_M_15, hq_M_15, hG_M_16, hg_M_17, hq_M_17, hg_M_18, hq_M_18, hG_M_19, hG_M_20, hG_M_21, hG_M_22, hG_M_23, hG_M_24, hg_M_25, hq_M_25, hG_M_26, hG_M_27, hG_M_28, hg_M_29, hq_M_29, hG_M_30, hG_M_31, hg_M_32, hq_M_32, hg_M_33, hq_M_33, hg_M_34, hq_M_34, hg_M_35, hq_M_35, hG_M_36, hG_M_37, hg_M_38, hq_M_38, hg_M_39, hq_M_39, hG_M_40, hG_M_41, hG_M_42, hG_M_43, hg_M_44, hq_M_44, Option.bind_some, nm_eq, sm_inl, sm_inr, zo_0, zo_1, rg_ok]
      rw [if_pos trivial]
      have ht : Gt (rG I) < 16 := by have := hg.2.1; omega
      exact ⟨J1, rfl, h1, h2, ⟨⟨ht, by decide, h2.2.2.2⟩, fun p hq k hk hs t q => a3 p hq k hk hs t q⟩, h2.2.2.1⟩
    · rw [a1]
      exact ih f' J1 (by omega) (by omega) h1 h2
end RE
