/-! ===== the class: the other grammar's rules brought ===== -/
def brl (sh : Int) : List (Nat × List Int) → List (Nat × List Nat) → List (Nat × List Int) → Option (List (Nat × List Nat) × List (Nat × List Int))
  | [], ps, rs => some (ps, rs)
  | x :: l, ps, rs => match rd0 (x.2.map (rn sh)) ps with | none => none | some ps' => brl sh l ps' (rs ++ [(ps.length, x.2.map (rn sh))])
theorem ts_tk {s d x y : Int} (h : tk x = tk y) : ts s d x = ts s d y := by unfold ts; rw [h]
theorem tf_tk {t t' : Nat → Int} {n : Nat} : ∀ (m k : Nat) (s d : Int), (∀ j, k ≤ j → j < k + m → tk (t j) = tk (t' j)) → tf t n m k s d = tf t' n m k s d
  | 0, _, _, _, _ => rfl
  | m + 1, k, s, d, h => by
    show (match ts s d (t k) with | none => (k : Int) | some q => tf t n m (k + 1) q.1 q.2) = (match ts s d (t' k) with | none => (k : Int) | some q => tf t' n m (k + 1) q.1 q.2)
    rw [ts_tk (h k (Nat.le_refl k) (by omega))]
    cases ts s d (t' k) with
    | none => rfl
    | some q => exact tf_tk m (k + 1) q.1 q.2 (fun j h1 h2 => h j (by omega) (by omega))
theorem tl_map {f : Int → Int} {t : List Int} {j : Nat} (h : j < t.length) : tl (t.map f) j = f (tl t j) := by
  unfold tl
  simp [List.getD_eq_getElem?_getD, h]
theorem vld_map {sh : Int} {t : List Int} (h : vld t) : vld (t.map (rn sh)) := by
  unfold vld at *
  rw [List.length_map]
  rw [tf_tk (t' := tl t) t.length 0 0 0 (fun j _ hj => by rw [tl_map (by omega), rn_tk])]
  exact h
theorem AO.add {ps ps' : List (Nat × List Nat)} {rs : List (Nat × List Int)} {t : List Int} (h : AO ps rs) (hv : vld t) (hl : ps.length < ps'.length) : AO ps' (rs ++ [(ps.length, t)]) := by
  intro i hi
  rw [List.length_append, List.length_singleton] at hi
  by_cases e : i = rs.length
  · rw [e, gD_m, if_neg (by simp)]; exact ⟨hv, hl⟩
  · have hi' : i < rs.length := by omega
    have h1 := h i hi'
    rw [gD_l hi', if_pos (by simp; omega)]
    refine ⟨h1.1, ?_⟩
    by_cases e2 : i + 1 = rs.length
    · rw [e2, gD_m]
      have h2 := h1.2; rw [if_neg (by omega)] at h2; exact h2
    · rw [gD_l (by omega)]
      have h2 := h1.2; rw [if_pos (by omega)] at h2; exact h2
theorem AO.cut {ps : List (Nat × List Nat)} {rs : List (Nat × List Int)} (h : AO ps rs) (hr : rs.length ≠ 0) (hps : ps.length ≤ 24) : AO (ps.take (rs.getD (rs.length - 1) (0, [])).1) (rs.take (rs.length - 1)) := by
  intro i hi
  have hl : (rs.take (rs.length - 1)).length = rs.length - 1 := by simp
  rw [hl] at hi ⊢
  have h1 := h i (by omega)
  have h3 := (h (rs.length - 1) (by omega)).2
  rw [if_neg (by omega)] at h3
  rw [gD_t hi]
  refine ⟨h1.1, ?_⟩
  have h2 := h1.2
  rw [if_pos (by omega)] at h2
  by_cases e : i + 1 = rs.length - 1
  · rw [if_neg (by omega), ← e]
    have hlt := h3
    rw [← e] at hlt
    simp only [List.length_take]; omega
  · rw [if_pos (by omega), gD_t (by omega)]; exact h2
theorem CG.cut {v : Nat} {J : Nat → Nat → Int} {ps : List (Nat × List Nat)} {rs : List (Nat × List Int)} (h : CG v J ps rs) {c r : Nat} (hc : c ≤ ps.length) (hr : r ≤ rs.length) : CG v (gx_u (gx_u J v 3 (c : Int)) v 6 (r : Int)) (ps.take c) (rs.take r) := by
  obtain ⟨hP, h6, hrs⟩ := h
  have w6 := hP.1.2.1
  obtain ⟨w, d3, d4⟩ := hP.cut hc
  have hl : (rs.take r).length = r := by simp; omega
  refine ⟨⟨⟨?_, ?_, ?_, fun k => ?_, fun k => ?_, fun k => ?_⟩, ?_, fun p hp => ?_⟩, ?_, fun i hi => ?_⟩
  · rw [gu_at_ne (by decide)]; exact w.1
  · rw [gu_at_eq rfl]; omega
  · rw [gu_at_ne (by decide)]; exact w.2.2.1
  · rw [gu_ne (a := v) (b := v + 3) (by omega)]; exact w.2.2.2.1 k
  · rw [gu_ne (a := v) (b := v + 1) (by omega)]; exact w.2.2.2.2.1 k
  · rw [gu_ne (a := v) (b := v + 2) (by omega)]; exact w.2.2.2.2.2 k
  · rw [gu_at_ne (by decide)]; exact d3
  · rw [gu_ne (a := v) (k := 6) (b := v + 1) (by omega), gu_ne (a := v) (k := 6) (b := v + 3) (by omega), gu_ne (a := v) (k := 6) (b := v + 2) (by omega)]; exact d4 p hp
  · rw [gu_at_eq rfl, hl]
  · rw [hl] at hi
    have h7 := hrs i (by omega)
    rw [gD_t hi, gu_ne (by omega), gu_ne (by omega)]
    exact ⟨h7.1, h7.2.fr (by rw [gu_ne (by omega), gu_ne (by omega)]) (by rw [gu_ne (by omega), gu_ne (by omega)])⟩
section GF
variable {u : Nat} {n : Nat} {L : Nat → Nat → Int}
theorem X4_admitAll (hn : 1000000000000000000000000000000 ≤ n) {v v1 : Nat} (hv : v ∈ [3, 87]) (hv1 : v1 ∈ [3, 87]) (hne : v1 ≠ v) {J0 : Nat → Nat → Int} {ps : List (Nat × List Nat)} {rs : List (Nat × List Int)} (h : CG v J0 ps rs) (ha : AO ps rs) {ps1 : List (Nat × List Nat)} {rs1 : List (Nat × List Int)} (h1 : CG v1 J0 ps1 rs1) (ha1 : AO ps1 rs1) {sh : Int} (hs : 0 ≤ sh ∧ sh ≤ 7) :
    (∃ q J', brl sh rs1 ps rs = some q ∧ f_X4_admitAll n v v1 sh (hp u J0 L) = some (1, hp u J' L) ∧ FG v J0 J' ∧ CG v J' q.1 q.2 ∧ AO q.1 q.2) ∨
    (brl sh rs1 ps rs = none ∧ ∃ J', f_X4_admitAll n v v1 sh (hp u J0 L) = some (0, hp u J' L) ∧ FG v J0 J' ∧ CG v J' ps rs) := by
  have hlt1 := ha1.lt
  have h241 := h1.1.po.1
  have h3 := h.1.2.1
  have h6 := h.2.1
  have hdis : ∀ a, v1 ≤ a → a < v1 + 58 → a < v ∨ v + 58 ≤ a := by rcases gG4 hv with z | z <;> rcases gG4 hv1 with z1 | z1 <;> subst z <;> subst z1 <;> omega
  suffices key : ∀ R, zLP rs1.length (fun f k (J : Nat → Nat → Int) => l_X4_admitAll_14 n f v v1 sh (ps.length : Int) (rs.length : Int) (k : Int) (hp u J L))
      (fun k J => FG v J0 J ∧ ∃ psk rsk, PX ps psk ∧ (∃ e, rsk = rs ++ e) ∧ CG v J psk rsk ∧ AO psk rsk ∧ brl sh (rs1.drop k) psk rsk = R)
      (fun res => (∃ q J', R = some q ∧ res = some (1, hp u J' L) ∧ FG v J0 J' ∧ CG v J' q.1 q.2 ∧ AO q.1 q.2) ∨ (R = none ∧ ∃ J', res = some (0, hp u J' L) ∧ FG v J0 J' ∧ CG v J' ps rs)) by
    have e := key (brl sh rs1 ps rs) rs1.length n 0 J0 (by omega) (by omega) ⟨FG.rf, ps, rs, PX.rf, ⟨[], by simp⟩, h, ha, rfl⟩
    have e2 : f_X4_admitAll n v v1 sh (hp u J0 L) = l_X4_admitAll_14 n n v v1 sh (ps.length : Int) (rs.length : Int) 0 (hp u J0 L) := by
      simp (disch := omega) only [f_X4_admitAll, ↓dhi_G hv, ↓dhG_G_0 hv, ↓dhG_G_1 hv, ↓dhG_G_2 hv, ↓dhg_G_3 hv, ↓dhq_G_3 hv, ↓dhG_G_4 hv, ↓dhG_G_5 hv, ↓dhg_G_6 hv, ↓dhq_G_6 hv, ↓dhg_G_7 hv, ↓dhq_G_7 hv, ↓dhG_G_8 hv, ↓dhG_G_9 hv, ↓dha_G_1 hv, ↓dhs_G_1 hv, ↓dhl_G_1 hv, ↓dha_G_2 hv, ↓dhs_G_2 hv, ↓dhl_G_2 hv, ↓dha_G_3 hv, ↓dhs_G_3 hv, ↓dhl_G_3 hv, ↓dha_G_4 hv, ↓dhl_G_4 hv, ↓dha_G_5 hv, ↓dhs_G_5 hv, ↓dhl_G_5 hv, Option.bind_some, ↓nm_eq, ↓sm_inl, ↓sm_inr, ↓dzo_0, ↓dzo_1, ↓drg_ok, ↓if_pos, ↓if_neg, if_pos, if_neg, if_true, if_false, Int.toNat_natCast, rg_ok, h3, h6]
    rw [e2]; exact e
  intro R
  refine zlp ?_ ?_
  · rintro f k J hk ⟨hF, psk, rsk, c1, ⟨ex, c2⟩, c3, c4, c5⟩
    have hJ1 : ∀ a, v1 ≤ a → a < v1 + 58 → J a = J0 a := fun a z1 z2 => hF.1 a (hdis a z1 z2)
    have e6 : J v1 6 = (rs1.length : Int) := by rw [hJ1 v1 (by omega) (by omega)]; exact h1.2.1
    have hk24 : k < 24 := by omega
    have gr := gT_ref (u := u) hv1 hk24
    have gm := gT_mem hv1 hk24
    have hTk := (h1.2.2 k hk).2
    have hT1 : TL (v1 + 10 + 2 * k) J (rs1.getD k (0, [])).2 := hTk.fr (hJ1 _ (by omega) (by omega)) (hJ1 _ (by omega) (by omega))
    have h6T : v + 6 ∈ gTX := by rcases gG4 hv with z | z <;> rw [z] <;> decide
    have hd6 : v1 + 10 + 2 * k ≠ v + 6 ∧ v1 + 10 + 2 * k ≠ v + 6 + 1 ∧ v1 + 10 + 2 * k + 1 ≠ v + 6 := by
      have := hdis (v1 + 10 + 2 * k) (by omega) (by omega); have := hdis (v1 + 10 + 2 * k + 1) (by omega) (by omega); omega
    obtain ⟨J2, b1, b2, b3, b4, b5⟩ := X8_copyRenamed (u := u) (L := L) h6T gm hd6 hT1.tk hn (sh := sh) hs
    have hT2 : TL (v + 6) J2 ((rs1.getD k (0, [])).2.map (rn sh)) := by
      refine ⟨by rw [b3, hT1.1, List.length_map], fun j hj => ?_, by rw [List.length_map]; exact hT1.2.2.1, fun j hj => ?_⟩
      · rw [List.length_map] at hj
        rw [b5 j (by rw [hT1.1]; omega), hT1.2.1 j hj, tl_map hj]
      · rw [List.length_map] at hj
        rw [tl_map hj, rn_tk]; exact hT1.2.2.2 j hj
    have hF2 : FG v J J2 := FG.of b2 (fun a q => by simp at q; omega) (by rw [b2 v (by simp; omega)])
    have c32 : CG v J2 psk rsk := by
      refine ⟨c3.1.fr b2 (by simp; omega), by rw [b2 v (by simp; omega)]; exact c3.2.1, fun i hi => ?_⟩
      rw [b2 (v + 5) (by simp)]
      exact ⟨(c3.2.2 i hi).1, (c3.2.2 i hi).2.fr (b2 _ (by simp; omega)) (b2 _ (by simp; omega))⟩
    have hcons : rs1.drop k = rs1.getD k (0, []) :: rs1.drop (k + 1) := by
      rw [List.drop_eq_getElem_cons hk]
      simp [List.getD_eq_getElem?_getD, hk]
    rw [hcons] at c5
    have c5' : (match rd0 ((rs1.getD k (0, [])).2.map (rn sh)) psk with | none => none | some ps' => brl sh (rs1.drop (k + 1)) ps' (rsk ++ [(psk.length, (rs1.getD k (0, [])).2.map (rn sh))])) = R := c5
    have ek : (k : Int) + 1 = ((k + 1 : Nat) : Int) := by omega
    rcases X4_admit (u := u) (L := L) hn hv c32 c4 (Or.inr rfl) hT2 (vld_map (ha1 k hk).1) with ⟨ps', J3, d1, d2, d3, d4, d5, d6⟩ | ⟨d1, J3, d2, d3, d4, d5, d6⟩
    · right
      rw [d1] at c5'
      refine ⟨J3, ?_, hF.tr (hF2.tr d3), ps', _, c1.tr (rd0_px d1).1, ⟨ex ++ [(psk.length, (rs1.getD k (0, [])).2.map (rn sh))], by rw [c2]; simp⟩, d6, c4.add (vld_map (ha1 k hk).1) (rd0_px d1).2, c5'⟩
      simp (disch := omega) only [l_X4_admitAll_14, b_X4_admitAll_14, ↓dhi_G hv1, ↓dhG_G_4 hv1, ↓dhg_G_6 hv1, ↓dha_G_4 hv1, ↓dhi_G hv, ↓dhG_G_0 hv, ↓dhG_G_1 hv, ↓dhG_G_2 hv, ↓dhg_G_3 hv, ↓dhq_G_3 hv, ↓dhG_G_4 hv, ↓dhG_G_5 hv, ↓dhg_G_6 hv, ↓dhq_G_6 hv, ↓dhg_G_7 hv, ↓dhq_G_7 hv, ↓dhG_G_8 hv, ↓dhG_G_9 hv, ↓dha_G_1 hv, ↓dhs_G_1 hv, ↓dhl_G_1 hv, ↓dha_G_2 hv, ↓dhs_G_2 hv, ↓dhl_G_2 hv, ↓dha_G_3 hv, ↓dhs_G_3 hv, ↓dhl_G_3 hv, ↓dha_G_4 hv, ↓dhl_G_4 hv, ↓dha_G_5 hv, ↓dhs_G_5 hv, ↓dhl_G_5 hv, Option.bind_some, ↓nm_eq, ↓sm_inl, ↓sm_inr, ↓dzo_0, ↓dzo_1, ↓drg_ok, ↓if_pos, ↓if_neg, if_pos, if_neg, if_true, if_false, Int.toNat_natCast, rg_ok, ↓bnd b1, ↓dhi_T h6T, e6, gr, reduceCtorEq]
      simp (disch := omega) only [b_X4_admitAll_54, ↓dhi_G hv, ↓dhG_G_0 hv, ↓dhG_G_1 hv, ↓dhG_G_2 hv, ↓dhg_G_3 hv, ↓dhq_G_3 hv, ↓dhG_G_4 hv, ↓dhG_G_5 hv, ↓dhg_G_6 hv, ↓dhq_G_6 hv, ↓dhg_G_7 hv, ↓dhq_G_7 hv, ↓dhG_G_8 hv, ↓dhG_G_9 hv, ↓dha_G_1 hv, ↓dhs_G_1 hv, ↓dhl_G_1 hv, ↓dha_G_2 hv, ↓dhs_G_2 hv, ↓dhl_G_2 hv, ↓dha_G_3 hv, ↓dhs_G_3 hv, ↓dhl_G_3 hv, ↓dha_G_4 hv, ↓dhl_G_4 hv, ↓dha_G_5 hv, ↓dhs_G_5 hv, ↓dhl_G_5 hv, Option.bind_some, ↓nm_eq, ↓sm_inl, ↓sm_inr, ↓dzo_0, ↓dzo_1, ↓drg_ok, ↓if_pos, ↓if_neg, if_pos, if_neg, if_true, if_false, Int.toNat_natCast, rg_ok, ↓bnd d2, reduceCtorEq, ek]
    · left
      rw [d1] at c5'
      right
      refine ⟨c5'.symm, gx_u (gx_u J3 v 3 (ps.length : Int)) v 6 (rs.length : Int), ?_, ?_, ?_⟩
      · simp (disch := omega) only [l_X4_admitAll_14, b_X4_admitAll_14, ↓dhi_G hv1, ↓dhG_G_4 hv1, ↓dhg_G_6 hv1, ↓dha_G_4 hv1, ↓dhi_G hv, ↓dhG_G_0 hv, ↓dhG_G_1 hv, ↓dhG_G_2 hv, ↓dhg_G_3 hv, ↓dhq_G_3 hv, ↓dhG_G_4 hv, ↓dhG_G_5 hv, ↓dhg_G_6 hv, ↓dhq_G_6 hv, ↓dhg_G_7 hv, ↓dhq_G_7 hv, ↓dhG_G_8 hv, ↓dhG_G_9 hv, ↓dha_G_1 hv, ↓dhs_G_1 hv, ↓dhl_G_1 hv, ↓dha_G_2 hv, ↓dhs_G_2 hv, ↓dhl_G_2 hv, ↓dha_G_3 hv, ↓dhs_G_3 hv, ↓dhl_G_3 hv, ↓dha_G_4 hv, ↓dhl_G_4 hv, ↓dha_G_5 hv, ↓dhs_G_5 hv, ↓dhl_G_5 hv, Option.bind_some, ↓nm_eq, ↓sm_inl, ↓sm_inr, ↓dzo_0, ↓dzo_1, ↓drg_ok, ↓if_pos, ↓if_neg, if_pos, if_neg, if_true, if_false, Int.toNat_natCast, rg_ok, ↓bnd b1, ↓dhi_T h6T, e6, gr, reduceCtorEq]
        simp (disch := omega) only [b_X4_admitAll_54, b_X4_admitAll_70, ↓dhi_G hv, ↓dhG_G_0 hv, ↓dhG_G_1 hv, ↓dhG_G_2 hv, ↓dhg_G_3 hv, ↓dhq_G_3 hv, ↓dhG_G_4 hv, ↓dhG_G_5 hv, ↓dhg_G_6 hv, ↓dhq_G_6 hv, ↓dhg_G_7 hv, ↓dhq_G_7 hv, ↓dhG_G_8 hv, ↓dhG_G_9 hv, ↓dha_G_1 hv, ↓dhs_G_1 hv, ↓dhl_G_1 hv, ↓dha_G_2 hv, ↓dhs_G_2 hv, ↓dhl_G_2 hv, ↓dha_G_3 hv, ↓dhs_G_3 hv, ↓dhl_G_3 hv, ↓dha_G_4 hv, ↓dhl_G_4 hv, ↓dha_G_5 hv, ↓dhs_G_5 hv, ↓dhl_G_5 hv, Option.bind_some, ↓nm_eq, ↓sm_inl, ↓sm_inr, ↓dzo_0, ↓dzo_1, ↓drg_ok, ↓if_pos, ↓if_neg, if_pos, if_neg, if_true, if_false, Int.toNat_natCast, rg_ok, ↓bnd d2, reduceCtorEq, ek]
      · exact (hF.tr (hF2.tr d3)).tr ((FG.of (l := [v]) (Fr.rf.wr (by simp)) (fun a q => by simp at q; omega) (gu_at_ne (by decide))).tr (FG.of (l := [v]) (Fr.rf.wr (by simp)) (fun a q => by simp at q; omega) (gu_at_ne (by decide))))
      · have q1 := d6.cut (c := ps.length) (r := rs.length) c1.len (by rw [c2]; simp)
        rw [take_px c1, c2] at q1
        rwa [List.take_left] at q1
  · rintro f J ⟨hF, psk, rsk, c1, ⟨ex, c2⟩, c3, c4, c5⟩
    have hJ1 : ∀ a, v1 ≤ a → a < v1 + 58 → J a = J0 a := fun a z1 z2 => hF.1 a (hdis a z1 z2)
    have e6 : J v1 6 = (rs1.length : Int) := by rw [hJ1 v1 (by omega) (by omega)]; exact h1.2.1
    rw [List.drop_length] at c5
    refine Or.inl ⟨(psk, rsk), J, c5.symm, ?_, hF, c3, c4⟩
    simp (disch := omega) only [l_X4_admitAll_14, b_X4_admitAll_14, ↓dhg_G_6 hv1, Option.bind_some, ↓nm_eq, ↓sm_inl, ↓sm_inr, ↓dzo_0, ↓dzo_1, ↓drg_ok, ↓if_pos, ↓if_neg, if_pos, if_neg, if_true, if_false, Int.toNat_natCast, rg_ok, e6]
end GF
