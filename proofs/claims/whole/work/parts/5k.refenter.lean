/-! ===== the reference: a rule read, entered ===== -/
def RT (J : Nat → Nat → Int) (t : List Int) : Prop := J 161 13 = (t.length : Int) ∧ (∀ j, j < t.length → J 173 j = tl t j) ∧ t.length ≤ 24 ∧ ∀ j, j < t.length → tk (tl t j) ≠ 8
theorem RT.k {J : Nat → Nat → Int} {t : List Int} (h : RT J t) : RK J := by
  obtain ⟨h1, h2, h3, h4⟩ := h
  refine ⟨by omega, fun k hk => ?_⟩
  rw [h2 k (by omega)]; exact h4 k (by omega)
def RG (w : Nat) (J : Nat → Nat → Int) (ps : List (Nat × List Nat)) (rs : List (Nat × List Int)) : Prop := RQ w J ps ∧ J 166 w = (rs.length : Int) ∧ ∀ i, i < rs.length → J 167 (24 * w + i) = ((rs.getD i (0, [])).1 : Int) ∧ J 168 (24 * w + i) = ((rs.getD i (0, [])).2.length : Int) ∧ (∀ j, j < (rs.getD i (0, [])).2.length → J 169 (24 * (24 * w + i) + j) = tl (rs.getD i (0, [])).2 j) ∧ (rs.getD i (0, [])).2.length ≤ 24 ∧ ∀ j, j < (rs.getD i (0, [])).2.length → tk (tl (rs.getD i (0, [])).2 j) ≠ 8
def FR (w : Nat) (J K : Nat → Nat → Int) : Prop := Fr [161, 162, 163, 164, 165, 166, 167, 168, 169, 174] J K ∧ (∀ k, k ≠ 15 → k ≠ 33 → k ≠ 34 → k ≠ 35 → K 161 k = J 161 k) ∧ (∀ k, k ≠ w → K 165 k = J 165 k ∧ K 166 k = J 166 k) ∧ (∀ k, k < 24 * w ∨ 24 * w + 24 ≤ k → K 162 k = J 162 k ∧ K 163 k = J 163 k ∧ K 167 k = J 167 k ∧ K 168 k = J 168 k) ∧ (∀ k, k < 120 * w ∨ 120 * w + 120 ≤ k → K 164 k = J 164 k) ∧ ∀ k, k < 576 * w ∨ 576 * w + 576 ≤ k → K 169 k = J 169 k
theorem FR.rf {w : Nat} {J : Nat → Nat → Int} : FR w J J := ⟨Fr.rf, fun _ _ _ _ _ => rfl, fun _ _ => ⟨rfl, rfl⟩, fun _ _ => ⟨rfl, rfl, rfl, rfl⟩, fun _ _ => rfl, fun _ _ => rfl⟩
theorem FR.tr {w : Nat} {I J K : Nat → Nat → Int} (h : FR w I J) (q : FR w J K) : FR w I K :=
  ⟨h.1.tr q.1, fun k a b c d => (q.2.1 k a b c d).trans (h.2.1 k a b c d), fun k a => ⟨(q.2.2.1 k a).1.trans (h.2.2.1 k a).1, (q.2.2.1 k a).2.trans (h.2.2.1 k a).2⟩,
   fun k a => ⟨(q.2.2.2.1 k a).1.trans (h.2.2.2.1 k a).1, (q.2.2.2.1 k a).2.1.trans (h.2.2.2.1 k a).2.1, (q.2.2.2.1 k a).2.2.1.trans (h.2.2.2.1 k a).2.2.1, (q.2.2.2.1 k a).2.2.2.trans (h.2.2.2.1 k a).2.2.2⟩,
   fun k a => (q.2.2.2.2.1 k a).trans (h.2.2.2.2.1 k a), fun k a => (q.2.2.2.2.2 k a).trans (h.2.2.2.2.2 k a)⟩
theorem FQ.r {w : Nat} {J K : Nat → Nat → Int} (h : FQ w J K) : FR w J K :=
  ⟨h.1.up (fun a q => by simp at q ⊢; omega), fun k a _ _ _ => h.2.1 k a, fun k a => ⟨h.2.2.1 k a, by rw [h.1 166 (by decide)]⟩, fun k a => ⟨(h.2.2.2.1 k a).1, (h.2.2.2.1 k a).2, by rw [h.1 167 (by decide)], by rw [h.1 168 (by decide)]⟩, h.2.2.2.2, fun k _ => by rw [h.1 169 (by decide)]⟩
theorem RG.ot {w w' : Nat} {J K : Nat → Nat → Int} {ps : List (Nat × List Nat)} {rs : List (Nat × List Int)} (h : RG w' J ps rs) (f : FR w J K) (hne : w' ≠ w) (hK : RW K) (ha : AO ps rs) : RG w' K ps rs := by
  have h24 := h.1.po.1
  have hlt := ha.lt
  refine ⟨⟨hK, by rw [(f.2.2.1 w' hne).1]; exact h.1.2.1, fun p hp => ?_⟩, by rw [(f.2.2.1 w' hne).2]; exact h.2.1, fun i hi => ?_⟩
  · have h3 := h.1.2.2 p hp
    have h6 := (h.1.po.2 p hp).2.1
    have q := f.2.2.2.1 (24 * w' + p) (by omega)
    rw [q.1, q.2.1]
    refine ⟨h3.1, h3.2.1, fun k hk => ?_⟩
    rw [f.2.2.2.2.1 _ (by omega)]; exact h3.2.2 k hk
  · have h3 := h.2.2 i hi
    have q := f.2.2.2.1 (24 * w' + i) (by omega)
    rw [q.2.2.1, q.2.2.2]
    refine ⟨h3.1, h3.2.1, fun j hj => ?_, h3.2.2.2⟩
    have h5 := h3.2.2.2.1
    rw [f.2.2.2.2.2 _ (by omega)]; exact h3.2.2.1 j hj
theorem tn0 : Int.toNat 0 = 0 := rfl
section QC
variable {u : Nat} {n : Nat} {L : Nat → Nat → Int}
theorem X12_reads (hn : 1000000000000000000000000000000 ≤ n) {w : Nat} {J0 : Nat → Nat → Int} {ps0 : List (Nat × List Nat)} (h : RQ w J0 ps0) (h9 : J0 161 9 = (w : Int)) {t : List Int} (hT : RT J0 t) (hv : vld t) :
    (∃ ps' J', rd0 t ps0 = some ps' ∧ f_X12_reads n 161 (hp u J0 L) = some (1, hp u J' L) ∧ RQ w J' ps' ∧ FQ w J0 J') ∨
    (rd0 t ps0 = none ∧ ∃ J' psx, f_X12_reads n 161 (hp u J0 L) = some (0, hp u J' L) ∧ PX ps0 psx ∧ RQ w J' psx ∧ FQ w J0 J') := by
  obtain ⟨hN2, ht0, hV0⟩ := vs_0 (r := fun _ => 0) hv
  have hN24 := hT.2.2.1
  have hfin : ∀ R, (∃ q, rdm (tl t) (t.length - 2) 2 false ps0 (fun _ => 0) 0 = some q ∧ aa (tl t 0 - 65).toNat q.2.1 q.2.2 q.1 0 0 = R) ∨ (rdm (tl t) (t.length - 2) 2 false ps0 (fun _ => 0) 0 = none ∧ R = none) → rd0 t ps0 = R := by
    rintro R (⟨q, q1, q2⟩ | ⟨q1, q2⟩) <;> unfold rd0 rdr <;> rw [q1]
    · exact q2
    · exact q2.symm
  have hJx : ∀ J, FQ w J0 J → J 161 13 = (t.length : Int) ∧ J 173 = J0 173 ∧ J 161 9 = (w : Int) := fun J hF => ⟨by rw [hF.2.1 13 (by decide)]; exact hT.1, hF.1 173 (by decide), by rw [hF.2.1 9 (by decide)]; exact h9⟩
  suffices key : zWL (fun f (s : Int × Nat × (Nat → Nat → Int)) => l_X12_reads_9 n f 161 s.1 (s.2.1 : Int) (hp u s.2.2 L)) (fun s => t.length + 2 - s.2.1)
      (fun s => FQ w J0 s.2.2 ∧ 2 ≤ s.2.1 ∧ s.2.1 ≤ t.length + 1 ∧ ((s.1 = 1 ∧ s.2.1 ≤ t.length ∧ ∃ ps r H S d, VS (tl t) t.length s.2.1 S d r H ∧ S ≠ 4 ∧ PX ps0 ps ∧ RQ w s.2.2 ps ∧ RR s.2.2 r H ∧ rdm (tl t) (t.length - 2) 2 false ps0 (fun _ => 0) 0 = rdm (tl t) (t.length - s.2.1) s.2.1 false ps r H) ∨ (s.1 = 0 ∧ rdm (tl t) (t.length - 2) 2 false ps0 (fun _ => 0) 0 = none ∧ ∃ psx, PX ps0 psx ∧ RQ w s.2.2 psx)))
      (fun res => (∃ ps' J', rd0 t ps0 = some ps' ∧ res = some (1, hp u J' L) ∧ RQ w J' ps' ∧ FQ w J0 J') ∨ (rd0 t ps0 = none ∧ ∃ J' psx, res = some (0, hp u J' L) ∧ PX ps0 psx ∧ RQ w J' psx ∧ FQ w J0 J')) by
    have e := key (t.length + 2) n (1, 2, gx_u J0 161 15 0) (by dsimp only; omega) (by omega) ⟨FQ.ht, Nat.le_refl _, by dsimp only; omega, Or.inl ⟨rfl, hN2, ps0, fun _ => 0, 0, 2, 0, hV0, by decide, PX.rf, h.ht, ⟨by show gx_u J0 161 15 0 161 15 = 0; exact gu_same _ _ _ _, fun i hi => absurd hi (by omega)⟩, rfl⟩⟩
    have e2 : f_X12_reads n 161 (hp u J0 L) = l_X12_reads_9 n n 161 1 2 (hp u (gx_u J0 161 15 0) L) := by
      simp only [f_X12_reads, hi_M, hG_M_0, hG_M_1, hG_M_2, hG_M_3, hG_M_4, hG_M_5, hG_M_6, hG_M_7, hG_M_8, hg_M_9, hq_M_9, hG_M_10, hG_M_11, hG_M_12, hg_M_13, hq_M_13, hG_M_14, hg_M_15, hq_M_15, hG_M_16, hg_M_17, hq_M_17, hg_M_18, hq_M_18, hG_M_19, hG_M_20, hG_M_21, hG_M_22, hG_M_23, hG_M_24, hg_M_25, hq_M_25, hG_M_26, hG_M_27, hG_M_28, hg_M_29, hq_M_29, hG_M_30, hG_M_31, hg_M_32, hq_M_32, hg_M_33, hq_M_33, hg_M_34, hq_M_34, hg_M_35, hq_M_35, hG_M_36, hG_M_37, hg_M_38, hq_M_38, hg_M_39, hq_M_39, hG_M_40, hG_M_41, hG_M_42, hG_M_43, hg_M_44, hq_M_44, Option.bind_some, nm_eq, sm_inl, sm_inr, zo_0, zo_1]
    rw [e2]; exact e
  refine zwl ?_
  rintro f ⟨v1, k, J⟩ ⟨hF, hk2, hk3, hc⟩
  dsimp only at hF hk2 hk3 hc ⊢
  obtain ⟨g13, g173, g9⟩ := hJx J hF
  rcases hc with ⟨c1, hkN, ps, r, H, S, d, c2, hS, c4, c5, c6, c7⟩ | ⟨c1, c2, psx, c3, c4⟩
  · by_cases hk : k < t.length
    · right
      have gk : J 173 k = tl t k := by rw [g173]; exact hT.2.1 k hk
      have hyr := tk_rg (hT.2.2.2 k hk)
      have hyc := tk_cases (tl t k)
      obtain ⟨m, hm⟩ : ∃ m, t.length - k = m + 1 := ⟨t.length - k - 1, by omega⟩
      have hm' : t.length - (k + 1) = m := by omega
      have hH8 := c2.2.2.2.2.2.2.2
      have ek : (k : Int) + 1 = ((k + 1 : Nat) : Int) := by omega
      have c6' := c6.1
      rw [hm] at c7
      have c7' : rdm (tl t) (t.length - 2) 2 false ps0 (fun _ => 0) 0 =
          (if tk (tl t k) = 0 then rdm (tl t) m (k + 1) false ps (zup r H (tl t k - 97)) (H + 1)
          else if tk (tl t k) = 1 then rdm (tl t) m (k + 1) false ps (zup r H (16 + tl t k - 65)) (H + 1)
          else if tk (tl t k) = 4 then rdm (tl t) m (k + 1) false ps (zup r H (-1)) (H + 1)
          else if tk (tl t k) = 5 then rdm (tl t) m (k + 1) false ps (zup r H (-2)) (H + 1)
          else if tk (tl t k) = 6 then (match cls ps r H with | none => none | some q => rdm (tl t) m (k + 1) false q.1 q.2.1 q.2.2)
          else if tk (tl t k) = 2 then (match wr ps r H (tl t k) 0 with | none => none | some q => rdm (tl t) m (k + 1) false q.1 q.2 H)
          else rdm (tl t) m (k + 1) true ps r H) := c7
      -- a symbol put behind the row
      have psh : ∀ y z : Int, sw z = y → FQ w J (gx_u (gx_u J 174 H y) 161 15 ((H : Int) + 1)) ∧ RQ w (gx_u (gx_u J 174 H y) 161 15 ((H : Int) + 1)) ps ∧ RR (gx_u (gx_u J 174 H y) 161 15 ((H : Int) + 1)) (zup r H z) (H + 1) := fun y z hz => by
        refine ⟨FQ.row.tr FQ.ht, c5.row.ht, ⟨by rw [gu_same]; omega, fun i hi => ?_⟩⟩
        rw [gu_ne (by decide)]
        by_cases e : i = H
        · rw [e, zup_eq, gu_at_eq rfl, hz]
        · rw [zup_ne e, gu_at_ne e]; exact c6.2 i (by omega)
      have g15' : ∀ y : Int, gx_u J 174 H y 161 15 = (H : Int) := fun y => by rw [gu_ne (by decide)]; exact c6'
      have go : ∀ (y : Int), b_X12_reads_138 n (l_X12_reads_9 n f) 161 1 (k : Int) 174 (H : Int) y (hp u J L) = l_X12_reads_9 n f 161 1 ((k + 1 : Nat) : Int) (hp u (gx_u (gx_u J 174 H y) 161 15 ((H : Int) + 1)) L) := fun y => by
        simp (disch := omega) only [b_X12_reads_138, b_X12_reads_149, ↓dhi_M, ↓dhG_M_0, ↓dhG_M_1, ↓dhG_M_2, ↓dhG_M_3, ↓dhG_M_4, ↓dhG_M_5, ↓dhG_M_6, ↓dhG_M_7, ↓dhG_M_8, ↓dhg_M_9, ↓dhq_M_9, ↓dhG_M_10, ↓dhG_M_11, ↓dhG_M_12, ↓dhg_M_13, ↓dhq_M_13, ↓dhG_M_14, ↓dhg_M_15, ↓dhq_M_15, ↓dhG_M_16, ↓dhg_M_17, ↓dhq_M_17, ↓dhg_M_18, ↓dhq_M_18, ↓dhG_M_19, ↓dhG_M_20, ↓dhG_M_21, ↓dhG_M_22, ↓dhG_M_23, ↓dhG_M_24, ↓dhg_M_25, ↓dhq_M_25, ↓dhG_M_26, ↓dhG_M_27, ↓dhG_M_28, ↓dhg_M_29, ↓dhq_M_29, ↓dhG_M_30, ↓dhG_M_31, ↓dhg_M_32, ↓dhq_M_32, ↓dhg_M_33, ↓dhq_M_33, ↓dhg_M_34, ↓dhq_M_34, ↓dhg_M_35, ↓dhq_M_35, ↓dhG_M_36, ↓dhG_M_37, ↓dhg_M_38, ↓dhq_M_38, ↓dhg_M_39, ↓dhq_M_39, ↓dhG_M_40, ↓dhG_M_41, ↓dhG_M_42, ↓dhG_M_43, ↓dhg_M_44, ↓dhq_M_44, ↓dha_174, ↓dhs_174, ↓dhl_174, Option.bind_some, ↓nm_eq, ↓sm_inl, ↓sm_inr, ↓dzo_0, ↓dzo_1, ↓drg_ok, ↓if_pos, ↓if_neg, if_pos, if_neg, if_true, if_false, Int.toNat_natCast, rg_ok, g15' y, ek]
      rcases vs_cases c2 hS hk with ⟨t0, w1⟩ | ⟨t0, w1⟩ | ⟨t0, w1⟩ | ⟨t0, w1⟩ | ⟨t0, b, w1, w2⟩ | ⟨t0, w1, w2, w3⟩ | ⟨t0, w1, w2, w3, w4⟩
      · rw [if_pos t0] at c7'
        obtain ⟨p1, p2, p3⟩ := psh (tl t k - 97) (tl t k - 97) (sw_s (by unfold sgd; omega))
        refine ⟨(1, k + 1, gx_u (gx_u J 174 H (tl t k - 97)) 161 15 ((H : Int) + 1)), ?_, ⟨hF.tr p1, by dsimp only; omega, by dsimp only; omega, Or.inl ⟨rfl, by dsimp only; omega, ps, _, _, 3, d, w1, by decide, c4, p2, p3, by rw [c7']; dsimp only; rw [hm']⟩⟩, by dsimp only; omega⟩
        dsimp only
        rw [← go]
        simp (disch := omega) only [l_X12_reads_9, b_X12_reads_9, ↓dhi_M, ↓dhG_M_0, ↓dhG_M_1, ↓dhG_M_2, ↓dhG_M_3, ↓dhG_M_4, ↓dhG_M_5, ↓dhG_M_6, ↓dhG_M_7, ↓dhG_M_8, ↓dhg_M_9, ↓dhq_M_9, ↓dhG_M_10, ↓dhG_M_11, ↓dhG_M_12, ↓dhg_M_13, ↓dhq_M_13, ↓dhG_M_14, ↓dhg_M_15, ↓dhq_M_15, ↓dhG_M_16, ↓dhg_M_17, ↓dhq_M_17, ↓dhg_M_18, ↓dhq_M_18, ↓dhG_M_19, ↓dhG_M_20, ↓dhG_M_21, ↓dhG_M_22, ↓dhG_M_23, ↓dhG_M_24, ↓dhg_M_25, ↓dhq_M_25, ↓dhG_M_26, ↓dhG_M_27, ↓dhG_M_28, ↓dhg_M_29, ↓dhq_M_29, ↓dhG_M_30, ↓dhG_M_31, ↓dhg_M_32, ↓dhq_M_32, ↓dhg_M_33, ↓dhq_M_33, ↓dhg_M_34, ↓dhq_M_34, ↓dhg_M_35, ↓dhq_M_35, ↓dhG_M_36, ↓dhG_M_37, ↓dhg_M_38, ↓dhq_M_38, ↓dhg_M_39, ↓dhq_M_39, ↓dhG_M_40, ↓dhG_M_41, ↓dhG_M_42, ↓dhG_M_43, ↓dhg_M_44, ↓dhq_M_44, ↓dha_173, ↓dhs_173, ↓dhl_173, Option.bind_some, ↓nm_eq, ↓sm_inl, ↓sm_inr, ↓dzo_0, ↓dzo_1, ↓drg_ok, ↓if_pos, ↓if_neg, if_pos, if_neg, if_true, if_false, Int.toNat_natCast, rg_ok, g13, gk, c1, f_X12_isTail, f_X12_isTerminal, c6']
      · rw [if_neg (by omega), if_pos t0] at c7'
        obtain ⟨p1, p2, p3⟩ := psh (16 + tl t k - 65) (16 + tl t k - 65) (sw_s (by unfold sgd; omega))
        refine ⟨(1, k + 1, gx_u (gx_u J 174 H (16 + tl t k - 65)) 161 15 ((H : Int) + 1)), ?_, ⟨hF.tr p1, by dsimp only; omega, by dsimp only; omega, Or.inl ⟨rfl, by dsimp only; omega, ps, _, _, 3, d, w1, by decide, c4, p2, p3, by rw [c7']; dsimp only; rw [hm']⟩⟩, by dsimp only; omega⟩
        dsimp only
        rw [← go]
        simp (disch := omega) only [l_X12_reads_9, b_X12_reads_9, ↓dhi_M, ↓dhG_M_0, ↓dhG_M_1, ↓dhG_M_2, ↓dhG_M_3, ↓dhG_M_4, ↓dhG_M_5, ↓dhG_M_6, ↓dhG_M_7, ↓dhG_M_8, ↓dhg_M_9, ↓dhq_M_9, ↓dhG_M_10, ↓dhG_M_11, ↓dhG_M_12, ↓dhg_M_13, ↓dhq_M_13, ↓dhG_M_14, ↓dhg_M_15, ↓dhq_M_15, ↓dhG_M_16, ↓dhg_M_17, ↓dhq_M_17, ↓dhg_M_18, ↓dhq_M_18, ↓dhG_M_19, ↓dhG_M_20, ↓dhG_M_21, ↓dhG_M_22, ↓dhG_M_23, ↓dhG_M_24, ↓dhg_M_25, ↓dhq_M_25, ↓dhG_M_26, ↓dhG_M_27, ↓dhG_M_28, ↓dhg_M_29, ↓dhq_M_29, ↓dhG_M_30, ↓dhG_M_31, ↓dhg_M_32, ↓dhq_M_32, ↓dhg_M_33, ↓dhq_M_33, ↓dhg_M_34, ↓dhq_M_34, ↓dhg_M_35, ↓dhq_M_35, ↓dhG_M_36, ↓dhG_M_37, ↓dhg_M_38, ↓dhq_M_38, ↓dhg_M_39, ↓dhq_M_39, ↓dhG_M_40, ↓dhG_M_41, ↓dhG_M_42, ↓dhG_M_43, ↓dhg_M_44, ↓dhq_M_44, ↓dha_173, ↓dhs_173, ↓dhl_173, Option.bind_some, ↓nm_eq, ↓sm_inl, ↓sm_inr, ↓dzo_0, ↓dzo_1, ↓drg_ok, ↓if_pos, ↓if_neg, if_pos, if_neg, if_true, if_false, Int.toNat_natCast, rg_ok, g13, gk, c1, f_X12_isTail, f_X12_isTerminal, b_X12_isTerminal_16, c6']
      · rw [if_neg (by omega), if_neg (by omega), if_pos t0] at c7'
        obtain ⟨p1, p2, p3⟩ := psh (-2) (-1) rfl
        refine ⟨(1, k + 1, gx_u (gx_u J 174 H (-2)) 161 15 ((H : Int) + 1)), ?_, ⟨hF.tr p1, by dsimp only; omega, by dsimp only; omega, Or.inl ⟨rfl, by dsimp only; omega, ps, _, _, 2, d, w1, by decide, c4, p2, p3, by rw [c7']; dsimp only; rw [hm']⟩⟩, by dsimp only; omega⟩
        dsimp only
        rw [← go]
        simp (disch := omega) only [l_X12_reads_9, b_X12_reads_9, ↓dhi_M, ↓dhG_M_0, ↓dhG_M_1, ↓dhG_M_2, ↓dhG_M_3, ↓dhG_M_4, ↓dhG_M_5, ↓dhG_M_6, ↓dhG_M_7, ↓dhG_M_8, ↓dhg_M_9, ↓dhq_M_9, ↓dhG_M_10, ↓dhG_M_11, ↓dhG_M_12, ↓dhg_M_13, ↓dhq_M_13, ↓dhG_M_14, ↓dhg_M_15, ↓dhq_M_15, ↓dhG_M_16, ↓dhg_M_17, ↓dhq_M_17, ↓dhg_M_18, ↓dhq_M_18, ↓dhG_M_19, ↓dhG_M_20, ↓dhG_M_21, ↓dhG_M_22, ↓dhG_M_23, ↓dhG_M_24, ↓dhg_M_25, ↓dhq_M_25, ↓dhG_M_26, ↓dhG_M_27, ↓dhG_M_28, ↓dhg_M_29, ↓dhq_M_29, ↓dhG_M_30, ↓dhG_M_31, ↓dhg_M_32, ↓dhq_M_32, ↓dhg_M_33, ↓dhq_M_33, ↓dhg_M_34, ↓dhq_M_34, ↓dhg_M_35, ↓dhq_M_35, ↓dhG_M_36, ↓dhG_M_37, ↓dhg_M_38, ↓dhq_M_38, ↓dhg_M_39, ↓dhq_M_39, ↓dhG_M_40, ↓dhG_M_41, ↓dhG_M_42, ↓dhG_M_43, ↓dhg_M_44, ↓dhq_M_44, ↓dha_173, ↓dhs_173, ↓dhl_173, Option.bind_some, ↓nm_eq, ↓sm_inl, ↓sm_inr, ↓dzo_0, ↓dzo_1, ↓drg_ok, ↓if_pos, ↓if_neg, if_pos, if_neg, if_true, if_false, Int.toNat_natCast, rg_ok, g13, gk, c1, f_X12_isTail, c6']
      · rw [if_neg (by omega), if_neg (by omega), if_neg (by omega), if_pos t0] at c7'
        obtain ⟨p1, p2, p3⟩ := psh (-1) (-2) rfl
        refine ⟨(1, k + 1, gx_u (gx_u J 174 H (-1)) 161 15 ((H : Int) + 1)), ?_, ⟨hF.tr p1, by dsimp only; omega, by dsimp only; omega, Or.inl ⟨rfl, by dsimp only; omega, ps, _, _, 2, d + 1, w1, by decide, c4, p2, p3, by rw [c7']; dsimp only; rw [hm']⟩⟩, by dsimp only; omega⟩
        dsimp only
        rw [← go]
        simp (disch := omega) only [l_X12_reads_9, b_X12_reads_9, ↓dhi_M, ↓dhG_M_0, ↓dhG_M_1, ↓dhG_M_2, ↓dhG_M_3, ↓dhG_M_4, ↓dhG_M_5, ↓dhG_M_6, ↓dhG_M_7, ↓dhG_M_8, ↓dhg_M_9, ↓dhq_M_9, ↓dhG_M_10, ↓dhG_M_11, ↓dhG_M_12, ↓dhg_M_13, ↓dhq_M_13, ↓dhG_M_14, ↓dhg_M_15, ↓dhq_M_15, ↓dhG_M_16, ↓dhg_M_17, ↓dhq_M_17, ↓dhg_M_18, ↓dhq_M_18, ↓dhG_M_19, ↓dhG_M_20, ↓dhG_M_21, ↓dhG_M_22, ↓dhG_M_23, ↓dhG_M_24, ↓dhg_M_25, ↓dhq_M_25, ↓dhG_M_26, ↓dhG_M_27, ↓dhG_M_28, ↓dhg_M_29, ↓dhq_M_29, ↓dhG_M_30, ↓dhG_M_31, ↓dhg_M_32, ↓dhq_M_32, ↓dhg_M_33, ↓dhq_M_33, ↓dhg_M_34, ↓dhq_M_34, ↓dhg_M_35, ↓dhq_M_35, ↓dhG_M_36, ↓dhG_M_37, ↓dhg_M_38, ↓dhq_M_38, ↓dhg_M_39, ↓dhq_M_39, ↓dhG_M_40, ↓dhG_M_41, ↓dhG_M_42, ↓dhG_M_43, ↓dhg_M_44, ↓dhq_M_44, ↓dha_173, ↓dhs_173, ↓dhl_173, Option.bind_some, ↓nm_eq, ↓sm_inl, ↓sm_inr, ↓dzo_0, ↓dzo_1, ↓drg_ok, ↓if_pos, ↓if_neg, if_pos, if_neg, if_true, if_false, Int.toNat_natCast, rg_ok, g13, gk, c1, f_X12_isTail, c6']
      · rw [if_neg (by omega), if_neg (by omega), if_neg (by omega), if_neg (by omega), if_pos t0] at c7'
        rcases X12_closes (u := u) (L := L) hn c5 g9 c6 (by omega) c2.2.2.2.2.2.1 w1 with ⟨q, J', z1, z2, z3, z4, z5⟩ | ⟨z1, J', psx, z2, z3, z4, z5⟩
        · obtain ⟨hpx, y, hy1, hy2, hy3⟩ := cls_some w1 z1
          refine ⟨(1, k + 1, J'), ?_, ⟨hF.tr z4, by dsimp only; omega, by dsimp only; omega, Or.inl ⟨rfl, by dsimp only; omega, q.1, q.2.1, q.2.2, 3, d - 1, by rw [hy2, hy3]; exact w2 y hy1, by decide, c4.tr hpx, z3, z5, by rw [c7', z1]; dsimp only; rw [hm']⟩⟩, by dsimp only; omega⟩
          simp (disch := omega) only [l_X12_reads_9, b_X12_reads_9, b_X12_reads_149, ↓dhi_M, ↓dhG_M_0, ↓dhG_M_1, ↓dhG_M_2, ↓dhG_M_3, ↓dhG_M_4, ↓dhG_M_5, ↓dhG_M_6, ↓dhG_M_7, ↓dhG_M_8, ↓dhg_M_9, ↓dhq_M_9, ↓dhG_M_10, ↓dhG_M_11, ↓dhG_M_12, ↓dhg_M_13, ↓dhq_M_13, ↓dhG_M_14, ↓dhg_M_15, ↓dhq_M_15, ↓dhG_M_16, ↓dhg_M_17, ↓dhq_M_17, ↓dhg_M_18, ↓dhq_M_18, ↓dhG_M_19, ↓dhG_M_20, ↓dhG_M_21, ↓dhG_M_22, ↓dhG_M_23, ↓dhG_M_24, ↓dhg_M_25, ↓dhq_M_25, ↓dhG_M_26, ↓dhG_M_27, ↓dhG_M_28, ↓dhg_M_29, ↓dhq_M_29, ↓dhG_M_30, ↓dhG_M_31, ↓dhg_M_32, ↓dhq_M_32, ↓dhg_M_33, ↓dhq_M_33, ↓dhg_M_34, ↓dhq_M_34, ↓dhg_M_35, ↓dhq_M_35, ↓dhG_M_36, ↓dhG_M_37, ↓dhg_M_38, ↓dhq_M_38, ↓dhg_M_39, ↓dhq_M_39, ↓dhG_M_40, ↓dhG_M_41, ↓dhG_M_42, ↓dhG_M_43, ↓dhg_M_44, ↓dhq_M_44, ↓dha_173, ↓dhs_173, ↓dhl_173, Option.bind_some, ↓nm_eq, ↓sm_inl, ↓sm_inr, ↓dzo_0, ↓dzo_1, ↓drg_ok, ↓if_pos, ↓if_neg, if_pos, if_neg, if_true, if_false, Int.toNat_natCast, rg_ok, ↓bnd z2, g13, gk, c1, f_X12_isTail, ek]
        · refine ⟨(0, k + 1, J'), ?_, ⟨hF.tr z5, by dsimp only; omega, by dsimp only; omega, Or.inr ⟨rfl, by rw [c7', z1], psx, c4.tr z3, z4⟩⟩, by dsimp only; omega⟩
          simp (disch := omega) only [l_X12_reads_9, b_X12_reads_9, b_X12_reads_149, ↓dhi_M, ↓dhG_M_0, ↓dhG_M_1, ↓dhG_M_2, ↓dhG_M_3, ↓dhG_M_4, ↓dhG_M_5, ↓dhG_M_6, ↓dhG_M_7, ↓dhG_M_8, ↓dhg_M_9, ↓dhq_M_9, ↓dhG_M_10, ↓dhG_M_11, ↓dhG_M_12, ↓dhg_M_13, ↓dhq_M_13, ↓dhG_M_14, ↓dhg_M_15, ↓dhq_M_15, ↓dhG_M_16, ↓dhg_M_17, ↓dhq_M_17, ↓dhg_M_18, ↓dhq_M_18, ↓dhG_M_19, ↓dhG_M_20, ↓dhG_M_21, ↓dhG_M_22, ↓dhG_M_23, ↓dhG_M_24, ↓dhg_M_25, ↓dhq_M_25, ↓dhG_M_26, ↓dhG_M_27, ↓dhG_M_28, ↓dhg_M_29, ↓dhq_M_29, ↓dhG_M_30, ↓dhG_M_31, ↓dhg_M_32, ↓dhq_M_32, ↓dhg_M_33, ↓dhq_M_33, ↓dhg_M_34, ↓dhq_M_34, ↓dhg_M_35, ↓dhq_M_35, ↓dhG_M_36, ↓dhG_M_37, ↓dhg_M_38, ↓dhq_M_38, ↓dhg_M_39, ↓dhq_M_39, ↓dhG_M_40, ↓dhG_M_41, ↓dhG_M_42, ↓dhG_M_43, ↓dhg_M_44, ↓dhq_M_44, ↓dha_173, ↓dhs_173, ↓dhl_173, Option.bind_some, ↓nm_eq, ↓sm_inl, ↓sm_inr, ↓dzo_0, ↓dzo_1, ↓drg_ok, ↓if_pos, ↓if_neg, if_pos, if_neg, if_true, if_false, Int.toNat_natCast, rg_ok, ↓bnd z2, g13, gk, c1, f_X12_isTail, ek]
      · rw [if_neg (by omega), if_neg (by omega), if_neg (by omega), if_neg (by omega), if_neg (by omega), if_pos t0] at c7'
        have htl : f_X12_isTail (tl t k) (hp u J L) = some 1 := by
          have : tl t k = 63 ∨ tl t k = 42 ∨ tl t k = 43 := by omega
          rcases this with z | z | z <;> rw [z] <;> rfl
        rcases X12_stands (u := u) (L := L) hn c5 g9 c6 (by omega) w1 w2 (sg := tl t k) (sep := 0) (by omega) (fun z => by omega) (sp := 0) (fun z => by omega) with ⟨q, J', z1, z2, z3, z4, z5⟩ | ⟨z1, J', psx, z2, z3, z4, z5⟩
        · obtain ⟨hpx, y, hy1, hy2⟩ := wr_some z1
          refine ⟨(1, k + 1, J'), ?_, ⟨hF.tr z4, by dsimp only; omega, by dsimp only; omega, Or.inl ⟨rfl, by dsimp only; omega, q.1, q.2, H, 2, d, by rw [hy2]; exact w3 y hy1, by decide, c4.tr hpx, z3, z5, by rw [c7', z1]; dsimp only; rw [hm']⟩⟩, by dsimp only; omega⟩
          simp (disch := omega) only [l_X12_reads_9, b_X12_reads_9, b_X12_reads_149, ↓dhi_M, ↓dhG_M_0, ↓dhG_M_1, ↓dhG_M_2, ↓dhG_M_3, ↓dhG_M_4, ↓dhG_M_5, ↓dhG_M_6, ↓dhG_M_7, ↓dhG_M_8, ↓dhg_M_9, ↓dhq_M_9, ↓dhG_M_10, ↓dhG_M_11, ↓dhG_M_12, ↓dhg_M_13, ↓dhq_M_13, ↓dhG_M_14, ↓dhg_M_15, ↓dhq_M_15, ↓dhG_M_16, ↓dhg_M_17, ↓dhq_M_17, ↓dhg_M_18, ↓dhq_M_18, ↓dhG_M_19, ↓dhG_M_20, ↓dhG_M_21, ↓dhG_M_22, ↓dhG_M_23, ↓dhG_M_24, ↓dhg_M_25, ↓dhq_M_25, ↓dhG_M_26, ↓dhG_M_27, ↓dhG_M_28, ↓dhg_M_29, ↓dhq_M_29, ↓dhG_M_30, ↓dhG_M_31, ↓dhg_M_32, ↓dhq_M_32, ↓dhg_M_33, ↓dhq_M_33, ↓dhg_M_34, ↓dhq_M_34, ↓dhg_M_35, ↓dhq_M_35, ↓dhG_M_36, ↓dhG_M_37, ↓dhg_M_38, ↓dhq_M_38, ↓dhg_M_39, ↓dhq_M_39, ↓dhG_M_40, ↓dhG_M_41, ↓dhG_M_42, ↓dhG_M_43, ↓dhg_M_44, ↓dhq_M_44, ↓dha_173, ↓dhs_173, ↓dhl_173, Option.bind_some, ↓nm_eq, ↓sm_inl, ↓sm_inr, ↓dzo_0, ↓dzo_1, ↓drg_ok, ↓if_pos, ↓if_neg, if_pos, if_neg, if_true, if_false, Int.toNat_natCast, rg_ok, ↓bnd z2, ↓bnd htl, g13, gk, c1, ek]
        · refine ⟨(0, k + 1, J'), ?_, ⟨hF.tr z5, by dsimp only; omega, by dsimp only; omega, Or.inr ⟨rfl, by rw [c7', z1], psx, c4.tr z3, z4⟩⟩, by dsimp only; omega⟩
          simp (disch := omega) only [l_X12_reads_9, b_X12_reads_9, b_X12_reads_149, ↓dhi_M, ↓dhG_M_0, ↓dhG_M_1, ↓dhG_M_2, ↓dhG_M_3, ↓dhG_M_4, ↓dhG_M_5, ↓dhG_M_6, ↓dhG_M_7, ↓dhG_M_8, ↓dhg_M_9, ↓dhq_M_9, ↓dhG_M_10, ↓dhG_M_11, ↓dhG_M_12, ↓dhg_M_13, ↓dhq_M_13, ↓dhG_M_14, ↓dhg_M_15, ↓dhq_M_15, ↓dhG_M_16, ↓dhg_M_17, ↓dhq_M_17, ↓dhg_M_18, ↓dhq_M_18, ↓dhG_M_19, ↓dhG_M_20, ↓dhG_M_21, ↓dhG_M_22, ↓dhG_M_23, ↓dhG_M_24, ↓dhg_M_25, ↓dhq_M_25, ↓dhG_M_26, ↓dhG_M_27, ↓dhG_M_28, ↓dhg_M_29, ↓dhq_M_29, ↓dhG_M_30, ↓dhG_M_31, ↓dhg_M_32, ↓dhq_M_32, ↓dhg_M_33, ↓dhq_M_33, ↓dhg_M_34, ↓dhq_M_34, ↓dhg_M_35, ↓dhq_M_35, ↓dhG_M_36, ↓dhG_M_37, ↓dhg_M_38, ↓dhq_M_38, ↓dhg_M_39, ↓dhq_M_39, ↓dhG_M_40, ↓dhG_M_41, ↓dhG_M_42, ↓dhG_M_43, ↓dhg_M_44, ↓dhq_M_44, ↓dha_173, ↓dhs_173, ↓dhl_173, Option.bind_some, ↓nm_eq, ↓sm_inl, ↓sm_inr, ↓dzo_0, ↓dzo_1, ↓drg_ok, ↓if_pos, ↓if_neg, if_pos, if_neg, if_true, if_false, Int.toNat_natCast, rg_ok, ↓bnd z2, ↓bnd htl, g13, gk, c1, ek]
      · rw [if_neg (by omega), if_neg (by omega), if_neg (by omega), if_neg (by omega), if_neg (by omega), if_neg (by omega)] at c7'
        obtain ⟨t1, -, -, w5⟩ := vs_4 w4 w3
        have gk1 : J 173 (k + 1) = tl t (k + 1) := by rw [g173]; exact hT.2.1 (k + 1) w3
        have hyc1 := tk_cases (tl t (k + 1))
        obtain ⟨m1, hm1⟩ : ∃ m1, m = m1 + 1 := ⟨m - 1, by omega⟩
        have hm1' : t.length - (k + 2) = m1 := by omega
        rw [hm1] at c7'
        have c8 : rdm (tl t) (t.length - 2) 2 false ps0 (fun _ => 0) 0 = (match wr ps r H 37 (tl t (k + 1) - 97).toNat with | none => none | some q => rdm (tl t) m1 (k + 1 + 1) false q.1 q.2 H) := c7'
        have g37 : tl t k = 37 := by omega
        have ek2 : ((k + 1 : Nat) : Int) + 1 = ((k + 2 : Nat) : Int) := by omega
        rcases X12_stands (u := u) (L := L) hn c5 g9 c6 (by omega) w1 w2 (sg := 37) (sep := tl t (k + 1) - 97) (by omega) (fun z => by omega) (sp := (tl t (k + 1) - 97).toNat) (fun z => rfl) with ⟨q, J', z1, z2, z3, z4, z5⟩ | ⟨z1, J', psx, z2, z3, z4, z5⟩
        · obtain ⟨hpx, y, hy1, hy2⟩ := wr_some z1
          refine ⟨(1, k + 2, J'), ?_, ⟨hF.tr z4, by dsimp only; omega, by dsimp only; omega, Or.inl ⟨rfl, by dsimp only; omega, q.1, q.2, H, 2, d, by rw [hy2]; exact w5 y hy1, by decide, c4.tr hpx, z3, z5, by rw [c8, z1]; dsimp only; rw [hm1']⟩⟩, by dsimp only; omega⟩
          simp (disch := omega) only [l_X12_reads_9, b_X12_reads_9, b_X12_reads_149, ↓dhi_M, ↓dhG_M_0, ↓dhG_M_1, ↓dhG_M_2, ↓dhG_M_3, ↓dhG_M_4, ↓dhG_M_5, ↓dhG_M_6, ↓dhG_M_7, ↓dhG_M_8, ↓dhg_M_9, ↓dhq_M_9, ↓dhG_M_10, ↓dhG_M_11, ↓dhG_M_12, ↓dhg_M_13, ↓dhq_M_13, ↓dhG_M_14, ↓dhg_M_15, ↓dhq_M_15, ↓dhG_M_16, ↓dhg_M_17, ↓dhq_M_17, ↓dhg_M_18, ↓dhq_M_18, ↓dhG_M_19, ↓dhG_M_20, ↓dhG_M_21, ↓dhG_M_22, ↓dhG_M_23, ↓dhG_M_24, ↓dhg_M_25, ↓dhq_M_25, ↓dhG_M_26, ↓dhG_M_27, ↓dhG_M_28, ↓dhg_M_29, ↓dhq_M_29, ↓dhG_M_30, ↓dhG_M_31, ↓dhg_M_32, ↓dhq_M_32, ↓dhg_M_33, ↓dhq_M_33, ↓dhg_M_34, ↓dhq_M_34, ↓dhg_M_35, ↓dhq_M_35, ↓dhG_M_36, ↓dhG_M_37, ↓dhg_M_38, ↓dhq_M_38, ↓dhg_M_39, ↓dhq_M_39, ↓dhG_M_40, ↓dhG_M_41, ↓dhG_M_42, ↓dhG_M_43, ↓dhg_M_44, ↓dhq_M_44, ↓dha_173, ↓dhs_173, ↓dhl_173, Option.bind_some, ↓nm_eq, ↓sm_inl, ↓sm_inr, ↓dzo_0, ↓dzo_1, ↓drg_ok, ↓if_pos, ↓if_neg, if_pos, if_neg, if_true, if_false, Int.toNat_natCast, rg_ok, ↓bnd z2, g13, gk, c1, f_X12_isTail, ek, g37, gk1, ek2]
        · refine ⟨(0, k + 2, J'), ?_, ⟨hF.tr z5, by dsimp only; omega, by dsimp only; omega, Or.inr ⟨rfl, by rw [c8, z1], psx, c4.tr z3, z4⟩⟩, by dsimp only; omega⟩
          simp (disch := omega) only [l_X12_reads_9, b_X12_reads_9, b_X12_reads_149, ↓dhi_M, ↓dhG_M_0, ↓dhG_M_1, ↓dhG_M_2, ↓dhG_M_3, ↓dhG_M_4, ↓dhG_M_5, ↓dhG_M_6, ↓dhG_M_7, ↓dhG_M_8, ↓dhg_M_9, ↓dhq_M_9, ↓dhG_M_10, ↓dhG_M_11, ↓dhG_M_12, ↓dhg_M_13, ↓dhq_M_13, ↓dhG_M_14, ↓dhg_M_15, ↓dhq_M_15, ↓dhG_M_16, ↓dhg_M_17, ↓dhq_M_17, ↓dhg_M_18, ↓dhq_M_18, ↓dhG_M_19, ↓dhG_M_20, ↓dhG_M_21, ↓dhG_M_22, ↓dhG_M_23, ↓dhG_M_24, ↓dhg_M_25, ↓dhq_M_25, ↓dhG_M_26, ↓dhG_M_27, ↓dhG_M_28, ↓dhg_M_29, ↓dhq_M_29, ↓dhG_M_30, ↓dhG_M_31, ↓dhg_M_32, ↓dhq_M_32, ↓dhg_M_33, ↓dhq_M_33, ↓dhg_M_34, ↓dhq_M_34, ↓dhg_M_35, ↓dhq_M_35, ↓dhG_M_36, ↓dhG_M_37, ↓dhg_M_38, ↓dhq_M_38, ↓dhg_M_39, ↓dhq_M_39, ↓dhG_M_40, ↓dhG_M_41, ↓dhG_M_42, ↓dhG_M_43, ↓dhg_M_44, ↓dhq_M_44, ↓dha_173, ↓dhs_173, ↓dhl_173, Option.bind_some, ↓nm_eq, ↓sm_inl, ↓sm_inr, ↓dzo_0, ↓dzo_1, ↓drg_ok, ↓if_pos, ↓if_neg, if_pos, if_neg, if_true, if_false, Int.toNat_natCast, rg_ok, ↓bnd z2, g13, gk, c1, f_X12_isTail, ek, g37, gk1, ek2]
    · left
      have eN : k = t.length := by omega
      subst eN
      rw [Nat.sub_self] at c7
      obtain ⟨-, hrr⟩ := vs_end c2
      have hyc := tk_cases (tl t 0)
      have g0 : J 173 0 = tl t 0 := by rw [g173]; exact hT.2.1 0 (by omega)
      have e0 : (((tl t 0 - 65).toNat : Nat) : Int) = tl t 0 - 65 := by omega
      have hfin' := hfin (aa (tl t 0 - 65).toNat r H ps 0 0) (Or.inl ⟨(ps, r, H), c7, rfl⟩)
      rcases X12_addsAll (u := u) (L := L) hn c5 g9 c6 (by have := c2.2.2.2.2.2.2.2; omega) (a := 0) (o := (tl t 0 - 65).toNat) (by omega) (fun i _ hi => hrr i hi) (by omega) with ⟨ps', J1, a1, a2, a3, a4, a5, a6⟩ | ⟨a1, J1, psx, a2, a3, a4, a5, a6, a7⟩
      · rw [e0] at a2
        have a2' : f_X12_addsAll n 161 (tl t 0 - 65) 0 (hp u J L) = some (1, hp u J1 L) := a2
        refine Or.inl ⟨ps', J1, hfin'.trans a1, ?_, a3, hF.tr a4⟩
        simp (disch := omega) only [l_X12_reads_9, b_X12_reads_9, b_X12_reads_155, ↓dhi_M, ↓dhG_M_0, ↓dhG_M_1, ↓dhG_M_2, ↓dhG_M_3, ↓dhG_M_4, ↓dhG_M_5, ↓dhG_M_6, ↓dhG_M_7, ↓dhG_M_8, ↓dhg_M_9, ↓dhq_M_9, ↓dhG_M_10, ↓dhG_M_11, ↓dhG_M_12, ↓dhg_M_13, ↓dhq_M_13, ↓dhG_M_14, ↓dhg_M_15, ↓dhq_M_15, ↓dhG_M_16, ↓dhg_M_17, ↓dhq_M_17, ↓dhg_M_18, ↓dhq_M_18, ↓dhG_M_19, ↓dhG_M_20, ↓dhG_M_21, ↓dhG_M_22, ↓dhG_M_23, ↓dhG_M_24, ↓dhg_M_25, ↓dhq_M_25, ↓dhG_M_26, ↓dhG_M_27, ↓dhG_M_28, ↓dhg_M_29, ↓dhq_M_29, ↓dhG_M_30, ↓dhG_M_31, ↓dhg_M_32, ↓dhq_M_32, ↓dhg_M_33, ↓dhq_M_33, ↓dhg_M_34, ↓dhq_M_34, ↓dhg_M_35, ↓dhq_M_35, ↓dhG_M_36, ↓dhG_M_37, ↓dhg_M_38, ↓dhq_M_38, ↓dhg_M_39, ↓dhq_M_39, ↓dhG_M_40, ↓dhG_M_41, ↓dhG_M_42, ↓dhG_M_43, ↓dhg_M_44, ↓dhq_M_44, ↓dha_173, ↓dhs_173, ↓dhl_173, Option.bind_some, ↓nm_eq, ↓sm_inl, ↓sm_inr, ↓dzo_0, ↓dzo_1, ↓drg_ok, ↓if_pos, ↓if_neg, if_pos, if_neg, if_true, if_false, Int.toNat_natCast, rg_ok, g13, c1, tn0, g0, a2']
      · rw [e0] at a2
        have a2' : f_X12_addsAll n 161 (tl t 0 - 65) 0 (hp u J L) = some (0, hp u J1 L) := a2
        refine Or.inr ⟨hfin'.trans a1, J1, psx, ?_, c4.tr a3, a4, hF.tr a5⟩
        simp (disch := omega) only [l_X12_reads_9, b_X12_reads_9, b_X12_reads_155, b_X12_reads_180, ↓dhi_M, ↓dhG_M_0, ↓dhG_M_1, ↓dhG_M_2, ↓dhG_M_3, ↓dhG_M_4, ↓dhG_M_5, ↓dhG_M_6, ↓dhG_M_7, ↓dhG_M_8, ↓dhg_M_9, ↓dhq_M_9, ↓dhG_M_10, ↓dhG_M_11, ↓dhG_M_12, ↓dhg_M_13, ↓dhq_M_13, ↓dhG_M_14, ↓dhg_M_15, ↓dhq_M_15, ↓dhG_M_16, ↓dhg_M_17, ↓dhq_M_17, ↓dhg_M_18, ↓dhq_M_18, ↓dhG_M_19, ↓dhG_M_20, ↓dhG_M_21, ↓dhG_M_22, ↓dhG_M_23, ↓dhG_M_24, ↓dhg_M_25, ↓dhq_M_25, ↓dhG_M_26, ↓dhG_M_27, ↓dhG_M_28, ↓dhg_M_29, ↓dhq_M_29, ↓dhG_M_30, ↓dhG_M_31, ↓dhg_M_32, ↓dhq_M_32, ↓dhg_M_33, ↓dhq_M_33, ↓dhg_M_34, ↓dhq_M_34, ↓dhg_M_35, ↓dhq_M_35, ↓dhG_M_36, ↓dhG_M_37, ↓dhg_M_38, ↓dhq_M_38, ↓dhg_M_39, ↓dhq_M_39, ↓dhG_M_40, ↓dhG_M_41, ↓dhG_M_42, ↓dhG_M_43, ↓dhg_M_44, ↓dhq_M_44, ↓dha_173, ↓dhs_173, ↓dhl_173, Option.bind_some, ↓nm_eq, ↓sm_inl, ↓sm_inr, ↓dzo_0, ↓dzo_1, ↓drg_ok, ↓if_pos, ↓if_neg, if_pos, if_neg, if_true, if_false, Int.toNat_natCast, rg_ok, g13, c1, tn0, g0, a2']
  · left
    refine Or.inr ⟨hfin none (Or.inr ⟨c2, rfl⟩), J, psx, ?_, c3, c4, hF⟩
    by_cases hk : k < t.length <;> simp (disch := omega) only [l_X12_reads_9, b_X12_reads_9, b_X12_reads_155, b_X12_reads_180, ↓dhi_M, ↓dhG_M_0, ↓dhG_M_1, ↓dhG_M_2, ↓dhG_M_3, ↓dhG_M_4, ↓dhG_M_5, ↓dhG_M_6, ↓dhG_M_7, ↓dhG_M_8, ↓dhg_M_9, ↓dhq_M_9, ↓dhG_M_10, ↓dhG_M_11, ↓dhG_M_12, ↓dhg_M_13, ↓dhq_M_13, ↓dhG_M_14, ↓dhg_M_15, ↓dhq_M_15, ↓dhG_M_16, ↓dhg_M_17, ↓dhq_M_17, ↓dhg_M_18, ↓dhq_M_18, ↓dhG_M_19, ↓dhG_M_20, ↓dhG_M_21, ↓dhG_M_22, ↓dhG_M_23, ↓dhG_M_24, ↓dhg_M_25, ↓dhq_M_25, ↓dhG_M_26, ↓dhG_M_27, ↓dhG_M_28, ↓dhg_M_29, ↓dhq_M_29, ↓dhG_M_30, ↓dhG_M_31, ↓dhg_M_32, ↓dhq_M_32, ↓dhg_M_33, ↓dhq_M_33, ↓dhg_M_34, ↓dhq_M_34, ↓dhg_M_35, ↓dhq_M_35, ↓dhG_M_36, ↓dhG_M_37, ↓dhg_M_38, ↓dhq_M_38, ↓dhg_M_39, ↓dhq_M_39, ↓dhG_M_40, ↓dhG_M_41, ↓dhG_M_42, ↓dhG_M_43, ↓dhg_M_44, ↓dhq_M_44, Option.bind_some, ↓nm_eq, ↓sm_inl, ↓sm_inr, ↓dzo_0, ↓dzo_1, ↓drg_ok, ↓if_pos, ↓if_neg, if_pos, if_neg, if_true, if_false, Int.toNat_natCast, rg_ok, g13, c1]
end QC
