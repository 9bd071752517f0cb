/-! ===== the reference: spreads ===== -/
section SQ_
variable {u : Nat} {n : Nat} {L : Nat → Nat → Int} {g : GT} {N : Nat → Prop} {F : Nat → Nat → Prop}
theorem fin_rg (hg : GR g) (hb : Sb (FIN g N F true) = false) {s x : Nat} (hs : s < Sn (FIN g N F true)) (hx : x < 24) : -1 ≤ Sm (FIN g N F true) s x ∧ Sm (FIN g N F true) s x < 80 := by
  have hP := PB_bfi (N := N) (F := F) (b := true) hg 1920
  have hs80 : s < 80 := Nat.lt_of_lt_of_le hs hP.2.1
  have h80 : Sn (FIN g N F true) ≤ 80 := hP.2.1
  rcases hP.2.2.2.2.2.2.1 hb s x hs hx (by omega) with ⟨w, -⟩ | ⟨t, w1, w2, -⟩
  · have e : Sm (FIN g N F true) s x = -1 := w
    omega
  · have e : Sm (FIN g N F true) s x = (t : Int) := w1
    have e2 : t < Sn (FIN g N F true) := w2
    omega
def pz (g : GT) (q : Nat) : Nat := if q = Gn g then 24 else q
theorem pz_v {g : GT} {q : Nat} (h : q ≤ Gn g) : pv g (pz g q) := by
  unfold pz; split
  · exact Or.inr rfl
  · exact Or.inl (by omega)
theorem pz_s {g : GT} (hg : GR g) {p : Nat} (h : pv g p) : ∃ q, q ≤ Gn g ∧ pz g q = p := by
  by_cases e : p = 24
  · exact ⟨Gn g, Nat.le_refl _, by rw [e]; exact if_pos rfl⟩
  · have hp : p < Gn g := h.elim id (fun z => absurd z e)
    exact ⟨p, by omega, if_neg (by omega)⟩
def SPI (g : GT) (N : Nat → Prop) (F : Nat → Nat → Prop) (t : Nat) (J0 J : Nat → Nat → Int) (fl : Int) (Q : Nat → Nat → Prop) : Prop :=
  Fr [183] J0 J ∧ RVM g N F J ∧ (∀ s, s < Sn (FIN g N F true) → sAS (rst g s J0) (rst g s J)) ∧
  ((fl = 0 ∧ J = J0 ∧ ∀ p k, Q p k → EDG g N F t J0 p k) ∨ (fl = 1 ∧ mT g (Sn (FIN g N F true)) J0 < mT g (Sn (FIN g N F true)) J))
theorem X12_spreads (hn : 1000000000000000000000000000000 ≤ n) (hb : Sb (FIN g N F true) = false) {J0 : Nat → Nat → Int} (w : RX g N F J0) (hu : NU g J0) (h0 : RVM g N F J0) {t : Nat} (ht : t < Sn (FIN g N F true)) :
    ∃ (r : Int) (J : Nat → Nat → Int), f_X12_spreads n 161 (t : Int) (hp u J0 L) = some (r, hp u J L) ∧ SPI g N F t J0 J r (fun p _ => pv g p) := by
  have hg := w.1.gr
  have h24 := hg.1
  have h80 : Sn (FIN g N F true) ≤ 80 := (PB_bfi (N := N) (F := F) (b := true) hg 1920).2.1
  have hfrA : ∀ J, Fr [183] J0 J → RX g N F J ∧ NU g J := fun J f => by
    have q61 : J 161 = J0 161 := f 161 (by simp)
    exact ⟨w.fr f ⟨by rw [q61], by rw [q61]⟩ (by simp), hu.fr (f 181 (by simp)) (by rw [q61])⟩
  have inn : ∀ (r4 : Nat → Int → Int → Int → gi_H → Option (Int × gi_H)) (q : Nat), q ≤ Gn g → zLP (Gl (gX g) (pz g q)) (fun f k (s : Int × (Nat → Nat → Int)) => l_X12_spreads_41 n r4 f 161 (t : Int) s.1 (q : Int) (pz g q : Int) (k : Int) (hp u s.2 L))
      (fun k s => SPI g N F t J0 s.2 s.1 (fun p k' => ∃ q', q' ≤ Gn g ∧ p = pz g q' ∧ (q' < q ∨ (q' = q ∧ k' < k))))
      (fun res => ∃ (fl : Int) (J : Nat → Nat → Int), res = r4 161 (t : Int) fl ((q + 1 : Nat) : Int) (hp u J L) ∧ SPI g N F t J0 J fl (fun p _ => ∃ q', q' ≤ Gn g ∧ p = pz g q' ∧ q' < q + 1)) := by
    intro r4 q hq
    have hv := pz_v (g := g) hq
    have hinj : ∀ q', q' ≤ Gn g → pz g q' = pz g q → q' = q := fun q' hq' e => by
      unfold pz at e
      repeat' split at e
      all_goals omega
    have hp24 : pz g q ≤ 24 := by rcases hv with z | z <;> omega
    generalize hpe : pz g q = p at *
    refine zlp ?_ ?_
    · rintro f k ⟨fl, J⟩ hk ⟨f1, f2, f3, f4⟩
      dsimp only at f1 f2 f3 f4 ⊢
      right
      obtain ⟨wJ, uJ⟩ := hfrA J f1
      have esz := rx_size (u := u) (L := L) wJ.1 hv
      have es := rx_symbol (u := u) (L := L) wJ.1 hk
      have hsr := gX_sr hg hk
      have eix := X12_index hsr (hp u J L)
      have hx24 := zix_lt hsr
      have e8 := uJ.at hv
      have hvk : vI g p k := ⟨hv, by omega⟩
      have hvk1 : vI g p (k + 1) := ⟨hv, by omega⟩
      have hfo := fo_rg hg hvk1
      have hl5 := gX_l5 hg p
      have ek : (k : Int) + 1 = ((k + 1 : Nat) : Int) := by omega
      have er := ra (u := u) (L := L) (A := 183) (len := 11680) (Or.inr ⟨Or.inl rfl, rfl⟩) (J := J) (i := 146 * (t : Int) + (fo g p : Int) + (k : Int)) (by omega) (by omega)
      have ei : (146 * (t : Int) + (fo g p : Int) + (k : Int)).toNat = ar g (146 * t) p k := by unfold ar; omega
      rw [ei] at er
      have eg := rga (u := u) (L := L) true (J := J) (i := 24 * (t : Int) + (zix (Gs (gX g) p k) : Int)) (by omega) (by omega)
      have ei2 : (24 * (t : Int) + (zix (Gs (gX g) p k) : Int)).toNat = 24 * t + zix (Gs (gX g) p k) := by omega
      rw [ei2] at eg
      have eg' : gi_aI (hp u J L) 1 184 (24 * (t : Int) + (zix (Gs (gX g) p k) : Int)) = some (J 184 (24 * t + zix (Gs (gX g) p k))) := eg
      rw [f2.2.2 t _ ht hx24] at eg'
      have hrgm := fin_rg hg hb ht hx24
      have hrg : -2147483648 ≤ gi_and (J 183 (ar g (146 * t) p k)) 512 ∧ gi_and (J 183 (ar g (146 * t) p k)) 512 ≤ 2147483647 := and512_rg
      have h512 := bt_and512 (x := J 183 (ar g (146 * t) p k))
      by_cases c9 : bt (J 183 (ar g (146 * t) p k)) 9 = true
      · have n512 : gi_and (J 183 (ar g (146 * t) p k)) 512 ≠ 0 := fun z => by rw [h512.mp z] at c9; exact absurd c9 (by decide)
        have h9 : rst g t J p k 9 := ⟨hvk, c9⟩
        obtain ⟨t', m1, m2, m3⟩ := fin_go hg hb ht (((f2.1 t ht).2.1 p k).mp h9) hk
        obtain ⟨g1, g2, g3⟩ := wid_sp hg hb f2 ht m2 hk h9 m1 rfl
        have hRok : gi_ok (J 183 (ar g (146 * t') p (k + 1))) := ((f2.1 t' m2).1 _ _ hvk1).1
        have hRok' : -2147483648 ≤ J 183 (ar g (146 * t') p (k + 1)) ∧ J 183 (ar g (146 * t') p (k + 1)) ≤ 2147483647 := hRok
        have horg : -2147483648 ≤ gi_or (J 183 (ar g (146 * t') p (k + 1))) (J 183 (ar g (146 * t) p k)) ∧ gi_or (J 183 (ar g (146 * t') p (k + 1))) (J 183 (ar g (146 * t) p k)) ≤ 2147483647 := bt_ok_or _ _
        have e30 : 146 * (t' : Int) + (fo g p : Int) + (k : Int) + 1 = ((ar g (146 * t') p (k + 1) : Nat) : Int) := by unfold ar; omega
        have hlt : ar g (146 * t') p (k + 1) < 11680 := by unfold ar; omega
        have er2 := ra (u := u) (L := L) (A := 183) (len := 11680) (Or.inr ⟨Or.inl rfl, rfl⟩) (J := J) (i := ((ar g (146 * t') p (k + 1) : Nat) : Int)) (by omega) (by omega)
        rw [Int.toNat_natCast] at er2
        rw [m1] at eg'
        rcases g3 with ⟨y1, y2⟩ | ⟨y1, y2⟩
        · refine ⟨(fl, J), ?_, f1, f2, f3, ?_⟩
          · dsimp only
            simp (disch := omega) only [l_X12_spreads_41, b_X12_spreads_41, b_X12_spreads_162, ↓dhi_M, ↓dhG_M_0, ↓dhG_M_1, ↓dhG_M_2, ↓dhG_M_3, ↓dhG_M_4, ↓dhG_M_5, ↓dhG_M_6, ↓dhG_M_7, ↓dhG_M_8, ↓dhg_M_9, ↓dhq_M_9, ↓dhG_M_10, ↓dhG_M_11, ↓dhG_M_12, ↓dhg_M_13, ↓dhq_M_13, ↓dhG_M_14, ↓dhg_M_15, ↓dhq_M_15, ↓dhG_M_16, ↓dhg_M_17, ↓dhq_M_17, ↓dhg_M_18, ↓dhq_M_18, ↓dhG_M_19, ↓dhG_M_20, ↓dhG_M_21, ↓dhG_M_22, ↓dhG_M_23, ↓dhG_M_24, ↓dhg_M_25, ↓dhq_M_25, ↓dhG_M_26, ↓dhG_M_27, ↓dhG_M_28, ↓dhg_M_29, ↓dhq_M_29, ↓dhG_M_30, ↓dhG_M_31, ↓dhg_M_32, ↓dhq_M_32, ↓dhg_M_33, ↓dhq_M_33, ↓dhg_M_34, ↓dhq_M_34, ↓dhg_M_35, ↓dhq_M_35, ↓dhG_M_36, ↓dhG_M_37, ↓dhg_M_38, ↓dhq_M_38, ↓dhg_M_39, ↓dhq_M_39, ↓dhG_M_40, ↓dhG_M_41, ↓dhG_M_42, ↓dhG_M_43, ↓dhg_M_44, ↓dhq_M_44, ↓dha_181, ↓dhs_181, ↓dhl_181, Option.bind_some, ↓nm_eq, ↓sm_inl, ↓sm_inr, ↓dzo_0, ↓dzo_1, ↓drg_ok, ↓if_pos, ↓if_neg, if_pos, if_neg, if_true, if_false, Int.toNat_natCast, rg_ok, ↓bnd esz, ↓bnd es, ↓bnd eix, ↓bnd er, e8, ↓bnd eg', e30, ↓bnd er2, y1, ek]
          · dsimp only
            rcases f4 with ⟨z1, z2, z3⟩ | z
            · left
              refine ⟨z1, z2, fun p' k' hQ => ?_⟩
              obtain ⟨q', q1, q2, q3⟩ := hQ
              by_cases c : q' = q ∧ k' = k
              · rw [q2, c.1, hpe, c.2, ← z2]; exact y2
              · exact z3 p' k' ⟨q', q1, q2, by omega⟩
            · exact Or.inr z
        · have ers := rs1 (u := u) (L := L) (A := 183) (len := 11680) (Or.inr ⟨Or.inl rfl, rfl⟩) (J := J) (i := ((ar g (146 * t') p (k + 1) : Nat) : Int)) (x := gi_or (J 183 (ar g (146 * t') p (k + 1))) (J 183 (ar g (146 * t) p k))) (by omega) (by omega)
          rw [Int.toNat_natCast] at ers
          refine ⟨(1, gx_u J 183 (ar g (146 * t') p (k + 1)) (gi_or (J 183 (ar g (146 * t') p (k + 1))) (J 183 (ar g (146 * t) p k)))), ?_, f1.wr (by simp), g1, fun s hs a b c z => g2 s hs a b c (f3 s hs a b c z), Or.inr ⟨rfl, ?_⟩⟩
          · dsimp only
            simp (disch := omega) only [l_X12_spreads_41, b_X12_spreads_41, b_X12_spreads_162, ↓dhi_M, ↓dhG_M_0, ↓dhG_M_1, ↓dhG_M_2, ↓dhG_M_3, ↓dhG_M_4, ↓dhG_M_5, ↓dhG_M_6, ↓dhG_M_7, ↓dhG_M_8, ↓dhg_M_9, ↓dhq_M_9, ↓dhG_M_10, ↓dhG_M_11, ↓dhG_M_12, ↓dhg_M_13, ↓dhq_M_13, ↓dhG_M_14, ↓dhg_M_15, ↓dhq_M_15, ↓dhG_M_16, ↓dhg_M_17, ↓dhq_M_17, ↓dhg_M_18, ↓dhq_M_18, ↓dhG_M_19, ↓dhG_M_20, ↓dhG_M_21, ↓dhG_M_22, ↓dhG_M_23, ↓dhG_M_24, ↓dhg_M_25, ↓dhq_M_25, ↓dhG_M_26, ↓dhG_M_27, ↓dhG_M_28, ↓dhg_M_29, ↓dhq_M_29, ↓dhG_M_30, ↓dhG_M_31, ↓dhg_M_32, ↓dhq_M_32, ↓dhg_M_33, ↓dhq_M_33, ↓dhg_M_34, ↓dhq_M_34, ↓dhg_M_35, ↓dhq_M_35, ↓dhG_M_36, ↓dhG_M_37, ↓dhg_M_38, ↓dhq_M_38, ↓dhg_M_39, ↓dhq_M_39, ↓dhG_M_40, ↓dhG_M_41, ↓dhG_M_42, ↓dhG_M_43, ↓dhg_M_44, ↓dhq_M_44, ↓dha_181, ↓dhs_181, ↓dhl_181, Option.bind_some, ↓nm_eq, ↓sm_inl, ↓sm_inr, ↓dzo_0, ↓dzo_1, ↓drg_ok, ↓if_pos, ↓if_neg, if_pos, if_neg, if_true, if_false, Int.toNat_natCast, rg_ok, ↓bnd esz, ↓bnd es, ↓bnd eix, ↓bnd er, e8, ↓bnd eg', e30, ↓bnd er2, y1, ↓bnd ers, ek]
          · exact Nat.lt_of_le_of_lt (mT_mono f3) y2
      · have c9' : bt (J 183 (ar g (146 * t) p k)) 9 = false := by cases h : bt (J 183 (ar g (146 * t) p k)) 9 with
          | true => exact absurd h c9
          | false => rfl
        have n512 := h512.mpr c9'
        refine ⟨(fl, J), ?_, f1, f2, f3, ?_⟩
        · dsimp only
          simp (disch := omega) only [l_X12_spreads_41, b_X12_spreads_41, b_X12_spreads_162, ↓dhi_M, ↓dhG_M_0, ↓dhG_M_1, ↓dhG_M_2, ↓dhG_M_3, ↓dhG_M_4, ↓dhG_M_5, ↓dhG_M_6, ↓dhG_M_7, ↓dhG_M_8, ↓dhg_M_9, ↓dhq_M_9, ↓dhG_M_10, ↓dhG_M_11, ↓dhG_M_12, ↓dhg_M_13, ↓dhq_M_13, ↓dhG_M_14, ↓dhg_M_15, ↓dhq_M_15, ↓dhG_M_16, ↓dhg_M_17, ↓dhq_M_17, ↓dhg_M_18, ↓dhq_M_18, ↓dhG_M_19, ↓dhG_M_20, ↓dhG_M_21, ↓dhG_M_22, ↓dhG_M_23, ↓dhG_M_24, ↓dhg_M_25, ↓dhq_M_25, ↓dhG_M_26, ↓dhG_M_27, ↓dhG_M_28, ↓dhg_M_29, ↓dhq_M_29, ↓dhG_M_30, ↓dhG_M_31, ↓dhg_M_32, ↓dhq_M_32, ↓dhg_M_33, ↓dhq_M_33, ↓dhg_M_34, ↓dhq_M_34, ↓dhg_M_35, ↓dhq_M_35, ↓dhG_M_36, ↓dhG_M_37, ↓dhg_M_38, ↓dhq_M_38, ↓dhg_M_39, ↓dhq_M_39, ↓dhG_M_40, ↓dhG_M_41, ↓dhG_M_42, ↓dhG_M_43, ↓dhg_M_44, ↓dhq_M_44, ↓dha_181, ↓dhs_181, ↓dhl_181, Option.bind_some, ↓nm_eq, ↓sm_inl, ↓sm_inr, ↓dzo_0, ↓dzo_1, ↓drg_ok, ↓if_pos, ↓if_neg, if_pos, if_neg, if_true, if_false, Int.toNat_natCast, rg_ok, ↓bnd esz, ↓bnd es, ↓bnd eix, ↓bnd er, e8, ↓bnd eg', n512, ek]
        · dsimp only
          rcases f4 with ⟨z1, z2, z3⟩ | z
          · left
            refine ⟨z1, z2, fun p' k' hQ => ?_⟩
            obtain ⟨q', q1, q2, q3⟩ := hQ
            by_cases c : q' = q ∧ k' = k
            · rw [q2, c.1, hpe, c.2, ← z2]; exact fun z => absurd z.2 c9
            · exact z3 p' k' ⟨q', q1, q2, by omega⟩
          · exact Or.inr z
    · rintro f ⟨fl, J⟩ ⟨f1, f2, f3, f4⟩
      dsimp only at f1 f2 f3 f4 ⊢
      obtain ⟨wJ, uJ⟩ := hfrA J f1
      have esz := rx_size (u := u) (L := L) wJ.1 hv
      have hl5 := gX_l5 hg p
      have ek : (q : Int) + 1 = ((q + 1 : Nat) : Int) := by omega
      refine ⟨fl, J, ?_, f1, f2, f3, ?_⟩
      · simp (disch := omega) only [l_X12_spreads_41, b_X12_spreads_41, b_X12_spreads_168, ↓dhi_M, ↓dhG_M_0, ↓dhG_M_1, ↓dhG_M_2, ↓dhG_M_3, ↓dhG_M_4, ↓dhG_M_5, ↓dhG_M_6, ↓dhG_M_7, ↓dhG_M_8, ↓dhg_M_9, ↓dhq_M_9, ↓dhG_M_10, ↓dhG_M_11, ↓dhG_M_12, ↓dhg_M_13, ↓dhq_M_13, ↓dhG_M_14, ↓dhg_M_15, ↓dhq_M_15, ↓dhG_M_16, ↓dhg_M_17, ↓dhq_M_17, ↓dhg_M_18, ↓dhq_M_18, ↓dhG_M_19, ↓dhG_M_20, ↓dhG_M_21, ↓dhG_M_22, ↓dhG_M_23, ↓dhG_M_24, ↓dhg_M_25, ↓dhq_M_25, ↓dhG_M_26, ↓dhG_M_27, ↓dhG_M_28, ↓dhg_M_29, ↓dhq_M_29, ↓dhG_M_30, ↓dhG_M_31, ↓dhg_M_32, ↓dhq_M_32, ↓dhg_M_33, ↓dhq_M_33, ↓dhg_M_34, ↓dhq_M_34, ↓dhg_M_35, ↓dhq_M_35, ↓dhG_M_36, ↓dhG_M_37, ↓dhg_M_38, ↓dhq_M_38, ↓dhg_M_39, ↓dhq_M_39, ↓dhG_M_40, ↓dhG_M_41, ↓dhG_M_42, ↓dhG_M_43, ↓dhg_M_44, ↓dhq_M_44, Option.bind_some, ↓nm_eq, ↓sm_inl, ↓sm_inr, ↓dzo_0, ↓dzo_1, ↓drg_ok, ↓if_pos, ↓if_neg, if_pos, if_neg, if_true, if_false, Int.toNat_natCast, rg_ok, ↓bnd esz, ek]
      · rcases f4 with ⟨z1, z2, z3⟩ | z
        · left
          refine ⟨z1, z2, fun p' k' hQ => ?_⟩
          obtain ⟨q', q1, q2, q3⟩ := hQ
          by_cases c : q' = q ∧ Gl (gX g) p ≤ k'
          · intro _ hk'
            rw [q2, c.1, hpe] at hk'; omega
          · exact z3 p' k' ⟨q', q1, q2, by omega⟩
        · exact Or.inr z
  have out : zLP (Gn g + 1) (fun f q (s : Int × (Nat → Nat → Int)) => l_X12_spreads_4 n f 161 (t : Int) s.1 (q : Int) (hp u s.2 L))
      (fun q s => SPI g N F t J0 s.2 s.1 (fun p _ => ∃ q', q' ≤ Gn g ∧ p = pz g q' ∧ q' < q))
      (fun res => ∃ (r : Int) (J : Nat → Nat → Int), res = some (r, hp u J L) ∧ SPI g N F t J0 J r (fun p _ => pv g p)) := by
    refine zlp ?_ ?_
    · rintro f q ⟨fl, J⟩ hq ⟨f1, f2, f3, f4⟩
      dsimp only at f1 f2 f3 f4 ⊢
      right
      obtain ⟨wJ, uJ⟩ := hfrA J f1
      have h9 := re_w wJ.1
      have hnn := re_n wJ.1
      have hl5 := gX_l5 hg (pz g q)
      obtain ⟨fl', J', e, q2⟩ := inn (l_X12_spreads_4 n f) q (by omega) (Gl (gX g) (pz g q)) n 0 (fl, J) (by omega) (by omega) ⟨f1, f2, f3, f4.elim (fun ⟨a, b, c⟩ => Or.inl ⟨a, b, fun p k ⟨q', z1, z2, z3⟩ => c p k ⟨q', z1, z2, by omega⟩⟩) Or.inr⟩
      have e' : l_X12_spreads_41 n (l_X12_spreads_4 n f) n 161 (t : Int) fl (q : Int) (pz g q : Int) 0 (hp u J L) = l_X12_spreads_4 n f 161 (t : Int) fl' ((q + 1 : Nat) : Int) (hp u J' L) := e
      refine ⟨(fl', J'), ?_, q2⟩
      dsimp only
      rw [← e']
      unfold pz
      by_cases c : q = Gn g
      · rw [if_pos c, c]
        simp (disch := omega) only [l_X12_spreads_4, b_X12_spreads_4, b_X12_spreads_36, ↓dhi_M, ↓dhG_M_0, ↓dhG_M_1, ↓dhG_M_2, ↓dhG_M_3, ↓dhG_M_4, ↓dhG_M_5, ↓dhG_M_6, ↓dhG_M_7, ↓dhG_M_8, ↓dhg_M_9, ↓dhq_M_9, ↓dhG_M_10, ↓dhG_M_11, ↓dhG_M_12, ↓dhg_M_13, ↓dhq_M_13, ↓dhG_M_14, ↓dhg_M_15, ↓dhq_M_15, ↓dhG_M_16, ↓dhg_M_17, ↓dhq_M_17, ↓dhg_M_18, ↓dhq_M_18, ↓dhG_M_19, ↓dhG_M_20, ↓dhG_M_21, ↓dhG_M_22, ↓dhG_M_23, ↓dhG_M_24, ↓dhg_M_25, ↓dhq_M_25, ↓dhG_M_26, ↓dhG_M_27, ↓dhG_M_28, ↓dhg_M_29, ↓dhq_M_29, ↓dhG_M_30, ↓dhG_M_31, ↓dhg_M_32, ↓dhq_M_32, ↓dhg_M_33, ↓dhq_M_33, ↓dhg_M_34, ↓dhq_M_34, ↓dhg_M_35, ↓dhq_M_35, ↓dhG_M_36, ↓dhG_M_37, ↓dhg_M_38, ↓dhq_M_38, ↓dhg_M_39, ↓dhq_M_39, ↓dhG_M_40, ↓dhG_M_41, ↓dhG_M_42, ↓dhG_M_43, ↓dhg_M_44, ↓dhq_M_44, ↓dha_165, ↓dhs_165, ↓dhl_165, Option.bind_some, ↓nm_eq, ↓sm_inl, ↓sm_inr, ↓dzo_0, ↓dzo_1, ↓drg_ok, ↓if_pos, ↓if_neg, if_pos, if_neg, if_true, if_false, Int.toNat_natCast, rg_ok, h9.1, hnn]
        rfl
      · rw [if_neg c]
        simp (disch := omega) only [l_X12_spreads_4, b_X12_spreads_4, b_X12_spreads_36, ↓dhi_M, ↓dhG_M_0, ↓dhG_M_1, ↓dhG_M_2, ↓dhG_M_3, ↓dhG_M_4, ↓dhG_M_5, ↓dhG_M_6, ↓dhG_M_7, ↓dhG_M_8, ↓dhg_M_9, ↓dhq_M_9, ↓dhG_M_10, ↓dhG_M_11, ↓dhG_M_12, ↓dhg_M_13, ↓dhq_M_13, ↓dhG_M_14, ↓dhg_M_15, ↓dhq_M_15, ↓dhG_M_16, ↓dhg_M_17, ↓dhq_M_17, ↓dhg_M_18, ↓dhq_M_18, ↓dhG_M_19, ↓dhG_M_20, ↓dhG_M_21, ↓dhG_M_22, ↓dhG_M_23, ↓dhG_M_24, ↓dhg_M_25, ↓dhq_M_25, ↓dhG_M_26, ↓dhG_M_27, ↓dhG_M_28, ↓dhg_M_29, ↓dhq_M_29, ↓dhG_M_30, ↓dhG_M_31, ↓dhg_M_32, ↓dhq_M_32, ↓dhg_M_33, ↓dhq_M_33, ↓dhg_M_34, ↓dhq_M_34, ↓dhg_M_35, ↓dhq_M_35, ↓dhG_M_36, ↓dhG_M_37, ↓dhg_M_38, ↓dhq_M_38, ↓dhg_M_39, ↓dhq_M_39, ↓dhG_M_40, ↓dhG_M_41, ↓dhG_M_42, ↓dhG_M_43, ↓dhg_M_44, ↓dhq_M_44, ↓dha_165, ↓dhs_165, ↓dhl_165, Option.bind_some, ↓nm_eq, ↓sm_inl, ↓sm_inr, ↓dzo_0, ↓dzo_1, ↓drg_ok, ↓if_pos, ↓if_neg, if_pos, if_neg, if_true, if_false, Int.toNat_natCast, rg_ok, h9.1, hnn]
    · rintro f ⟨fl, J⟩ ⟨f1, f2, f3, f4⟩
      dsimp only at f1 f2 f3 f4 ⊢
      obtain ⟨wJ, uJ⟩ := hfrA J f1
      have h9 := re_w wJ.1
      have hnn := re_n wJ.1
      have hfl : fl = 0 ∨ fl = 1 := by rcases f4 with z | z <;> omega
      refine ⟨fl, J, ?_, f1, f2, f3, ?_⟩
      · simp (disch := omega) only [l_X12_spreads_4, b_X12_spreads_4, ↓dhi_M, ↓dhG_M_0, ↓dhG_M_1, ↓dhG_M_2, ↓dhG_M_3, ↓dhG_M_4, ↓dhG_M_5, ↓dhG_M_6, ↓dhG_M_7, ↓dhG_M_8, ↓dhg_M_9, ↓dhq_M_9, ↓dhG_M_10, ↓dhG_M_11, ↓dhG_M_12, ↓dhg_M_13, ↓dhq_M_13, ↓dhG_M_14, ↓dhg_M_15, ↓dhq_M_15, ↓dhG_M_16, ↓dhg_M_17, ↓dhq_M_17, ↓dhg_M_18, ↓dhq_M_18, ↓dhG_M_19, ↓dhG_M_20, ↓dhG_M_21, ↓dhG_M_22, ↓dhG_M_23, ↓dhG_M_24, ↓dhg_M_25, ↓dhq_M_25, ↓dhG_M_26, ↓dhG_M_27, ↓dhG_M_28, ↓dhg_M_29, ↓dhq_M_29, ↓dhG_M_30, ↓dhG_M_31, ↓dhg_M_32, ↓dhq_M_32, ↓dhg_M_33, ↓dhq_M_33, ↓dhg_M_34, ↓dhq_M_34, ↓dhg_M_35, ↓dhq_M_35, ↓dhG_M_36, ↓dhG_M_37, ↓dhg_M_38, ↓dhq_M_38, ↓dhg_M_39, ↓dhq_M_39, ↓dhG_M_40, ↓dhG_M_41, ↓dhG_M_42, ↓dhG_M_43, ↓dhg_M_44, ↓dhq_M_44, ↓dha_165, ↓dhs_165, ↓dhl_165, Option.bind_some, ↓nm_eq, ↓sm_inl, ↓sm_inr, ↓dzo_0, ↓dzo_1, ↓drg_ok, ↓if_pos, ↓if_neg, if_pos, if_neg, if_true, if_false, Int.toNat_natCast, rg_ok, ↓dzo_ok, h9.1, hnn]
      · rcases f4 with ⟨z1, z2, z3⟩ | z
        · left
          refine ⟨z1, z2, fun p' k' hQ => ?_⟩
          obtain ⟨q', q1, q2⟩ := pz_s hg hQ
          exact z3 p' k' ⟨q', q1, q2.symm, by omega⟩
        · exact Or.inr z
  have e := out (Gn g + 1) n 0 (0, J0) (by omega) (by omega) ⟨Fr.rf, h0, fun _ _ _ _ _ z => z, Or.inl ⟨rfl, rfl, fun p k ⟨q', _, _, z⟩ => absurd z (by omega)⟩⟩
  have e2 : f_X12_spreads n 161 (t : Int) (hp u J0 L) = l_X12_spreads_4 n n 161 (t : Int) 0 0 (hp u J0 L) := by
    simp (disch := omega) only [f_X12_spreads]
  rw [e2]; exact e
end SQ_
