/-! ===== the reference: steps, states found ===== -/
theorem fo_sur {g : GT} (hg : GR g) {x : Nat} (h : x < frm g (Gn g) + 2) : ∃ p k, vI g p k ∧ fo g p + k = x := by
  have key : ∀ q, q ≤ Gn g → x < frm g q → ∃ p k, p < q ∧ k ≤ Gl g p ∧ frm g p + k = x := by
    intro q
    induction q with
    | zero => intro _ hx; exact absurd hx (by show ¬ x < 0; omega)
    | succ q ih =>
      intro hq hx
      by_cases c : x < frm g q
      · obtain ⟨p, k, a, b, c⟩ := ih (by omega) c
        exact ⟨p, k, by omega, b, c⟩
      · have hx' : x < frm g q + (Gl g q + 1) := hx
        exact ⟨q, x - frm g q, by omega, by omega, by omega⟩
  by_cases c : x < frm g (Gn g)
  · obtain ⟨p, k, a, b, e⟩ := key (Gn g) (Nat.le_refl _) c
    have hne : p ≠ 24 := by have := hg.1; omega
    refine ⟨p, k, ⟨Or.inl a, by rw [gX_l hne]; exact b⟩, ?_⟩
    unfold fo; rw [if_neg hne]; exact e
  · refine ⟨24, x - frm g (Gn g), ⟨Or.inr rfl, by rw [gX_l24]; omega⟩, ?_⟩
    unfold fo; rw [if_pos rfl]; omega
section RO
variable {u : Nat} {n : Nat} {L : Nat → Nat → Int} {g : GT} {N : Nat → Prop} {F : Nat → Nat → Prop}
theorem X12_index {s : Nat} (hs : s < 8 ∨ (16 ≤ s ∧ s < 32)) (h : gi_H) : f_X12_index (s : Int) h = some ((zix s : Nat) : Int) := by
  by_cases c : s < 16
  · have : zix s = s := by unfold zix; rw [if_pos c]
    rw [this]
    simp (disch := omega) only [f_X12_index, Option.bind_some, ↓nm_eq, ↓sm_inl, ↓sm_inr, ↓dzo_0, ↓dzo_1, ↓drg_ok, ↓if_pos, ↓if_neg, if_pos, if_neg, if_true, if_false, Int.toNat_natCast, rg_ok]
  · have : ((zix s : Nat) : Int) = 8 + (s : Int) - 16 := by unfold zix; rw [if_neg c]; omega
    rw [this]
    simp (disch := omega) only [f_X12_index, Option.bind_some, ↓nm_eq, ↓sm_inl, ↓sm_inr, ↓dzo_0, ↓dzo_1, ↓drg_ok, ↓if_pos, ↓if_neg, if_pos, if_neg, if_true, if_false, Int.toNat_natCast, rg_ok]
theorem ra182 {J : Nat → Nat → Int} {i x : Int} (h1 : 0 ≤ i) (h2 : i < 146) : gi_s1 (hp u J L) 182 i x = some (hp u (gx_u J 182 i.toNat x) L) := hs0 (N := 146) rfl (by decide) (by decide) h1 h2
theorem X12_steps (hn : 1000000000000000000000000000000 ≤ n) {A o x : Nat} (hA : A = 183 ∨ A = 185) {J0 : Nat → Nat → Int} (w : RX g N F J0) (hu : NU g J0) (ho : o + 146 ≤ 11680) (hx : x < 24) (hV : VR g A (ar g o) J0) :
    ∃ (r : Int) (J' : Nat → Nat → Int), f_X12_steps n 161 A (o : Int) (x : Int) (hp u J0 L) = some (r, hp u J' L) ∧ Fr [182] J0 J' ∧ VR g 182 (ar g 0) J' ∧ SR g 182 (ar g 0) J' = adv false g (SR g A (ar g o) J0) x ∧ ((r = 1 ∧ ∃ p k, adv false g (SR g A (ar g o) J0) x p k 9) ∨ (r = 0 ∧ ¬ ∃ p k, adv false g (SR g A (ar g o) J0) x p k 9)) := by
  have hg := w.1.gr
  have h24 := hg.1
  have hA3' : hA3 A 11680 := Or.inr ⟨hA, rfl⟩
  have hfrA : ∀ J, Fr [182] J0 J → RX g N F J ∧ NU g J := fun J f => by
    have q61 : J 161 = J0 161 := f 161 (by simp)
    exact ⟨w.fr f ⟨by rw [q61], by rw [q61]⟩ (by simp), hu.fr (f 181 (by simp)) (by rw [q61])⟩
  have hA2 : ∀ J, Fr [182] J0 J → J A = J0 A := fun J f => f A (by simp; omega)
  have hfr6 := frm_6 hg (Gn g)
  -- clearing
  have c1 : zLP (frm g (Gn g) + 2) (fun f k (J : Nat → Nat → Int) => l_X12_steps_6 n f 161 A (o : Int) (x : Int) 0 (k : Int) (hp u J L)) (fun k J => Fr [182] J0 J ∧ ∀ j, j < k → J 182 j = 0)
      (fun res => ∃ J, res = l_X12_steps_32 n n 161 A (o : Int) (x : Int) 0 0 (hp u J L) ∧ Fr [182] J0 J ∧ ∀ j, j < frm g (Gn g) + 2 → J 182 j = 0) := by
    refine zlp ?_ ?_
    · rintro f k J hk ⟨f1, f2⟩
      right
      have e25 := (hfrA J f1).2.2.2
      have ek : (k : Int) + 1 = ((k + 1 : Nat) : Int) := by omega
      have rs := ra182 (u := u) (L := L) (J := J) (i := (k : Int)) (x := 0) (by omega) (by omega)
      rw [Int.toNat_natCast] at rs
      refine ⟨gx_u J 182 k 0, ?_, f1.wr (by simp), fun j hj => ?_⟩
      · simp (disch := omega) only [l_X12_steps_6, b_X12_steps_6, ↓dhi_M, ↓dhG_M_0, ↓dhG_M_1, ↓dhG_M_2, ↓dhG_M_3, ↓dhG_M_4, ↓dhG_M_5, ↓dhG_M_6, ↓dhG_M_7, ↓dhG_M_8, ↓dhg_M_9, ↓dhq_M_9, ↓dhG_M_10, ↓dhG_M_11, ↓dhG_M_12, ↓dhg_M_13, ↓dhq_M_13, ↓dhG_M_14, ↓dhg_M_15, ↓dhq_M_15, ↓dhG_M_16, ↓dhg_M_17, ↓dhq_M_17, ↓dhg_M_18, ↓dhq_M_18, ↓dhG_M_19, ↓dhG_M_20, ↓dhG_M_21, ↓dhG_M_22, ↓dhG_M_23, ↓dhG_M_24, ↓dhg_M_25, ↓dhq_M_25, ↓dhG_M_26, ↓dhG_M_27, ↓dhG_M_28, ↓dhg_M_29, ↓dhq_M_29, ↓dhG_M_30, ↓dhG_M_31, ↓dhg_M_32, ↓dhq_M_32, ↓dhg_M_33, ↓dhq_M_33, ↓dhg_M_34, ↓dhq_M_34, ↓dhg_M_35, ↓dhq_M_35, ↓dhG_M_36, ↓dhG_M_37, ↓dhg_M_38, ↓dhq_M_38, ↓dhg_M_39, ↓dhq_M_39, ↓dhG_M_40, ↓dhG_M_41, ↓dhG_M_42, ↓dhG_M_43, ↓dhg_M_44, ↓dhq_M_44, Option.bind_some, ↓nm_eq, ↓sm_inl, ↓sm_inr, ↓dzo_0, ↓dzo_1, ↓drg_ok, ↓if_pos, ↓if_neg, if_pos, if_neg, if_true, if_false, Int.toNat_natCast, rg_ok, ↓bnd rs, e25, ek]
      · by_cases e : j = k
        · rw [e, gu_at_eq rfl]
        · rw [gu_at_ne e]; exact f2 j (by omega)
    · rintro f J ⟨f1, f2⟩
      have e25 := (hfrA J f1).2.2.2
      refine ⟨J, ?_, f1, f2⟩
      simp (disch := omega) only [l_X12_steps_6, b_X12_steps_6, b_X12_steps_29, ↓dhi_M, ↓dhG_M_0, ↓dhG_M_1, ↓dhG_M_2, ↓dhG_M_3, ↓dhG_M_4, ↓dhG_M_5, ↓dhG_M_6, ↓dhG_M_7, ↓dhG_M_8, ↓dhg_M_9, ↓dhq_M_9, ↓dhG_M_10, ↓dhG_M_11, ↓dhG_M_12, ↓dhg_M_13, ↓dhq_M_13, ↓dhG_M_14, ↓dhg_M_15, ↓dhq_M_15, ↓dhG_M_16, ↓dhg_M_17, ↓dhq_M_17, ↓dhg_M_18, ↓dhq_M_18, ↓dhG_M_19, ↓dhG_M_20, ↓dhG_M_21, ↓dhG_M_22, ↓dhG_M_23, ↓dhG_M_24, ↓dhg_M_25, ↓dhq_M_25, ↓dhG_M_26, ↓dhG_M_27, ↓dhG_M_28, ↓dhg_M_29, ↓dhq_M_29, ↓dhG_M_30, ↓dhG_M_31, ↓dhg_M_32, ↓dhq_M_32, ↓dhg_M_33, ↓dhq_M_33, ↓dhg_M_34, ↓dhq_M_34, ↓dhg_M_35, ↓dhq_M_35, ↓dhG_M_36, ↓dhG_M_37, ↓dhg_M_38, ↓dhq_M_38, ↓dhg_M_39, ↓dhq_M_39, ↓dhG_M_40, ↓dhG_M_41, ↓dhG_M_42, ↓dhG_M_43, ↓dhg_M_44, ↓dhq_M_44, Option.bind_some, ↓nm_eq, ↓sm_inl, ↓sm_inr, ↓dzo_0, ↓dzo_1, ↓drg_ok, ↓if_pos, ↓if_neg, if_pos, if_neg, if_true, if_false, Int.toNat_natCast, rg_ok, e25]
  obtain ⟨J1, e1, f1, z1⟩ := c1 (frm g (Gn g) + 2) n 0 J0 (by omega) (by omega) ⟨Fr.rf, fun j hj => absurd hj (by omega)⟩
  -- what of the items is done: those of productions ahead of p, and of p ahead of k
  have hD : ∃ D : (Nat → Nat → Prop) → (Nat → Nat → Int) → Int → Prop, ∀ Q J r, D Q J r ↔ (Fr [182] J0 J ∧ (∀ p k, vI g p k → J 182 (ar g 0 p k) = zif (∃ k', k = k' + 1 ∧ Q p k' ∧ zix (Gs (gX g) p k') = x ∧ bt (J0 A (ar g o p k')) 9 = true) (J0 A (ar g o p (k - 1))) 0) ∧ ((r = 1 ∧ ∃ p k', Q p k' ∧ k' < Gl (gX g) p ∧ zix (Gs (gX g) p k') = x ∧ bt (J0 A (ar g o p k')) 9 = true) ∨ (r = 0 ∧ ¬ ∃ p k', Q p k' ∧ k' < Gl (gX g) p ∧ zix (Gs (gX g) p k') = x ∧ bt (J0 A (ar g o p k')) 9 = true))) := ⟨_, fun _ _ _ => Iff.rfl⟩
  obtain ⟨D, hD⟩ := hD
  -- one production
  have inn : ∀ (r32 : Nat → Nat → Int → Int → Int → Int → gi_H → Option (Int × gi_H)) (q : Int) (Q0 : Nat → Nat → Prop) (p : Nat), pv g p → (∀ k, ¬ Q0 p k) → zLP (Gl (gX g) p) (fun f k (s : Int × (Nat → Nat → Int)) => l_X12_steps_72 n r32 f 161 A (o : Int) (x : Int) s.1 q (p : Int) (k : Int) (hp u s.2 L))
      (fun k s => D (fun p' k' => Q0 p' k' ∨ (p' = p ∧ k' < k)) s.2 s.1)
      (fun res => ∃ (fl : Int) (J : Nat → Nat → Int), res = r32 161 A (o : Int) (x : Int) fl (q + 1) (hp u J L) ∧ D (fun p' k' => Q0 p' k' ∨ (p' = p ∧ k' < Gl (gX g) p)) J fl) := by
    intro r32 q Q0 p hv hQ0
    have hp24 : p ≤ 24 := by rcases hv with z | z <;> omega
    refine zlp ?_ ?_
    · rintro f k ⟨fl, J⟩ hk hDk
      dsimp only at hDk ⊢
      obtain ⟨g1, g2, g3⟩ := (hD _ _ _).mp hDk
      right
      obtain ⟨wJ, uJ⟩ := hfrA J g1
      have esz := rx_size (u := u) (L := L) wJ.1 hv
      have es := rx_symbol (u := u) (L := L) wJ.1 hk
      have hsr := gX_sr hg hk
      have eix := X12_index hsr (hp u J L)
      have e8 := uJ.at hv
      have hvk : vI g p k := ⟨hv, by omega⟩
      have hvk1 : vI g p (k + 1) := ⟨hv, by omega⟩
      have hfo := fo_rg hg hvk1
      have hl5 := gX_l5 hg p
      have er := ra (u := u) (L := L) hA3' (J := J) (i := (o : Int) + (fo g p : Int) + (k : Int)) (by omega) (by omega)
      have ei : ((o : Int) + (fo g p : Int) + (k : Int)).toNat = ar g o p k := by unfold ar; omega
      rw [ei, hA2 J g1] at er
      have ek : (k : Int) + 1 = ((k + 1 : Nat) : Int) := by omega
      have hrg : -2147483648 ≤ gi_and (J0 A (ar g o p k)) 512 ∧ gi_and (J0 A (ar g o p k)) 512 ≤ 2147483647 := and512_rg
      have h512 := bt_and512 (x := J0 A (ar g o p k))
      have hzl := zix_lt hsr
      by_cases c : zix (Gs (gX g) p k) = x ∧ bt (J0 A (ar g o p k)) 9 = true
      · have n512 : gi_and (J0 A (ar g o p k)) 512 ≠ 0 := fun z => by rw [h512.mp z] at c; exact absurd c.2 (by decide)
        have ei2 : ((fo g p : Int) + (k : Int) + 1).toNat = ar g 0 p (k + 1) := by unfold ar; omega
        have rs := ra182 (u := u) (L := L) (J := J) (i := (fo g p : Int) + (k : Int) + 1) (x := J0 A (ar g o p k)) (by omega) (by omega)
        rw [ei2] at rs
        have c1 := c.1
        refine ⟨(1, gx_u J 182 (ar g 0 p (k + 1)) (J0 A (ar g o p k))), ?_, (hD _ _ _).mpr ⟨g1.wr (by simp), fun p' k' hv' => ?_, Or.inl ⟨rfl, p, k, Or.inr ⟨rfl, by omega⟩, hk, c⟩⟩⟩
        · simp (disch := omega) only [l_X12_steps_72, b_X12_steps_72, b_X12_steps_145, ↓dhi_M, ↓dhG_M_0, ↓dhG_M_1, ↓dhG_M_2, ↓dhG_M_3, ↓dhG_M_4, ↓dhG_M_5, ↓dhG_M_6, ↓dhG_M_7, ↓dhG_M_8, ↓dhg_M_9, ↓dhq_M_9, ↓dhG_M_10, ↓dhG_M_11, ↓dhG_M_12, ↓dhg_M_13, ↓dhq_M_13, ↓dhG_M_14, ↓dhg_M_15, ↓dhq_M_15, ↓dhG_M_16, ↓dhg_M_17, ↓dhq_M_17, ↓dhg_M_18, ↓dhq_M_18, ↓dhG_M_19, ↓dhG_M_20, ↓dhG_M_21, ↓dhG_M_22, ↓dhG_M_23, ↓dhG_M_24, ↓dhg_M_25, ↓dhq_M_25, ↓dhG_M_26, ↓dhG_M_27, ↓dhG_M_28, ↓dhg_M_29, ↓dhq_M_29, ↓dhG_M_30, ↓dhG_M_31, ↓dhg_M_32, ↓dhq_M_32, ↓dhg_M_33, ↓dhq_M_33, ↓dhg_M_34, ↓dhq_M_34, ↓dhg_M_35, ↓dhq_M_35, ↓dhG_M_36, ↓dhG_M_37, ↓dhg_M_38, ↓dhq_M_38, ↓dhg_M_39, ↓dhq_M_39, ↓dhG_M_40, ↓dhG_M_41, ↓dhG_M_42, ↓dhG_M_43, ↓dhg_M_44, ↓dhq_M_44, ↓dha_181, ↓dhs_181, ↓dhl_181, Option.bind_some, ↓nm_eq, ↓sm_inl, ↓sm_inr, ↓dzo_0, ↓dzo_1, ↓drg_ok, ↓if_pos, ↓if_neg, if_pos, if_neg, if_true, if_false, Int.toNat_natCast, rg_ok, ↓bnd esz, ↓bnd es, ↓bnd eix, e8, ↓bnd er, ↓bnd rs, ek]
        · dsimp only
          by_cases e : p' = p ∧ k' = k + 1
          · rw [e.1, e.2, gu_at_eq rfl, zif_p ⟨k, rfl, Or.inr ⟨rfl, by omega⟩, c⟩, Nat.add_sub_cancel]
          · rw [gu_at_ne (fun z => e (ar_inj 0 p' k' p (k + 1) hv' hvk1 z)), g2 p' k' hv']
            by_cases c2 : ∃ k'', k' = k'' + 1 ∧ (Q0 p' k'' ∨ (p' = p ∧ k'' < k)) ∧ zix (Gs (gX g) p' k'') = x ∧ bt (J0 A (ar g o p' k'')) 9 = true
            · obtain ⟨k'', y1, y2, y3⟩ := c2
              rw [zif_p ⟨k'', y1, y2, y3⟩, zif_p ⟨k'', y1, y2.elim Or.inl (fun z => Or.inr ⟨z.1, by omega⟩), y3⟩]
            · rw [zif_n c2, zif_n]
              rintro ⟨k'', y1, y2, y3⟩
              apply c2
              refine ⟨k'', y1, ?_, y3⟩
              rcases y2 with y2 | ⟨y2, y4⟩
              · exact Or.inl y2
              · right
                refine ⟨y2, ?_⟩
                by_cases ee : k'' = k
                · exact absurd ⟨y2, by omega⟩ e
                · omega
      · refine ⟨(fl, J), ?_, (hD _ _ _).mpr ⟨g1, fun p' k' hv' => ?_, ?_⟩⟩
        · by_cases c9 : bt (J0 A (ar g o p k)) 9 = true
          · have n512 : gi_and (J0 A (ar g o p k)) 512 ≠ 0 := fun z => by rw [h512.mp z] at c9; exact absurd c9 (by decide)
            have c1 : zix (Gs (gX g) p k) ≠ x := fun z => c ⟨z, c9⟩
            simp (disch := omega) only [l_X12_steps_72, b_X12_steps_72, b_X12_steps_145, ↓dhi_M, ↓dhG_M_0, ↓dhG_M_1, ↓dhG_M_2, ↓dhG_M_3, ↓dhG_M_4, ↓dhG_M_5, ↓dhG_M_6, ↓dhG_M_7, ↓dhG_M_8, ↓dhg_M_9, ↓dhq_M_9, ↓dhG_M_10, ↓dhG_M_11, ↓dhG_M_12, ↓dhg_M_13, ↓dhq_M_13, ↓dhG_M_14, ↓dhg_M_15, ↓dhq_M_15, ↓dhG_M_16, ↓dhg_M_17, ↓dhq_M_17, ↓dhg_M_18, ↓dhq_M_18, ↓dhG_M_19, ↓dhG_M_20, ↓dhG_M_21, ↓dhG_M_22, ↓dhG_M_23, ↓dhG_M_24, ↓dhg_M_25, ↓dhq_M_25, ↓dhG_M_26, ↓dhG_M_27, ↓dhG_M_28, ↓dhg_M_29, ↓dhq_M_29, ↓dhG_M_30, ↓dhG_M_31, ↓dhg_M_32, ↓dhq_M_32, ↓dhg_M_33, ↓dhq_M_33, ↓dhg_M_34, ↓dhq_M_34, ↓dhg_M_35, ↓dhq_M_35, ↓dhG_M_36, ↓dhG_M_37, ↓dhg_M_38, ↓dhq_M_38, ↓dhg_M_39, ↓dhq_M_39, ↓dhG_M_40, ↓dhG_M_41, ↓dhG_M_42, ↓dhG_M_43, ↓dhg_M_44, ↓dhq_M_44, ↓dha_181, ↓dhs_181, ↓dhl_181, Option.bind_some, ↓nm_eq, ↓sm_inl, ↓sm_inr, ↓dzo_0, ↓dzo_1, ↓drg_ok, ↓if_pos, ↓if_neg, if_pos, if_neg, if_true, if_false, Int.toNat_natCast, rg_ok, ↓bnd esz, ↓bnd es, ↓bnd eix, e8, ↓bnd er, ek]
          · have c9' : bt (J0 A (ar g o p k)) 9 = false := by cases h : bt (J0 A (ar g o p k)) 9 with
              | true => exact absurd h c9
              | false => rfl
            have n512 := h512.mpr c9'
            simp (disch := omega) only [l_X12_steps_72, b_X12_steps_72, b_X12_steps_145, ↓dhi_M, ↓dhG_M_0, ↓dhG_M_1, ↓dhG_M_2, ↓dhG_M_3, ↓dhG_M_4, ↓dhG_M_5, ↓dhG_M_6, ↓dhG_M_7, ↓dhG_M_8, ↓dhg_M_9, ↓dhq_M_9, ↓dhG_M_10, ↓dhG_M_11, ↓dhG_M_12, ↓dhg_M_13, ↓dhq_M_13, ↓dhG_M_14, ↓dhg_M_15, ↓dhq_M_15, ↓dhG_M_16, ↓dhg_M_17, ↓dhq_M_17, ↓dhg_M_18, ↓dhq_M_18, ↓dhG_M_19, ↓dhG_M_20, ↓dhG_M_21, ↓dhG_M_22, ↓dhG_M_23, ↓dhG_M_24, ↓dhg_M_25, ↓dhq_M_25, ↓dhG_M_26, ↓dhG_M_27, ↓dhG_M_28, ↓dhg_M_29, ↓dhq_M_29, ↓dhG_M_30, ↓dhG_M_31, ↓dhg_M_32, ↓dhq_M_32, ↓dhg_M_33, ↓dhq_M_33, ↓dhg_M_34, ↓dhq_M_34, ↓dhg_M_35, ↓dhq_M_35, ↓dhG_M_36, ↓dhG_M_37, ↓dhg_M_38, ↓dhq_M_38, ↓dhg_M_39, ↓dhq_M_39, ↓dhG_M_40, ↓dhG_M_41, ↓dhG_M_42, ↓dhG_M_43, ↓dhg_M_44, ↓dhq_M_44, ↓dha_181, ↓dhs_181, ↓dhl_181, Option.bind_some, ↓nm_eq, ↓sm_inl, ↓sm_inr, ↓dzo_0, ↓dzo_1, ↓drg_ok, ↓if_pos, ↓if_neg, if_pos, if_neg, if_true, if_false, Int.toNat_natCast, rg_ok, ↓bnd esz, ↓bnd es, ↓bnd eix, e8, ↓bnd er, n512, ek]
        · dsimp only
          rw [g2 p' k' hv']
          by_cases c2 : ∃ k'', k' = k'' + 1 ∧ (Q0 p' k'' ∨ (p' = p ∧ k'' < k)) ∧ zix (Gs (gX g) p' k'') = x ∧ bt (J0 A (ar g o p' k'')) 9 = true
          · obtain ⟨k'', y1, y2, y3⟩ := c2
            rw [zif_p ⟨k'', y1, y2, y3⟩, zif_p ⟨k'', y1, y2.elim Or.inl (fun z => Or.inr ⟨z.1, by omega⟩), y3⟩]
          · rw [zif_n c2, zif_n]
            rintro ⟨k'', y1, y2, y3⟩
            apply c2
            refine ⟨k'', y1, ?_, y3⟩
            rcases y2 with y2 | ⟨y2, y4⟩
            · exact Or.inl y2
            · right
              refine ⟨y2, ?_⟩
              by_cases ee : k'' = k
              · rw [y2, ee] at y3; exact absurd y3 c
              · omega
        · rcases g3 with ⟨y1, p', k', y2, y3⟩ | ⟨y1, y2⟩
          · exact Or.inl ⟨y1, p', k', y2.elim Or.inl (fun z => Or.inr ⟨z.1, by omega⟩), y3⟩
          · right
            refine ⟨y1, ?_⟩
            rintro ⟨p', k', y3, y4, y5⟩
            apply y2
            refine ⟨p', k', ?_, y4, y5⟩
            rcases y3 with y3 | ⟨y3, y6⟩
            · exact Or.inl y3
            · right
              refine ⟨y3, ?_⟩
              by_cases ee : k' = k
              · rw [y3, ee] at y5; exact absurd y5 c
              · omega
    · rintro f ⟨fl, J⟩ hDk
      dsimp only at hDk ⊢
      obtain ⟨g1, g2, g3⟩ := (hD _ _ _).mp hDk
      obtain ⟨wJ, uJ⟩ := hfrA J g1
      have esz := rx_size (u := u) (L := L) wJ.1 hv
      have hl5 := gX_l5 hg p
      refine ⟨fl, J, ?_, hDk⟩
      simp (disch := omega) only [l_X12_steps_72, b_X12_steps_72, b_X12_steps_151, ↓dhi_M, ↓dhG_M_0, ↓dhG_M_1, ↓dhG_M_2, ↓dhG_M_3, ↓dhG_M_4, ↓dhG_M_5, ↓dhG_M_6, ↓dhG_M_7, ↓dhG_M_8, ↓dhg_M_9, ↓dhq_M_9, ↓dhG_M_10, ↓dhG_M_11, ↓dhG_M_12, ↓dhg_M_13, ↓dhq_M_13, ↓dhG_M_14, ↓dhg_M_15, ↓dhq_M_15, ↓dhG_M_16, ↓dhg_M_17, ↓dhq_M_17, ↓dhg_M_18, ↓dhq_M_18, ↓dhG_M_19, ↓dhG_M_20, ↓dhG_M_21, ↓dhG_M_22, ↓dhG_M_23, ↓dhG_M_24, ↓dhg_M_25, ↓dhq_M_25, ↓dhG_M_26, ↓dhG_M_27, ↓dhG_M_28, ↓dhg_M_29, ↓dhq_M_29, ↓dhG_M_30, ↓dhG_M_31, ↓dhg_M_32, ↓dhq_M_32, ↓dhg_M_33, ↓dhq_M_33, ↓dhg_M_34, ↓dhq_M_34, ↓dhg_M_35, ↓dhq_M_35, ↓dhG_M_36, ↓dhG_M_37, ↓dhg_M_38, ↓dhq_M_38, ↓dhg_M_39, ↓dhq_M_39, ↓dhG_M_40, ↓dhG_M_41, ↓dhG_M_42, ↓dhG_M_43, ↓dhg_M_44, ↓dhq_M_44, Option.bind_some, ↓nm_eq, ↓sm_inl, ↓sm_inr, ↓dzo_0, ↓dzo_1, ↓drg_ok, ↓if_pos, ↓if_neg, if_pos, if_neg, if_true, if_false, Int.toNat_natCast, rg_ok, ↓bnd esz]
  -- all productions
  have out : zLP (Gn g + 1) (fun f p (s : Int × (Nat → Nat → Int)) => l_X12_steps_32 n f 161 A (o : Int) (x : Int) s.1 (p : Int) (hp u s.2 L)) (fun p s => D (fun p' _ => p' < p ∧ p' < Gn g ∨ (p' = 24 ∧ p = Gn g + 1)) s.2 s.1)
      (fun res => ∃ (fl : Int) (J : Nat → Nat → Int), res = some (fl, hp u J L) ∧ D (fun p' _ => pv g p') J fl) := by
    have dcongr : ∀ (Q Q' : Nat → Nat → Prop) J r, (∀ p k, k < Gl (gX g) p → (Q p k ↔ Q' p k)) → D Q J r → D Q' J r := by
      intro Q Q' J r hq h
      obtain ⟨g1, g2, g3⟩ := (hD _ _ _).mp h
      refine (hD _ _ _).mpr ⟨g1, fun p k hv => ?_, ?_⟩
      · rw [g2 p k hv]
        by_cases c : ∃ k', k = k' + 1 ∧ Q p k' ∧ zix (Gs (gX g) p k') = x ∧ bt (J0 A (ar g o p k')) 9 = true
        · obtain ⟨k', y1, y2, y3⟩ := c
          rw [zif_p ⟨k', y1, y2, y3⟩, zif_p ⟨k', y1, (hq p k' (by have := hv.2; omega)).mp y2, y3⟩]
        · rw [zif_n c, zif_n]
          rintro ⟨k', y1, y2, y3⟩
          exact c ⟨k', y1, (hq p k' (by have := hv.2; omega)).mpr y2, y3⟩
      · rcases g3 with ⟨y1, p', k', y2, y3, y4⟩ | ⟨y1, y2⟩
        · exact Or.inl ⟨y1, p', k', (hq p' k' y3).mp y2, y3, y4⟩
        · exact Or.inr ⟨y1, fun ⟨p', k', y3, y4, y5⟩ => y2 ⟨p', k', (hq p' k' y4).mpr y3, y4, y5⟩⟩
    refine zlp ?_ ?_
    · rintro f p ⟨fl, J⟩ hp1 hDk
      dsimp only at hDk ⊢
      right
      obtain ⟨g1, -, -⟩ := (hD _ _ _).mp hDk
      obtain ⟨wJ, uJ⟩ := hfrA J g1
      have h9 := re_w wJ.1
      have hnn := re_n wJ.1
      have ek : (p : Int) + 1 = ((p + 1 : Nat) : Int) := by omega
      by_cases c : p = Gn g
      · obtain ⟨fl', J', e, q⟩ := inn (l_X12_steps_32 n f) (p : Int) (fun p' _ => p' < p ∧ p' < Gn g ∨ (p' = 24 ∧ p = Gn g + 1)) 24 (Or.inr rfl) (fun k => by omega) (Gl (gX g) 24) n 0 (fl, J) (by omega) (by rw [gX_l24]; omega) (dcongr _ _ _ _ (fun p' k' _ => by omega) hDk)
        have e' : l_X12_steps_72 n (l_X12_steps_32 n f) n 161 A (o : Int) (x : Int) fl (p : Int) 24 0 (hp u J L) = l_X12_steps_32 n f 161 A (o : Int) (x : Int) fl' ((p : Int) + 1) (hp u J' L) := e
        refine ⟨(fl', J'), ?_, dcongr _ _ _ _ (fun p' k' hk' => ?_) q⟩
        · dsimp only
          rw [← ek, ← e']
          simp (disch := omega) only [l_X12_steps_32, b_X12_steps_32, b_X12_steps_67, ↓dhi_M, ↓dhG_M_0, ↓dhG_M_1, ↓dhG_M_2, ↓dhG_M_3, ↓dhG_M_4, ↓dhG_M_5, ↓dhG_M_6, ↓dhG_M_7, ↓dhG_M_8, ↓dhg_M_9, ↓dhq_M_9, ↓dhG_M_10, ↓dhG_M_11, ↓dhG_M_12, ↓dhg_M_13, ↓dhq_M_13, ↓dhG_M_14, ↓dhg_M_15, ↓dhq_M_15, ↓dhG_M_16, ↓dhg_M_17, ↓dhq_M_17, ↓dhg_M_18, ↓dhq_M_18, ↓dhG_M_19, ↓dhG_M_20, ↓dhG_M_21, ↓dhG_M_22, ↓dhG_M_23, ↓dhG_M_24, ↓dhg_M_25, ↓dhq_M_25, ↓dhG_M_26, ↓dhG_M_27, ↓dhG_M_28, ↓dhg_M_29, ↓dhq_M_29, ↓dhG_M_30, ↓dhG_M_31, ↓dhg_M_32, ↓dhq_M_32, ↓dhg_M_33, ↓dhq_M_33, ↓dhg_M_34, ↓dhq_M_34, ↓dhg_M_35, ↓dhq_M_35, ↓dhG_M_36, ↓dhG_M_37, ↓dhg_M_38, ↓dhq_M_38, ↓dhg_M_39, ↓dhq_M_39, ↓dhG_M_40, ↓dhG_M_41, ↓dhG_M_42, ↓dhG_M_43, ↓dhg_M_44, ↓dhq_M_44, ↓dha_165, ↓dhs_165, ↓dhl_165, Option.bind_some, ↓nm_eq, ↓sm_inl, ↓sm_inr, ↓dzo_0, ↓dzo_1, ↓drg_ok, ↓if_pos, ↓if_neg, if_pos, if_neg, if_true, if_false, Int.toNat_natCast, rg_ok, h9.1, hnn]
        · constructor
          · rintro (y | ⟨y, -⟩)
            · exact Or.inl ⟨by omega, by omega⟩
            · exact Or.inr ⟨y, by omega⟩
          · rintro (y | ⟨y, -⟩)
            · exact Or.inl (Or.inl ⟨by omega, y.2⟩)
            · exact Or.inr ⟨y, by rw [y] at hk'; exact hk'⟩
      · have hp2 : p < Gn g := by omega
        have hne : p ≠ 24 := by omega
        obtain ⟨fl', J', e, q⟩ := inn (l_X12_steps_32 n f) (p : Int) (fun p' _ => p' < p ∧ p' < Gn g ∨ (p' = 24 ∧ p = Gn g + 1)) p (Or.inl hp2) (fun k => by omega) (Gl (gX g) p) n 0 (fl, J) (by omega) (by have := gX_l5 hg p; omega) (dcongr _ _ _ _ (fun p' k' _ => by omega) hDk)
        have e' : l_X12_steps_72 n (l_X12_steps_32 n f) n 161 A (o : Int) (x : Int) fl (p : Int) (p : Int) 0 (hp u J L) = l_X12_steps_32 n f 161 A (o : Int) (x : Int) fl' ((p : Int) + 1) (hp u J' L) := e
        refine ⟨(fl', J'), ?_, dcongr _ _ _ _ (fun p' k' hk' => ?_) q⟩
        · dsimp only
          rw [← ek, ← e']
          simp (disch := omega) only [l_X12_steps_32, b_X12_steps_32, b_X12_steps_67, ↓dhi_M, ↓dhG_M_0, ↓dhG_M_1, ↓dhG_M_2, ↓dhG_M_3, ↓dhG_M_4, ↓dhG_M_5, ↓dhG_M_6, ↓dhG_M_7, ↓dhG_M_8, ↓dhg_M_9, ↓dhq_M_9, ↓dhG_M_10, ↓dhG_M_11, ↓dhG_M_12, ↓dhg_M_13, ↓dhq_M_13, ↓dhG_M_14, ↓dhg_M_15, ↓dhq_M_15, ↓dhG_M_16, ↓dhg_M_17, ↓dhq_M_17, ↓dhg_M_18, ↓dhq_M_18, ↓dhG_M_19, ↓dhG_M_20, ↓dhG_M_21, ↓dhG_M_22, ↓dhG_M_23, ↓dhG_M_24, ↓dhg_M_25, ↓dhq_M_25, ↓dhG_M_26, ↓dhG_M_27, ↓dhG_M_28, ↓dhg_M_29, ↓dhq_M_29, ↓dhG_M_30, ↓dhG_M_31, ↓dhg_M_32, ↓dhq_M_32, ↓dhg_M_33, ↓dhq_M_33, ↓dhg_M_34, ↓dhq_M_34, ↓dhg_M_35, ↓dhq_M_35, ↓dhG_M_36, ↓dhG_M_37, ↓dhg_M_38, ↓dhq_M_38, ↓dhg_M_39, ↓dhq_M_39, ↓dhG_M_40, ↓dhG_M_41, ↓dhG_M_42, ↓dhG_M_43, ↓dhg_M_44, ↓dhq_M_44, ↓dha_165, ↓dhs_165, ↓dhl_165, Option.bind_some, ↓nm_eq, ↓sm_inl, ↓sm_inr, ↓dzo_0, ↓dzo_1, ↓drg_ok, ↓if_pos, ↓if_neg, if_pos, if_neg, if_true, if_false, Int.toNat_natCast, rg_ok, h9.1, hnn]
        · constructor
          · rintro ((y | ⟨y, y2⟩) | ⟨y, -⟩)
            · exact Or.inl ⟨by omega, y.2⟩
            · omega
            · exact Or.inl ⟨by omega, by omega⟩
          · rintro (y | ⟨y, y2⟩)
            · by_cases ee : p' = p
              · exact Or.inr ⟨ee, by rw [ee] at hk'; exact hk'⟩
              · exact Or.inl (Or.inl ⟨by omega, y.2⟩)
            · omega
    · rintro f ⟨fl, J⟩ hDk
      dsimp only at hDk ⊢
      obtain ⟨g1, -, g3⟩ := (hD _ _ _).mp hDk
      obtain ⟨wJ, uJ⟩ := hfrA J g1
      have h9 := re_w wJ.1
      have hnn := re_n wJ.1
      have hfl : fl = 0 ∨ fl = 1 := by rcases g3 with z | z <;> omega
      refine ⟨fl, J, ?_, dcongr _ _ _ _ (fun p' k' _ => ?_) hDk⟩
      · simp (disch := omega) only [l_X12_steps_32, b_X12_steps_32, ↓dhi_M, ↓dhG_M_0, ↓dhG_M_1, ↓dhG_M_2, ↓dhG_M_3, ↓dhG_M_4, ↓dhG_M_5, ↓dhG_M_6, ↓dhG_M_7, ↓dhG_M_8, ↓dhg_M_9, ↓dhq_M_9, ↓dhG_M_10, ↓dhG_M_11, ↓dhG_M_12, ↓dhg_M_13, ↓dhq_M_13, ↓dhG_M_14, ↓dhg_M_15, ↓dhq_M_15, ↓dhG_M_16, ↓dhg_M_17, ↓dhq_M_17, ↓dhg_M_18, ↓dhq_M_18, ↓dhG_M_19, ↓dhG_M_20, ↓dhG_M_21, ↓dhG_M_22, ↓dhG_M_23, ↓dhG_M_24, ↓dhg_M_25, ↓dhq_M_25, ↓dhG_M_26, ↓dhG_M_27, ↓dhG_M_28, ↓dhg_M_29, ↓dhq_M_29, ↓dhG_M_30, ↓dhG_M_31, ↓dhg_M_32, ↓dhq_M_32, ↓dhg_M_33, ↓dhq_M_33, ↓dhg_M_34, ↓dhq_M_34, ↓dhg_M_35, ↓dhq_M_35, ↓dhG_M_36, ↓dhG_M_37, ↓dhg_M_38, ↓dhq_M_38, ↓dhg_M_39, ↓dhq_M_39, ↓dhG_M_40, ↓dhG_M_41, ↓dhG_M_42, ↓dhG_M_43, ↓dhg_M_44, ↓dhq_M_44, ↓dha_165, ↓dhs_165, ↓dhl_165, Option.bind_some, ↓nm_eq, ↓sm_inl, ↓sm_inr, ↓dzo_0, ↓dzo_1, ↓drg_ok, ↓if_pos, ↓if_neg, if_pos, if_neg, if_true, if_false, Int.toNat_natCast, rg_ok, ↓dzo_ok, h9.1, hnn]
      · unfold pv; omega
  obtain ⟨r, J', e2, hDf⟩ := out (Gn g + 1) n 0 (0, J1) (by omega) (by omega) ((hD _ _ _).mpr ⟨f1, fun p k hv => by
    have := fo_rg hg hv
    dsimp only
    rw [z1 (ar g 0 p k) (by unfold ar; omega), zif_n]
    rintro ⟨k', -, y, -⟩
    omega, Or.inr ⟨rfl, by rintro ⟨p, k, y, -⟩; omega⟩⟩)
  obtain ⟨g1, g2, g3⟩ := (hD _ _ _).mp hDf
  have e0 : f_X12_steps n 161 A (o : Int) (x : Int) (hp u J0 L) = l_X12_steps_6 n n 161 A (o : Int) (x : Int) 0 ((0 : Nat) : Int) (hp u J0 L) := rfl
  have e1' : l_X12_steps_6 n n 161 A (o : Int) (x : Int) 0 ((0 : Nat) : Int) (hp u J0 L) = l_X12_steps_32 n n 161 A (o : Int) (x : Int) 0 0 (hp u J1 L) := e1
  have hset : ∀ p k y, SR g 182 (ar g 0) J' p k y ↔ adv false g (SR g A (ar g o) J0) x p k y := fun p k y => by
    constructor
    · rintro ⟨hv, hb⟩
      rw [g2 p k hv] at hb
      by_cases c : ∃ k', k = k' + 1 ∧ pv g p ∧ zix (Gs (gX g) p k') = x ∧ bt (J0 A (ar g o p k')) 9 = true
      · rw [zif_p c] at hb
        obtain ⟨k', y1, y2, y3, y4⟩ := c
        subst y1
        rw [Nat.add_sub_cancel] at hb
        have hvk : vI g p k' := ⟨hv.1, by have := hv.2; omega⟩
        exact ⟨fun z => absurd z (by decide), k', rfl, hv.1, by have := hv.2; omega, y3, ⟨hvk, y4⟩, ⟨hvk, hb⟩⟩
      · rw [zif_n c, bt_zero] at hb; exact absurd hb (by decide)
    · rintro ⟨-, k', y1, y2, y3, y4, y5, y6⟩
      subst y1
      have hv : vI g p (k' + 1) := ⟨y2, by omega⟩
      refine ⟨hv, ?_⟩
      rw [g2 p (k' + 1) hv, zif_p ⟨k', rfl, y2, y4, y5.2⟩, Nat.add_sub_cancel]; exact y6.2
  refine ⟨r, J', (e0.trans e1').trans e2, g1, fun p k hv => ?_, funext fun p => funext fun k => funext fun y => propext (hset p k y), ?_⟩
  · rw [g2 p k hv]
    by_cases c : ∃ k', k = k' + 1 ∧ pv g p ∧ zix (Gs (gX g) p k') = x ∧ bt (J0 A (ar g o p k')) 9 = true
    · rw [zif_p c]
      obtain ⟨k', y1, -⟩ := c
      exact hV p (k - 1) ⟨hv.1, by have := hv.2; omega⟩
    · rw [zif_n c]; exact ⟨by decide, fun t ht => by rw [bt_zero] at ht; exact absurd ht (by decide), Or.inl rfl⟩
  · rcases g3 with ⟨y1, p, k', y2, y3, y4, y5⟩ | ⟨y1, y2⟩
    · have hvk : vI g p k' := ⟨y2, by omega⟩
      exact Or.inl ⟨y1, p, k' + 1, fun z => absurd z (by decide), k', rfl, y2, y3, y4, ⟨hvk, y5⟩, ⟨hvk, y5⟩⟩
    · right
      refine ⟨y1, ?_⟩
      rintro ⟨p, k, -, k', z1, z2, z3, z4, z5, -⟩
      exact y2 ⟨p, k', z2, z3, z4, z5.2⟩
end RO
