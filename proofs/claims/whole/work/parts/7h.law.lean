/-! ===== the law ===== -/
theorem h0_v {a k : Nat} {x : Int} (h : (a, k, x) ∈ h0V) : gi_I h0 a k = x := h0_V (a, k, x) h
theorem h0_z {a m : Nat} (h : h0S.getD a (0, 0) = (1, m)) (ha : a < 194) (hm : m ≠ 13) (k : Nat) : gi_I h0 a k = 0 := q_h0 a (by rw [h0_S a ha, h]) (by rw [h0_S a ha, h]; exact hm) k
theorem cg_0 {v : Nat} {J : Nat → Nat → Int} (h3 : J v 3 = 0) (h6 : J v 6 = 0) (h7 : J v 7 = 0) (z1 : ∀ k, J (v + 1) k = 0) (z2 : ∀ k, J (v + 2) k = 0) (z3 : ∀ k, J (v + 3) k = 0) : CG v J [] [] := by
  refine ⟨⟨⟨by rw [h3]; decide, by rw [h6]; decide, by rw [h7]; decide, fun k => by rw [z3]; decide, fun k => by rw [z1]; decide, fun k => by rw [z2]; decide⟩, h3, fun p hp1 => absurd hp1 (by simp)⟩, h6, fun i hi => absurd hi (by simp)⟩
theorem rg_0 {w : Nat} {J : Nat → Nat → Int} (h9 : J 161 9 = 0) (z2 : ∀ k, J 162 k = 0) (z3 : ∀ k, J 163 k = 0) (z4 : ∀ k, J 164 k = 0) (z5 : ∀ k, J 165 k = 0) (z6 : ∀ k, J 166 k = 0) (z70 : ∀ k, J 170 k = 0) : RG w J [] [] := by
  refine ⟨⟨⟨Or.inl h9, fun k => by rw [z5]; decide, fun k => by rw [z3]; decide, fun k => by rw [z2]; decide, fun k => by rw [z4]; decide, fun k => by rw [z70]; decide⟩, z5 w, fun p hp1 => absurd hp1 (by simp)⟩, z6 w, fun i hi => absurd hi (by simp)⟩
theorem ix_0 : IX 0 (gi_I h0) (gi_L h0) := by
  have c1 : CG (gU 0) (gi_I h0) [] [] := cg_0 (h0_v (by decide)) (h0_v (by decide)) (h0_v (by decide)) (h0_z (a := 4) rfl (by decide) (by decide)) (h0_z (a := 5) rfl (by decide) (by decide)) (h0_z (a := 6) rfl (by decide) (by decide))
  have c2 : CG (gO 0) (gi_I h0) [] [] := cg_0 (h0_v (by decide)) (h0_v (by decide)) (h0_v (by decide)) (h0_z (a := 88) rfl (by decide) (by decide)) (h0_z (a := 89) rfl (by decide) (by decide)) (h0_z (a := 90) rfl (by decide) (by decide))
  have r : ∀ w, RG w (gi_I h0) [] [] := fun w => rg_0 (h0_v (by decide)) (h0_z (a := 162) rfl (by decide) (by decide)) (h0_z (a := 163) rfl (by decide) (by decide)) (h0_z (a := 164) rfl (by decide) (by decide)) (h0_z (a := 165) rfl (by decide) (by decide)) (h0_z (a := 166) rfl (by decide) (by decide)) (h0_z (a := 170) rfl (by decide) (by decide))
  have z70 := h0_z (a := 170) rfl (by decide) (by decide)
  have e37 : gi_I h0 (gU 0) 7 = ((0 : Nat) : Int) := h0_v (a := 3) (k := 7) (by decide)
  have e9 : gi_I h0 161 9 = ((0 : Nat) : Int) := h0_v (by decide)
  have hl : LVR (fun _ => 0) (fun _ => 0) := fun y _ => (by decide : ((0 : Int) ≤ 0 ∧ (0 : Int) ≤ 5) ∧ (0 : Int) ≤ 0 ∧ (0 : Int) ≤ 2)
  have hs : SW (fun _ => 8) 0 := ⟨by decide, fun i hi => absurd hi (by omega), fun _ _ => rfl⟩
  have hA : AO [] [] := fun i hi => absurd hi (by simp)
  have m61 : ∀ y, y < 8 → gi_I h0 61 y = 0 := fun y hy => h0_v (by simp [h0V]; omega)
  have m62 : ∀ y, y < 8 → gi_I h0 62 y = 0 := fun y hy => h0_v (by simp [h0V]; omega)
  have m171 : ∀ y, y < 8 → gi_I h0 171 y = 0 := fun y hy => h0_v (by simp [h0V]; omega)
  have m172 : ∀ y, y < 8 → gi_I h0 172 y = 0 := fun y hy => h0_v (by simp [h0V]; omega)
  have m63 : ∀ y, y < 13 → gi_I h0 63 y = 8 := fun y hy => h0_v (by simp [h0V]; omega)
  refine ⟨[], [], [], [], [], fun _ => 0, fun _ => 0, fun _ => 8, 0, 0, 0, ⟨by decide, hA, hA, hs, by decide, by decide⟩, ⟨c1, c2, e37, h0_v (a := 87) (k := 7) (by decide), TL.nil (h0_v (by decide)), ⟨hl, fun y hy => ⟨m61 y hy, m62 y hy⟩⟩, m63, h0_v (by decide), h0_v (by decide)⟩, ⟨r 0, r _, e9, z70 0, z70 _, ⟨h0_v (by decide), fun j hj => absurd hj (by simp), by decide, fun j hj => absurd hj (by simp)⟩, ⟨hl, fun y hy => ⟨m171 y hy, m172 y hy⟩⟩, ⟨h0_v (by decide), fun i hi => absurd hi (by omega)⟩⟩, ?_, ?_⟩
  · exact CST.forgot (c1.cst e37).1 (c1.cst e37).2 ⟨h0_v (by decide), h0_v (by decide), h0_v (by decide), h0_v (by decide), h0_v (by decide)⟩ ⟨h0_v (by decide), h0_v (by decide), h0_v (by decide)⟩
  · exact RST.forgot ((r 0).re e9 (z70 0)) ⟨h0_v (by decide), h0_v (by decide), h0_v (by decide)⟩
theorem X12_thrown {u : Nat} {J L : Nat → Nat → Int} : f_X12_thrown 161 (hp u J L) = some (J 161 44) := by
  simp (disch := omega) only [f_X12_thrown, ↓dhi_M, ↓dhG_M_0, ↓dhG_M_1, ↓dhG_M_2, ↓dhG_M_3, ↓dhG_M_4, ↓dhG_M_5, ↓dhG_M_6, ↓dhG_M_7, ↓dhG_M_8, ↓dhg_M_9, ↓dhq_M_9, ↓dhG_M_10, ↓dhG_M_11, ↓dhG_M_12, ↓dhg_M_13, ↓dhq_M_13, ↓dhG_M_14, ↓dhg_M_15, ↓dhq_M_15, ↓dhG_M_16, ↓dhg_M_17, ↓dhq_M_17, ↓dhg_M_18, ↓dhq_M_18, ↓dhG_M_19, ↓dhG_M_20, ↓dhG_M_21, ↓dhG_M_22, ↓dhG_M_23, ↓dhG_M_24, ↓dhg_M_25, ↓dhq_M_25, ↓dhG_M_26, ↓dhG_M_27, ↓dhG_M_28, ↓dhg_M_29, ↓dhq_M_29, ↓dhG_M_30, ↓dhG_M_31, ↓dhg_M_32, ↓dhq_M_32, ↓dhg_M_33, ↓dhq_M_33, ↓dhg_M_34, ↓dhq_M_34, ↓dhg_M_35, ↓dhq_M_35, ↓dhG_M_36, ↓dhG_M_37, ↓dhg_M_38, ↓dhq_M_38, ↓dhg_M_39, ↓dhq_M_39, ↓dhG_M_40, ↓dhG_M_41, ↓dhG_M_42, ↓dhG_M_43, ↓dhg_M_44, ↓dhq_M_44, Option.bind_some, ↓nm_eq, ↓sm_inl, ↓sm_inr, ↓dzo_0, ↓dzo_1, ↓drg_ok, ↓if_pos, ↓if_neg, if_pos, if_neg, if_true, if_false, Int.toNat_natCast, rg_ok]
def KOKN (K : gi_H → Option (Int × gi_H)) : Prop := ∀ u J L, IX u J L → ∃ h1, K (hp u J L) = some (1, h1)
section LAW
variable {fL fM : gi_H → Option (Int × gi_H)} {gL' : gi_H → Option Int} {K : gi_H → Option (Int × gi_H)} {u : Nat} {J L : Nat → Nat → Int}
theorem aL193 {J L : Nat → Nat → Int} {u : Nat} : gi_aL (hp u J L) 193 0 = some (L 193 0) := ha_193 (by omega) (by omega)
theorem law_k (ho : OPK fL fM) (hI : IX u J L) (hK : KOKN K) : ∃ h1, (Option.bind (fL (hp u J L)) fun q => Option.bind (gi_is q.2 161 10) fun _ => Option.bind (fM q.2) fun q2 => Option.bind (gi_is q2.2 161 10) fun _ => Option.bind (f_X12_thrown 161 q2.2) fun q3 => Option.bind (gi_rg q3) fun _ => Option.bind (gi_rg q.1) fun _ => if q3 = q.1 then (if q.1 = 0 then (Option.bind (gi_aL q2.2 193 (0)) fun t => Option.bind (gi_rg q2.1) fun _ => Option.bind (gi_rgL t) fun _ => Option.bind (gi_rgL q2.1) fun _ => Option.bind (gi_rg (gi_cmp t q2.1)) fun _ => if (gi_cmp t q2.1) = 0 then K q2.2 else some ((0 : Int), q2.2)) else K q2.2) else some ((0 : Int), q2.2)) = some (1, h1) := by
  obtain ⟨k, u1, J1, L1, B, J2, L2, e1, e2, e44, hk, hB, h0', hI2⟩ := ho u J L hI
  obtain ⟨h1, e3⟩ := hK u1 J2 L2 hI2
  obtain ⟨hB1, hB2⟩ := id hB
  refine ⟨h1, ?_⟩
  have eM : ∀ I K, gi_is (hp u1 I K) 161 10 = some () := fun I K => hi_M
  have et := X12_thrown (u := u1) (J := J2) (L := L2)
  rw [e44] at et
  rw [e1]
  by_cases c : k = 0
  · have hb := h0' c
    have ea := aL193 (J := J2) (L := L2) (u := u1)
    rw [hb] at ea
    have ec : gi_cmp B B = 0 := cmp_eq.mpr rfl
    subst c
    simp (disch := omega) only [Option.bind_some, eM, e2, et, ea, ↓drg_ok, ↓drgL_ok, if_true, ec, e3]
  · have hk2 : -2147483648 ≤ k ∧ k ≤ 2147483647 := by omega
    simp (disch := omega) only [Option.bind_some, eM, e2, et, ↓drg_ok, if_true, ↓if_neg, e3]
theorem law_b (ho : OPK fL fM) (hb01 : ∀ h B h', fM h = some (B, h') → B = 0 ∨ B = 1) {F : Int → Int → gi_H → Option (Int × gi_H)} (hF : ∀ x h, gi_okL x → F x x h = K h) (hI : IX u J L) (hK : KOKN K) : ∃ h1, (Option.bind (fL (hp u J L)) fun q => Option.bind (gi_is q.2 161 10) fun _ => Option.bind (fM q.2) fun q2 => Option.bind (gi_is q2.2 161 10) fun _ => Option.bind (f_X12_thrown 161 q2.2) fun q3 => Option.bind (gi_rg q3) fun _ => Option.bind (gi_rg q.1) fun _ => if q3 = q.1 then (if q.1 = 0 then (Option.bind (gi_aL q2.2 193 (0)) fun t => Option.bind (gi_rg q2.1) fun _ => if q2.1 = 0 then F t (0) q2.2 else F t (1) q2.2) else K q2.2) else some ((0 : Int), q2.2)) = some (1, h1) := by
  obtain ⟨k, u1, J1, L1, B, J2, L2, e1, e2, e44, hk, hB, h0', hI2⟩ := ho u J L hI
  obtain ⟨h1, e3⟩ := hK u1 J2 L2 hI2
  obtain ⟨hB1, hB2⟩ := id hB
  have hbb := hb01 _ _ _ e2
  refine ⟨h1, ?_⟩
  have eM : ∀ I K, gi_is (hp u1 I K) 161 10 = some () := fun I K => hi_M
  have et := X12_thrown (u := u1) (J := J2) (L := L2)
  rw [e44] at et
  rw [e1]
  by_cases c : k = 0
  · have hb := h0' c
    have ea := aL193 (J := J2) (L := L2) (u := u1)
    rw [hb] at ea
    subst c
    rcases hbb with z | z
    · subst z
      have ef := hF 0 (hp u1 J2 L2) (by decide)
      simp (disch := omega) only [Option.bind_some, eM, e2, et, ea, ↓drg_ok, if_true, ef, e3]
    · subst z
      have ef := hF 1 (hp u1 J2 L2) (by decide)
      have n10 : ((1 : Int) = 0) = False := eq_false (by decide)
      simp (disch := omega) only [Option.bind_some, eM, e2, et, ea, ↓drg_ok, if_true, n10, if_false, ef, e3]
  · have hk2 : -2147483648 ≤ k ∧ k ≤ 2147483647 := by omega
    simp (disch := omega) only [Option.bind_some, eM, e2, et, ↓drg_ok, if_true, ↓if_neg, e3]
theorem law_n (ho : OPN fL fM) (hI : IX u J L) (hK : KOKN K) : ∃ h1, (Option.bind (gi_is (hp u J L) 0 9) fun _ => Option.bind (fL (hp u J L)) fun q => Option.bind (gi_is q.2 161 10) fun _ => Option.bind (fM q.2) fun q2 => Option.bind (gi_rg q.1) fun _ => Option.bind (gi_rg q2.1) fun _ => if q.1 = q2.1 then K q2.2 else some ((0 : Int), q2.2)) = some (1, h1) := by
  obtain ⟨A, u1, J1, L1, J2, L2, e1, e2, hA, hI2⟩ := ho u J L hI
  obtain ⟨h1, e3⟩ := hK u1 J2 L2 hI2
  obtain ⟨hB1, hB2⟩ := id hA
  refine ⟨h1, ?_⟩
  have eM : ∀ I K, gi_is (hp u1 I K) 161 10 = some () := fun I K => hi_M
  have eX : gi_is (hp u J L) 0 9 = some () := hi_X
  rw [e1]
  simp (disch := omega) only [Option.bind_some, eX, eM, e2, ↓drg_ok, if_true, e3]
theorem law_r (ho : OPR gL' fM) (hI : IX u J L) (hK : KOKN K) : ∃ h1, (Option.bind (gi_is (hp u J L) 0 9) fun _ => Option.bind (gL' (hp u J L)) fun q => Option.bind (gi_is (hp u J L) 161 10) fun _ => Option.bind (fM (hp u J L)) fun q2 => Option.bind (gi_rg q) fun _ => Option.bind (gi_rg q2.1) fun _ => if q = q2.1 then K q2.2 else some ((0 : Int), q2.2)) = some (1, h1) := by
  obtain ⟨A, u1, J2, L2, e1, e2, hA, hI2⟩ := ho u J L hI
  obtain ⟨h1, e3⟩ := hK u1 J2 L2 hI2
  obtain ⟨hB1, hB2⟩ := id hA
  refine ⟨h1, ?_⟩
  have eM : gi_is (hp u J L) 161 10 = some () := hi_M
  have eX : gi_is (hp u J L) 0 9 = some () := hi_X
  rw [e1]
  simp (disch := omega) only [Option.bind_some, eX, eM, e2, ↓drg_ok, if_true, e3]
theorem ite_ex {p : Prop} [Decidable p] {A B : Option (Int × gi_H)} (hA : ∃ h1, A = some (1, h1)) (hB : ∃ h1, B = some (1, h1)) : ∃ h1, (if p then A else B) = some (1, h1) := by
  split
  · exact hA
  · exact hB
end LAW
theorem bind_so {α β : Type} {o : Option α} {f : α → Option β} {y : β} (h : Option.bind o f = some y) : ∃ x, o = some x ∧ f x = some y := by
  cases o with
  | none => exact absurd h (by simp)
  | some x => exact ⟨x, rfl, h⟩
theorem z1_isN {n : Nat} {x : Int} : ∀ h B h', f_X12_isNullable n 161 x h = some (B, h') → B = 0 ∨ B = 1 := by
  intro h B h' e
  unfold f_X12_isNullable at e
  obtain ⟨_, -, e⟩ := bind_so e
  obtain ⟨_, -, e⟩ := bind_so e
  obtain ⟨_, -, e⟩ := bind_so e
  obtain ⟨_, -, e⟩ := bind_so e
  obtain ⟨_, -, e⟩ := bind_so e
  obtain ⟨_, -, e⟩ := bind_so e
  split at e
  · unfold b_X12_isNullable_35 at e; cases e; exact Or.inl rfl
  · obtain ⟨_, -, e⟩ := bind_so e
    obtain ⟨_, -, e⟩ := bind_so e
    split at e
    · cases e; exact Or.inr rfl
    · unfold b_X12_isNullable_35 at e; cases e; exact Or.inl rfl
theorem z1_isL {n : Nat} {x : Int} : ∀ h B h', f_X12_isLeftRecursive n 161 x h = some (B, h') → B = 0 ∨ B = 1 := by
  intro h B h' e
  unfold f_X12_isLeftRecursive at e
  obtain ⟨_, -, e⟩ := bind_so e
  obtain ⟨_, -, e⟩ := bind_so e
  obtain ⟨_, -, e⟩ := bind_so e
  obtain ⟨_, -, e⟩ := bind_so e
  obtain ⟨_, -, e⟩ := bind_so e
  obtain ⟨_, -, e⟩ := bind_so e
  split at e
  · unfold b_X12_isLeftRecursive_37 at e; cases e; exact Or.inl rfl
  · obtain ⟨_, -, e⟩ := bind_so e
    obtain ⟨_, -, e⟩ := bind_so e
    obtain ⟨_, -, e⟩ := bind_so e
    split at e
    · cases e; exact Or.inr rfl
    · unfold b_X12_isLeftRecursive_37 at e; cases e; exact Or.inl rfl
theorem sx_ok {L : Nat} {xs : Nat → Int} {k j : Nat} (h : k + j < L) (hL : L ≤ 2048) : gi_sx L xs ((k : Int) + (j : Int)) = some (xs (k + j)) := by
  have e : ((k : Int) + (j : Int)).toNat = k + j := by omega
  unfold gi_sx
  rw [if_pos (by omega), e]
theorem law_loop {n L : Nat} {xs : Nat → Int} (hn : 1000000000000000000000000000000 ≤ n) (hL : L ≤ 2048) (hxs : ∀ j, gi_ok (xs j)) : ∀ (m f k : Nat) (u : Nat) (J K : Nat → Nat → Int), L < k + 4 * m + 4 → m < f → k ≤ 2048 → IX u J K → ∃ h1, l_L_law_23 n L xs f 0 161 193 (k : Int) (hp u J K) = some (1, h1) := by
  have hty : ∀ j, 0 ≤ xs j % 65536 ∧ xs j % 65536 ≤ 65535 := fun j => by omega
  intro m
  induction m with
  | zero =>
    intro f k u J K hm hf hk hI
    obtain ⟨f', rfl⟩ : ∃ f', f = f' + 1 := ⟨f - 1, by omega⟩
    refine ⟨hp u J K, ?_⟩
    simp (disch := omega) only [l_L_law_23, b_L_law_23, ↓drg_ok, ↓if_pos]
  | succ m ih =>
    intro f k u J K hm hf hk hI
    obtain ⟨f', rfl⟩ : ∃ f', f = f' + 1 := ⟨f - 1, by omega⟩
    by_cases c : (L : Int) - 4 < (k : Int)
    · refine ⟨hp u J K, ?_⟩
      simp (disch := omega) only [l_L_law_23, b_L_law_23, ↓drg_ok, ↓if_pos]
    · have s0 : gi_sx L xs (k : Int) = some (xs k) := sx_ok (k := k) (j := 0) (by omega) hL
      have s1 : gi_sx L xs ((k : Int) + 1) = some (xs (k + 1)) := sx_ok (k := k) (j := 1) (by omega) hL
      have s2 : gi_sx L xs ((k : Int) + 2) = some (xs (k + 2)) := sx_ok (k := k) (j := 2) (by omega) hL
      have s3 : gi_sx L xs ((k : Int) + 3) = some (xs (k + 3)) := sx_ok (k := k) (j := 3) (by omega) hL
      obtain ⟨r23, hr⟩ : ∃ r23, r23 = l_L_law_23 n L xs f' := ⟨_, rfl⟩
      have hK : KOKN (fun h => b_L_law_1586 n L xs r23 0 161 193 (k : Int) h) := fun u J K hI => by
        obtain ⟨h1, e⟩ := ih f' (k + 4) u J K (by omega) (by omega) (by omega) hI
        refine ⟨h1, ?_⟩
        rw [hr]
        exact e
      have eL : l_L_law_23 n L xs (f' + 1) 0 161 193 (k : Int) (hp u J K) = b_L_law_23 n L xs r23 0 161 193 (k : Int) (hp u J K) := by rw [hr]; rfl
      rw [eL]
      obtain ⟨x0, hx0⟩ : ∃ x0, x0 = gi_and (xs k) 31 := ⟨_, rfl⟩
      have hx1 : -2147483648 ≤ x0 ∧ x0 ≤ 2147483647 := by rw [hx0]; exact bt_ok_and _ _
      unfold b_L_law_23
      rw [rg_ok (by omega) (by omega), Option.bind_some, rg_ok (by omega) (by omega), Option.bind_some, if_neg c, s0, Option.bind_some, nm_eq, ← hx0, rg_ok hx1.1 hx1.2, Option.bind_some]
      refine ite_ex ?_ ?_
      · simp only [s1, Option.bind_some]
        exact law_k (K := fun h => b_L_law_223 n L xs r23 0 161 193 (k : Int) h) (op_type (hty (k + 1))) hI hK
      refine ite_ex ?_ ?_
      · exact law_n (K := fun h => b_L_law_1586 n L xs r23 0 161 193 (k : Int) h) (op_wipe (n := n)) hI hK
      refine ite_ex ?_ ?_
      · exact law_r (K := fun h => b_L_law_1586 n L xs r23 0 161 193 (k : Int) h) (op_fault hn) hI hK
      refine ite_ex ?_ ?_
      · exact law_k (K := fun h => b_L_law_293 n L xs r23 0 161 193 (k : Int) h) (op_enter hn) hI hK
      refine ite_ex ?_ ?_
      · exact law_k (K := fun h => b_L_law_337 n L xs r23 0 161 193 (k : Int) h) (op_undo (n := n)) hI hK
      refine ite_ex ?_ ?_
      · simp only [s1, Option.bind_some]
        exact law_k (K := fun h => b_L_law_393 n L xs r23 0 161 193 (k : Int) h) (op_use (n := n) (hxs (k + 1))) hI hK
      refine ite_ex ?_ ?_
      · simp only [s1, Option.bind_some]
        exact law_k (K := fun h => b_L_law_449 n L xs r23 0 161 193 (k : Int) h) (op_bring hn (hxs (k + 1))) hI hK
      refine ite_ex ?_ ?_
      · simp only [s1, Option.bind_some]
        exact law_k (K := fun h => b_L_law_505 n L xs r23 0 161 193 (k : Int) h) (op_start (n := n) (hxs (k + 1))) hI hK
      refine ite_ex ?_ ?_
      · simp only [s1, s2, s3, Option.bind_some]
        exact law_k (K := fun h => b_L_law_585 n L xs r23 0 161 193 (k : Int) h) (op_level (n := n) (hxs (k + 1)) (hxs (k + 2)) (hxs (k + 3))) hI hK
      refine ite_ex ?_ ?_
      · exact law_r (K := fun h => b_L_law_1586 n L xs r23 0 161 193 (k : Int) h) (op_productions (n := n)) hI hK
      refine ite_ex ?_ ?_
      · simp only [s1, Option.bind_some]
        exact law_k (K := fun h => b_L_law_654 n L xs r23 0 161 193 (k : Int) h) (op_left (n := n) (hxs (k + 1))) hI hK
      refine ite_ex ?_ ?_
      · simp only [s1, s2, Option.bind_some]
        exact law_k (K := fun h => b_L_law_722 n L xs r23 0 161 193 (k : Int) h) (op_right (n := n) (hxs (k + 1)) (hxs (k + 2))) hI hK
      refine ite_ex ?_ ?_
      · simp only [s1, Option.bind_some]
        exact law_b (K := fun h => b_L_law_785 n L xs r23 0 161 193 (k : Int) h) (F := fun a b h => b_L_law_779 n L xs r23 0 161 193 (k : Int) a b h) (op_isNullable hn (hxs (k + 1))) z1_isN (fun x h hx => by obtain ⟨q1, q2⟩ := id hx; have ec : gi_cmp x x = 0 := cmp_eq.mpr rfl; simp (disch := omega) only [b_L_law_779, ↓drgL_ok, ec, ↓drg_ok, if_true]) hI hK
      refine ite_ex ?_ ?_
      · simp only [s1, Option.bind_some]
        exact law_k (K := fun h => b_L_law_841 n L xs r23 0 161 193 (k : Int) h) (op_first hn (hxs (k + 1))) hI hK
      refine ite_ex ?_ ?_
      · simp only [s1, Option.bind_some]
        exact law_k (K := fun h => b_L_law_897 n L xs r23 0 161 193 (k : Int) h) (op_follow hn (hxs (k + 1))) hI hK
      refine ite_ex ?_ ?_
      · simp only [s1, Option.bind_some]
        exact law_k (K := fun h => b_L_law_953 n L xs r23 0 161 193 (k : Int) h) (op_uses hn (hxs (k + 1))) hI hK
      refine ite_ex ?_ ?_
      · simp only [s1, Option.bind_some]
        exact law_b (K := fun h => b_L_law_1016 n L xs r23 0 161 193 (k : Int) h) (F := fun a b h => b_L_law_1010 n L xs r23 0 161 193 (k : Int) a b h) (op_isLeftRecursive hn (hxs (k + 1))) z1_isL (fun x h hx => by obtain ⟨q1, q2⟩ := id hx; have ec : gi_cmp x x = 0 := cmp_eq.mpr rfl; simp (disch := omega) only [b_L_law_1010, ↓drgL_ok, ec, ↓drg_ok, if_true]) hI hK
      refine ite_ex ?_ ?_
      · simp only [s1, Option.bind_some]
        exact law_k (K := fun h => b_L_law_1072 n L xs r23 0 161 193 (k : Int) h) (op_shortest hn (hxs (k + 1))) hI hK
      refine ite_ex ?_ ?_
      · simp only [s1, s2, Option.bind_some]
        exact law_k (K := fun h => b_L_law_1140 n L xs r23 0 161 193 (k : Int) h) (op_sentence hn (hxs (k + 1)) (hxs (k + 2))) hI hK
      refine ite_ex ?_ ?_
      · simp only [s1, Option.bind_some]
        exact law_k (K := fun h => b_L_law_1196 n L xs r23 0 161 193 (k : Int) h) (op_size hn (hxs (k + 1))) hI hK
      refine ite_ex ?_ ?_
      · simp only [s1, Option.bind_some]
        exact law_k (K := fun h => b_L_law_1252 n L xs r23 0 161 193 (k : Int) h) (op_conflicts hn (hxs (k + 1))) hI hK
      refine ite_ex ?_ ?_
      · simp only [s1, Option.bind_some]
        exact law_k (K := fun h => b_L_law_1308 n L xs r23 0 161 193 (k : Int) h) (op_settled hn (hxs (k + 1))) hI hK
      refine ite_ex ?_ ?_
      · exact law_n (K := fun h => b_L_law_1586 n L xs r23 0 161 193 (k : Int) h) (op_chosen hn) hI hK
      refine ite_ex ?_ ?_
      · simp only [s1, s2, Option.bind_some]
        exact law_k (K := fun h => b_L_law_1389 n L xs r23 0 161 193 (k : Int) h) (op_put hn (hxs (k + 1)) (hxs (k + 2))) hI hK
      refine ite_ex ?_ ?_
      · simp only [s1, Option.bind_some]
        exact law_k (K := fun h => b_L_law_1445 n L xs r23 0 161 193 (k : Int) h) (op_cut hn (hxs (k + 1))) hI hK
      refine ite_ex ?_ ?_
      · simp only [s1, Option.bind_some]
        exact law_k (K := fun h => b_L_law_1501 n L xs r23 0 161 193 (k : Int) h) (op_parse hn (hxs (k + 1))) hI hK
      refine ite_ex ?_ ?_
      · simp only [s1, Option.bind_some]
        exact law_k (K := fun h => b_L_law_1557 n L xs r23 0 161 193 (k : Int) h) (op_value hn (hxs (k + 1))) hI hK
      refine ite_ex ?_ ?_
      · exact law_n (K := fun h => b_L_law_1586 n L xs r23 0 161 193 (k : Int) h) (op_readings hn) hI hK
      refine ite_ex ?_ ?_
      · exact law_n (K := fun h => b_L_law_1586 n L xs r23 0 161 193 (k : Int) h) (op_repair hn) hI hK
      exact hK u J K hI
set_option maxRecDepth 1000000 in
theorem h0_sz2 : ((f_X11_init gN 0 (gi_nw (0, fun _ => (0, 0), fun _ _ => 0, fun _ _ => 0, fun _ _ => none) (0, 9))).getD (0, fun _ => (0, 0), fun _ _ => 0, fun _ _ => 0, fun _ _ => none)).1 = 161 := by decide +kernel
theorem law_h0 (L : Nat) (xs : Nat → Int) : f_L_law gN L xs (0, fun _ => (0, 0), fun _ _ => 0, fun _ _ => 0, fun _ _ => none) = l_L_law_23 gN L xs 520 0 161 193 0 h0 := by
  have hs := h0_some
  obtain ⟨x, hx⟩ := Option.isSome_iff_exists.mp hs
  have e0 : h0 = x := by unfold h0; rw [hx]; rfl
  have es := h0_sz
  have e2 := h0_sz2
  rw [e0] at es ⊢
  clear hs e0
  unfold gh_mk at hx
  unfold f_L_law
  simp only [nm_eq] at hx ⊢
  obtain ⟨y1, a1, hx⟩ := bind_so hx
  obtain ⟨q2, a2, hx⟩ := bind_so hx
  obtain ⟨y3, a3, hx⟩ := bind_so hx
  obtain ⟨q5, a5, hx⟩ := bind_so hx
  obtain ⟨y6, a6, hx⟩ := bind_so hx
  have ex : gi_nw q5 (2, 1) = x := Option.some.inj hx
  have sz5 : gi_sz q5 = 193 := by
    have : gi_sz (gi_nw q5 (2, 1)) = gi_sz q5 + 1 := rfl
    rw [ex, es] at this
    omega
  rw [a2] at e2
  have sz2 : gi_sz q2 = 161 := e2
  have sz0 : gi_sz ((0, fun _ => (0, 0), fun _ _ => 0, fun _ _ => 0, fun _ _ => none) : gi_H) = 0 := rfl
  rw [sz2] at a5
  rw [a1]
  simp only [Option.bind_some, sz0, a2, a3, sz2, a5, a6, sz5, ex]
theorem law_pure (L : Nat) (xs : Nat → Int) (hL : L ≤ 2048) (hx : ∀ j, gi_ok (xs j)) : ∃ (n : Nat) (h1 : gi_H), f_L_law n L xs (0, fun _ => (0, 0), fun _ _ => 0, fun _ _ => 0, fun _ _ => none) = some (1, h1) := by
  have hn : 1000000000000000000000000000000 ≤ gN := by decide
  obtain ⟨h1, e⟩ := law_loop (n := gN) hn hL hx 512 520 0 0 (gi_I h0) (gi_L h0) (by omega) (by omega) (by omega) ix_0
  refine ⟨gN, h1, ?_⟩
  rw [law_h0, h0_eq]
  exact e
