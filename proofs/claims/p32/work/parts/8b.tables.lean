/-! ===== the law's check of tables answers 1 ===== -/
theorem shl_k : ∀ k : Fin 4, gi_shl 1 (k.val : Int) = ((2 ^ k.val : Nat) : Int) := by decide
theorem bit_1 : ∀ x : Fin 16, gi_and (gi_shr (x.val : Int) 1) 1 = ((x.val / 2 % 2 : Nat) : Int) := by decide
theorem bit_2 : ∀ x : Fin 16, gi_and (gi_shr (x.val : Int) 2) 1 = ((x.val / 4 % 2 : Nat) : Int) := by decide
theorem bit_3 : ∀ x : Fin 16, gi_and (gi_shr (x.val : Int) 3) 1 = ((x.val / 8 % 2 : Nat) : Int) := by decide
noncomputable def cle (g : GT) (lv : Nat → Int) (kd : Nat) : Nat := if zcc g kd lv false = 0 then 2 ^ kd else 0
section TT_
variable {n : Nat} {u : Nat} {ps ps1 : List (Nat × List Nat)} {rs rs1 : List (Nat × List Int)} {t : List Int} {lv sd : Nat → Int} {w : Nat → Nat} {nw tp tq : Nat} {J L : Nat → Nat → Int}
theorem kd_facts {g : GT} {kd : Nat} (hk : kd ≤ 3) : zcc g kd lv true ≤ zcc g kd lv false ∧ (zcc g kd lv true = -2 ↔ zcc g kd lv false = -2) ∧ (zcc g kd lv false = -2 ↔ zsz g kd = -2) := by
  by_cases c : kd = 0
  · subst c
    have e1 : zcc g 0 lv false = (zpn g 2 : Int) := rfl
    have e2 : zcc g 0 lv true = 0 := rfl
    have e3 : zsz g 0 = (zpn g 1 : Int) := rfl
    rw [e1, e2, e3]
    omega
  · have h := zcn_ge (g := g) (kd := kd) (lv := lv)
    have e : ∀ s, zcc g kd lv s = zcn g kd lv s := fun s => if_neg c
    rw [e, e]
    refine ⟨h.1, h.2.1, h.2.2.trans ?_⟩
    unfold zsz
    rw [if_neg c]
    by_cases c2 : Sb (zS g (kb kd)) = true
    · rw [if_pos c2]; exact ⟨fun _ => rfl, fun _ => c2⟩
    · rw [if_neg c2]
      exact ⟨fun z => absurd z c2, fun z => by omega⟩
theorem tb_turn (hn : 1000000000000000000000000000000 ≤ n) (h : JV u ps rs ps1 rs1 t lv sd w nw tp tq J L) {m kd : Nat} (hk : kd + m = 3) {v3 : Int} {cl : Nat} (hcl : cl ≤ 1000) (rr : Nat → Int → Int → Int → Int → Int → gi_H → Option (Int × gi_H)) :
    ∃ J1 K, b_L_tables_68 n rr 0 v3 1 (zch (gtp ps tp) lv m) (cl : Int) (kd : Int) (hp u J L) = rr 0 v3 1 (zch (gtp ps tp) lv (m + 1)) ((cl + cle (gtp ps tp) lv kd : Nat) : Int) ((kd : Int) - 1) (hp u J1 K) ∧ CQO u (gtp ps tp) J L J1 K := by
  have hg := h.gr
  obtain ⟨J1, K1, e1, q1⟩ := k_conflicts (kd := kd) hn h (by omega)
  have h1 := (h.c q1).1
  obtain ⟨J2, K2, e2, q2⟩ := k_settled (kd := kd) hn h1 (by omega)
  have h2 := (h1.c q2).1
  obtain ⟨J3, K3, e3, q3⟩ := k_size (kd := kd) hn h2 (by omega)
  refine ⟨J3, K3, ?_, (q1.tr q2).tr q3⟩
  obtain ⟨f1, f2, f3⟩ := kd_facts (g := gtp ps tp) (lv := lv) (kd := kd) (by omega)
  have o1 := zcc_ok (kd := kd) (lv := lv) (s := false) hg
  have o2 := zcc_ok (kd := kd) (lv := lv) (s := true) hg
  have o3 := zsz_ok (kd := kd) hg
  have o4 := zch_ok (g := gtp ps tp) (lv := lv) m
  have eS := shl_k ⟨kd, by omega⟩
  have eS : gi_shl 1 (kd : Int) = ((2 ^ kd : Nat) : Int) := eS
  have h2k : 2 ^ kd ≤ 8 := Nat.pow_le_pow_right (by omega) (show kd ≤ 3 by omega)
  have ekd : (kd : Int) + -1 = (kd : Int) - 1 := rfl
  have hch : zch (gtp ps tp) lv (m + 1) = if zcc (gtp ps tp) kd lv false ≠ -2 ∧ zcc (gtp ps tp) kd lv false = zcc (gtp ps tp) kd lv true then (kd : Int) else zch (gtp ps tp) lv m := by
    have : 3 - m = kd := by omega
    show (if zcc (gtp ps tp) (3 - m) lv false ≠ -2 ∧ zcc (gtp ps tp) (3 - m) lv false = zcc (gtp ps tp) (3 - m) lv true then ((3 - m : Nat) : Int) else zch (gtp ps tp) lv m) = _
    rw [this]
  rw [hch]
  unfold cle
  generalize zcc (gtp ps tp) kd lv false = A at *
  generalize zcc (gtp ps tp) kd lv true = B at *
  generalize zsz (gtp ps tp) kd = S at *
  generalize zch (gtp ps tp) lv m = C at *
  generalize 2 ^ kd = P at *
  by_cases c1 : A = -2
  · have c2 : B = -2 := f2.mpr c1
    have c3 : S = -2 := f3.mp c1
    rw [if_neg (by omega), if_neg (by omega), Nat.add_zero]
    simp (disch := omega) only [b_L_tables_68, b_L_tables_106, b_L_tables_118, b_L_tables_133, b_L_tables_149, b_L_tables_164, b_L_tables_185, b_L_tables_187, b_L_tables_204, ↓bnd e1, ↓bnd e2, ↓bnd e3, Option.bind_some, ↓nm_eq, ↓sm_inl, ↓sm_inr, ↓dzo_0, ↓dzo_1, ↓drg_ok, ↓if_pos, ↓if_neg, if_pos, if_neg, if_true, if_false, Int.toNat_natCast, rg_ok, ekd, Int.add_zero]
  · have c2 : B ≠ -2 := fun z => c1 (f2.mp z)
    have c3 : S ≠ -2 := fun z => c1 (f3.mpr z)
    by_cases c4 : A = B
    · rw [if_pos ⟨c1, c4⟩]
      by_cases c5 : A = 0
      · rw [if_pos c5]
        have ea : (cl : Int) + (P : Int) = ((cl + P : Nat) : Int) := rfl
        simp (disch := omega) only [b_L_tables_68, b_L_tables_106, b_L_tables_118, b_L_tables_133, b_L_tables_149, b_L_tables_164, b_L_tables_187, b_L_tables_204, ↓bnd e1, ↓bnd e2, ↓bnd e3, Option.bind_some, ↓nm_eq, ↓sm_inl, ↓sm_inr, ↓dzo_0, ↓dzo_1, ↓drg_ok, ↓if_pos, ↓if_neg, if_pos, if_neg, if_true, if_false, Int.toNat_natCast, rg_ok, ekd, eS, ea]
      · rw [if_neg c5, Nat.add_zero]
        simp (disch := omega) only [b_L_tables_68, b_L_tables_106, b_L_tables_118, b_L_tables_133, b_L_tables_149, b_L_tables_164, b_L_tables_187, b_L_tables_204, ↓bnd e1, ↓bnd e2, ↓bnd e3, Option.bind_some, ↓nm_eq, ↓sm_inl, ↓sm_inr, ↓dzo_0, ↓dzo_1, ↓drg_ok, ↓if_pos, ↓if_neg, if_pos, if_neg, if_true, if_false, Int.toNat_natCast, rg_ok, ekd, Int.add_zero]
    · rw [if_neg (fun z => c4 z.2)]
      by_cases c5 : A = 0
      · rw [if_pos c5]
        have ea : (cl : Int) + (P : Int) = ((cl + P : Nat) : Int) := rfl
        simp (disch := omega) only [b_L_tables_68, b_L_tables_106, b_L_tables_118, b_L_tables_133, b_L_tables_149, b_L_tables_164, b_L_tables_185, b_L_tables_187, b_L_tables_204, ↓bnd e1, ↓bnd e2, ↓bnd e3, Option.bind_some, ↓nm_eq, ↓sm_inl, ↓sm_inr, ↓dzo_0, ↓dzo_1, ↓drg_ok, ↓if_pos, ↓if_neg, if_pos, if_neg, if_true, if_false, Int.toNat_natCast, rg_ok, ekd, eS, ea]
      · rw [if_neg c5, Nat.add_zero]
        simp (disch := omega) only [b_L_tables_68, b_L_tables_106, b_L_tables_118, b_L_tables_133, b_L_tables_149, b_L_tables_164, b_L_tables_185, b_L_tables_187, b_L_tables_204, ↓bnd e1, ↓bnd e2, ↓bnd e3, Option.bind_some, ↓nm_eq, ↓sm_inl, ↓sm_inr, ↓dzo_0, ↓dzo_1, ↓drg_ok, ↓if_pos, ↓if_neg, if_pos, if_neg, if_true, if_false, Int.toNat_natCast, rg_ok, ekd, Int.add_zero]
theorem tb_end (hn : 1000000000000000000000000000000 ≤ n) (h : JV u ps rs ps1 rs1 t lv sd w nw tp tq J L) (rr : Nat → Int → Int → Int → Int → Int → gi_H → Option (Int × gi_H)) {cl : Nat} (e : cl = cle (gtp ps tp) lv 3 + cle (gtp ps tp) lv 2 + cle (gtp ps tp) lv 1 + cle (gtp ps tp) lv 0) :
    ∃ J1 K, b_L_tables_68 n rr 0 (zsz (gtp ps tp) 3) 1 (zch (gtp ps tp) lv 4) (cl : Int) (-1) (hp u J L) = some (1, hp u J1 K) ∧ CQO u (gtp ps tp) J L J1 K := by
  have hg := h.gr
  obtain ⟨J1, K1, e1, q1⟩ := k_chosen hn h
  refine ⟨J1, K1, ?_, q1⟩
  have o4 := zch_ok (g := gtp ps tp) (lv := lv) 4
  have o3 := zsz_ok (kd := 3) hg
  have c12 : zcc (gtp ps tp) 1 lv false = 0 → zcc (gtp ps tp) 2 lv false = 0 := clean12 hg
  have c23 : zcc (gtp ps tp) 2 lv false = 0 → zsz (gtp ps tp) 3 < 0 ∨ zcc (gtp ps tp) 3 lv false = 0 := by
    intro z
    by_cases c : Sb (zS (gtp ps tp) false) = true
    · left
      have : zsz (gtp ps tp) 3 = -2 := (if_neg (by decide)).trans (if_pos c)
      omega
    · exact Or.inr (clean23 hg z (by simpa using c))
  have hb : cl < 16 ∧ (cl / 2 % 2 = 1 ↔ zcc (gtp ps tp) 1 lv false = 0) ∧ (cl / 4 % 2 = 1 ↔ zcc (gtp ps tp) 2 lv false = 0) ∧ (cl / 8 % 2 = 1 ↔ zcc (gtp ps tp) 3 lv false = 0) := by
    unfold cle at e
    by_cases a3 : zcc (gtp ps tp) 3 lv false = 0 <;> by_cases a2 : zcc (gtp ps tp) 2 lv false = 0 <;> by_cases a1 : zcc (gtp ps tp) 1 lv false = 0 <;> by_cases a0 : zcc (gtp ps tp) 0 lv false = 0 <;> simp only [a3, a2, a1, a0, if_true, if_false] at e <;> omega
  obtain ⟨b0, b1, b2, b3⟩ := hb
  have g1 : gi_and (gi_shr (cl : Int) 1) 1 = ((cl / 2 % 2 : Nat) : Int) := bit_1 ⟨cl, b0⟩
  have g2 : gi_and (gi_shr (cl : Int) 2) 1 = ((cl / 4 % 2 : Nat) : Int) := bit_2 ⟨cl, b0⟩
  have g3 : gi_and (gi_shr (cl : Int) 3) 1 = ((cl / 8 % 2 : Nat) : Int) := bit_3 ⟨cl, b0⟩
  have m1 : cl / 2 % 2 < 2 := Nat.mod_lt _ (by omega)
  have m2 : cl / 4 % 2 < 2 := Nat.mod_lt _ (by omega)
  have m3 : cl / 8 % 2 < 2 := Nat.mod_lt _ (by omega)
  generalize zch (gtp ps tp) lv 4 = C at *
  generalize zsz (gtp ps tp) 3 = S at *
  have hx : cl / 2 % 2 = 1 → cl / 4 % 2 = 1 := fun z => b2.mpr (c12 (b1.mp z))
  have hy : cl / 4 % 2 = 1 → S < 0 ∨ cl / 8 % 2 = 1 := fun z => (c23 (b2.mp z)).elim Or.inl (fun y => Or.inr (b3.mpr y))
  clear b1 b2 b3 c12 c23 e
  generalize cl / 2 % 2 = x1 at *
  generalize cl / 4 % 2 = x2 at *
  generalize cl / 8 % 2 = x3 at *
  have x1c : x1 = 0 ∨ x1 = 1 := by omega
  have x2c : x2 = 0 ∨ x2 = 1 := by omega
  have x3c : x3 = 0 ∨ x3 = 1 := by omega
  rcases x1c with rfl | rfl <;> rcases x2c with rfl | rfl <;> rcases x3c with rfl | rfl
  · simp (disch := omega) only [b_L_tables_68, b_L_tables_213, b_L_tables_228, b_L_tables_245, b_L_tables_262, b_L_tables_288, b_L_tables_302, g1, g2, g3, ↓dhi_X, ↓dhG_X_0, ↓dhG_X_1, ↓dhG_X_2, ↓dhg_X_3, ↓dhq_X_3, ↓dhG_X_4, ↓dhG_X_5, ↓dhG_X_6, ↓dhg_X_7, ↓dhq_X_7, ↓dhG_X_8, ↓dhG_X_9, ↓dhG_X_10, ↓dhG_X_11, ↓dhG_X_12, ↓dhG_X_13, ↓dhG_X_14, ↓dhG_X_15, ↓dhG_X_16, Option.bind_some, ↓nm_eq, ↓sm_inl, ↓sm_inr, ↓dzo_0, ↓dzo_1, ↓drg_ok, ↓if_pos, ↓if_neg, if_pos, if_neg, if_true, if_false, Int.toNat_natCast, rg_ok, ↓bnd e1]
  · simp (disch := omega) only [b_L_tables_68, b_L_tables_213, b_L_tables_228, b_L_tables_245, b_L_tables_262, b_L_tables_288, b_L_tables_302, g1, g2, g3, ↓dhi_X, ↓dhG_X_0, ↓dhG_X_1, ↓dhG_X_2, ↓dhg_X_3, ↓dhq_X_3, ↓dhG_X_4, ↓dhG_X_5, ↓dhG_X_6, ↓dhg_X_7, ↓dhq_X_7, ↓dhG_X_8, ↓dhG_X_9, ↓dhG_X_10, ↓dhG_X_11, ↓dhG_X_12, ↓dhG_X_13, ↓dhG_X_14, ↓dhG_X_15, ↓dhG_X_16, Option.bind_some, ↓nm_eq, ↓sm_inl, ↓sm_inr, ↓dzo_0, ↓dzo_1, ↓drg_ok, ↓if_pos, ↓if_neg, if_pos, if_neg, if_true, if_false, Int.toNat_natCast, rg_ok, ↓bnd e1]
  · have hS := (hy rfl).resolve_right (by omega)
    simp (disch := omega) only [b_L_tables_68, b_L_tables_213, b_L_tables_228, b_L_tables_245, b_L_tables_262, b_L_tables_288, b_L_tables_302, g1, g2, g3, ↓dhi_X, ↓dhG_X_0, ↓dhG_X_1, ↓dhG_X_2, ↓dhg_X_3, ↓dhq_X_3, ↓dhG_X_4, ↓dhG_X_5, ↓dhG_X_6, ↓dhg_X_7, ↓dhq_X_7, ↓dhG_X_8, ↓dhG_X_9, ↓dhG_X_10, ↓dhG_X_11, ↓dhG_X_12, ↓dhG_X_13, ↓dhG_X_14, ↓dhG_X_15, ↓dhG_X_16, Option.bind_some, ↓nm_eq, ↓sm_inl, ↓sm_inr, ↓dzo_0, ↓dzo_1, ↓drg_ok, ↓if_pos, ↓if_neg, if_pos, if_neg, if_true, if_false, Int.toNat_natCast, rg_ok, ↓bnd e1]
  · simp (disch := omega) only [b_L_tables_68, b_L_tables_213, b_L_tables_228, b_L_tables_245, b_L_tables_262, b_L_tables_288, b_L_tables_302, g1, g2, g3, ↓dhi_X, ↓dhG_X_0, ↓dhG_X_1, ↓dhG_X_2, ↓dhg_X_3, ↓dhq_X_3, ↓dhG_X_4, ↓dhG_X_5, ↓dhG_X_6, ↓dhg_X_7, ↓dhq_X_7, ↓dhG_X_8, ↓dhG_X_9, ↓dhG_X_10, ↓dhG_X_11, ↓dhG_X_12, ↓dhG_X_13, ↓dhG_X_14, ↓dhG_X_15, ↓dhG_X_16, Option.bind_some, ↓nm_eq, ↓sm_inl, ↓sm_inr, ↓dzo_0, ↓dzo_1, ↓drg_ok, ↓if_pos, ↓if_neg, if_pos, if_neg, if_true, if_false, Int.toNat_natCast, rg_ok, ↓bnd e1]
  · exact absurd (hx rfl) (by omega)
  · exact absurd (hx rfl) (by omega)
  · have hS := (hy rfl).resolve_right (by omega)
    simp (disch := omega) only [b_L_tables_68, b_L_tables_213, b_L_tables_228, b_L_tables_245, b_L_tables_262, b_L_tables_288, b_L_tables_302, g1, g2, g3, ↓dhi_X, ↓dhG_X_0, ↓dhG_X_1, ↓dhG_X_2, ↓dhg_X_3, ↓dhq_X_3, ↓dhG_X_4, ↓dhG_X_5, ↓dhG_X_6, ↓dhg_X_7, ↓dhq_X_7, ↓dhG_X_8, ↓dhG_X_9, ↓dhG_X_10, ↓dhG_X_11, ↓dhG_X_12, ↓dhG_X_13, ↓dhG_X_14, ↓dhG_X_15, ↓dhG_X_16, Option.bind_some, ↓nm_eq, ↓sm_inl, ↓sm_inr, ↓dzo_0, ↓dzo_1, ↓drg_ok, ↓if_pos, ↓if_neg, if_pos, if_neg, if_true, if_false, Int.toNat_natCast, rg_ok, ↓bnd e1]
  · simp (disch := omega) only [b_L_tables_68, b_L_tables_213, b_L_tables_228, b_L_tables_245, b_L_tables_262, b_L_tables_288, b_L_tables_302, g1, g2, g3, ↓dhi_X, ↓dhG_X_0, ↓dhG_X_1, ↓dhG_X_2, ↓dhg_X_3, ↓dhq_X_3, ↓dhG_X_4, ↓dhG_X_5, ↓dhG_X_6, ↓dhg_X_7, ↓dhq_X_7, ↓dhG_X_8, ↓dhG_X_9, ↓dhG_X_10, ↓dhG_X_11, ↓dhG_X_12, ↓dhG_X_13, ↓dhG_X_14, ↓dhG_X_15, ↓dhG_X_16, Option.bind_some, ↓nm_eq, ↓sm_inl, ↓sm_inr, ↓dzo_0, ↓dzo_1, ↓drg_ok, ↓if_pos, ↓if_neg, if_pos, if_neg, if_true, if_false, Int.toNat_natCast, rg_ok, ↓bnd e1]
theorem ck_tables (hn : 1000000000000000000000000000000 ≤ n) (h : JV u ps rs ps1 rs1 t lv sd w nw tp tq J L) : ∃ J1 K, f_L_tables n 0 (hp u J L) = some (1, hp u J1 K) ∧ CQO u (gtp ps tp) J L J1 K := by
  have hg := h.gr
  obtain ⟨J1, K1, e1, q1⟩ := k_size (kd := 1) hn h (by omega)
  have h1 := (h.c q1).1
  obtain ⟨J2, K2, e2, q2⟩ := k_size (kd := 2) hn h1 (by omega)
  have h2 := (h1.c q2).1
  obtain ⟨J3, K3, e3, q3⟩ := k_size (kd := 3) hn h2 (by omega)
  have h3 := (h2.c q3).1
  obtain ⟨J4, K4, e4, q4⟩ := tb_turn hn h3 (m := 0) (kd := 3) rfl (v3 := zsz (gtp ps tp) 3) (cl := 0) (by omega) (l_L_tables_68 n 4)
  have h4 := (h3.c q4).1
  have hc : ∀ k, k ≤ 3 → cle (gtp ps tp) lv k ≤ 8 := by
    intro k hk
    unfold cle
    have : 2 ^ k ≤ 8 := Nat.pow_le_pow_right (by omega) hk
    split <;> omega
  have hc3 := hc 3 (by omega)
  have hc2 := hc 2 (by omega)
  have hc1 := hc 1 (by omega)
  have hc0 := hc 0 (by omega)
  obtain ⟨J5, K5, e5, q5⟩ := tb_turn hn h4 (m := 1) (kd := 2) rfl (v3 := zsz (gtp ps tp) 3) (cl := 0 + cle (gtp ps tp) lv 3) (by omega) (l_L_tables_68 n 3)
  have h5 := (h4.c q5).1
  obtain ⟨J6, K6, e6, q6⟩ := tb_turn hn h5 (m := 2) (kd := 1) rfl (v3 := zsz (gtp ps tp) 3) (cl := 0 + cle (gtp ps tp) lv 3 + cle (gtp ps tp) lv 2) (by omega) (l_L_tables_68 n 2)
  have h6 := (h5.c q6).1
  obtain ⟨J7, K7, e7, q7⟩ := tb_turn hn h6 (m := 3) (kd := 0) rfl (v3 := zsz (gtp ps tp) 3) (cl := 0 + cle (gtp ps tp) lv 3 + cle (gtp ps tp) lv 2 + cle (gtp ps tp) lv 1) (by omega) (l_L_tables_68 n 1)
  have h7 := (h6.c q7).1
  obtain ⟨J8, K8, e8, q8⟩ := tb_end hn h7 (l_L_tables_68 n 0) (cl := 0 + cle (gtp ps tp) lv 3 + cle (gtp ps tp) lv 2 + cle (gtp ps tp) lv 1 + cle (gtp ps tp) lv 0) (by omega)
  refine ⟨J8, K8, ?_, (((((((q1.tr q2).tr q3).tr q4).tr q5).tr q6).tr q7).tr q8)⟩
  have hloop : b_L_tables_52 n 0 (zsz (gtp ps tp) 3) (hp u J3 K3) = some (1, hp u J8 K8) := by
    show b_L_tables_68 n (l_L_tables_68 n 4) 0 (zsz (gtp ps tp) 3) 1 (-1) 0 3 (hp u J3 K3) = _
    refine Eq.trans e4 ?_
    refine Eq.trans e5 ?_
    refine Eq.trans e6 ?_
    refine Eq.trans e7 ?_
    exact e8
  have o1 := zsz_ok (kd := 1) hg
  have o3 := zsz_ok (kd := 3) hg
  have e12 : zsz (gtp ps tp) 2 = zsz (gtp ps tp) 1 := rfl
  rw [e12] at e2
  have f1 : zsz (gtp ps tp) 1 = -2 ∨ (0 < zsz (gtp ps tp) 1 ∧ zsz (gtp ps tp) 1 ≤ 80) := by
    have hz : zsz (gtp ps tp) 1 = if Sb (zS (gtp ps tp) true) = true then -2 else (Sn (zS (gtp ps tp) true) : Int) := if_neg (by decide)
    have := zS_n (b := true) hg
    rw [hz]
    split <;> omega
  have f3 : zsz (gtp ps tp) 3 = -2 ∨ (zsz (gtp ps tp) 1 ≤ zsz (gtp ps tp) 3 ∧ 0 < zsz (gtp ps tp) 1 ∧ zsz (gtp ps tp) 3 ≤ 80) := by
    have hz : zsz (gtp ps tp) 3 = if Sb (zS (gtp ps tp) false) = true then -2 else (Sn (zS (gtp ps tp) false) : Int) := if_neg (by decide)
    have hz1 : zsz (gtp ps tp) 1 = if Sb (zS (gtp ps tp) true) = true then -2 else (Sn (zS (gtp ps tp) true) : Int) := if_neg (by decide)
    by_cases c : Sb (zS (gtp ps tp) false) = true
    · rw [hz, if_pos c]; exact Or.inl rfl
    · have hb : Sb (zS (gtp ps tp) false) = false := by simpa using c
      obtain ⟨p1, p2⟩ := prj_all hg hb
      have n1 := zS_n (b := true) hg
      have n2 := zS_n (b := false) hg
      rw [hz, hz1, if_neg c, if_neg (by rw [p1]; decide)]
      omega
  have e1' : f_L_size n 0 1 (hp u J L) = some (zsz (gtp ps tp) 1, hp u J1 K1) := e1
  have e2' : f_L_size n 0 2 (hp u J1 K1) = some (zsz (gtp ps tp) 1, hp u J2 K2) := e2
  have e3' : f_L_size n 0 3 (hp u J2 K2) = some (zsz (gtp ps tp) 3, hp u J3 K3) := e3
  generalize zsz (gtp ps tp) 1 = S1 at *
  generalize zsz (gtp ps tp) 3 = S3 at *
  rcases f3 with rfl | ⟨g1, g2, g3⟩
  · simp (disch := omega) only [f_L_tables, ↓bnd e1', ↓bnd e2', ↓bnd e3', Option.bind_some, ↓nm_eq, ↓sm_inl, ↓sm_inr, ↓dzo_0, ↓dzo_1, ↓drg_ok, ↓if_pos, ↓if_neg, if_pos, if_neg, if_true, if_false, Int.toNat_natCast, rg_ok]
    exact hloop
  · simp (disch := omega) only [f_L_tables, ↓bnd e1', ↓bnd e2', ↓bnd e3', Option.bind_some, ↓nm_eq, ↓sm_inl, ↓sm_inr, ↓dzo_0, ↓dzo_1, ↓drg_ok, ↓if_pos, ↓if_neg, if_pos, if_neg, if_true, if_false, Int.toNat_natCast, rg_ok]
    exact hloop
end TT_
