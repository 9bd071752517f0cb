/-! ===== calls: what is found ===== -/
theorem xI1 : (gx_IOB = gx_IOB) = True := eq_self _
theorem xI2 : (gx_IAE = gx_IAE) = True := eq_self _
theorem xI3 : (gx_ISE = gx_ISE) = True := eq_self _
theorem xI4 : (gx_ISE = gx_IAE) = False := by simp [gx_ISE, gx_IAE]
theorem xI5 : (gx_IAE = gx_IOB) = False := by simp [gx_IAE, gx_IOB]
theorem xI6 : (gx_ISE = gx_IOB) = False := by simp [gx_ISE, gx_IOB]
section CLS
variable {u : Nat} {n : Nat} {J L : Nat → Nat → Int} {g : GT}
theorem CST.lrn (hn : 1000000000000000000000000000000 ≤ n) (h : CST u g J L) : ∃ J1 K, f_X3_learn n 64 (hp u J L) = some (hp u J1 K) ∧ CQO u g J L J1 K ∧ cF g J1 K ∧ CTB u g 0 J1 K := by
  obtain ⟨J1, K, e, f, fk, q, c, q1, hF, hE⟩ := h.learn (u := u) hn
  exact ⟨J1, K, e, ⟨f.up (fun a z => by simp at z; simp [CLQ]; omega), fk, c⟩, hF, c, q1, hF, hE, fun z => absurd z (by decide)⟩
theorem reqN_1 {a : Nat} (ha : a < 16) (h : gi_H) : f_X11_requireNonterminal (a : Int) h = some (.inl (), h) := by
  simp (disch := omega) only [f_X11_requireNonterminal, Option.bind_some, ↓nm_eq, ↓sm_inl, ↓sm_inr, ↓dzo_0, ↓dzo_1, ↓drg_ok, ↓if_pos, ↓if_neg, if_pos, if_neg, if_true, if_false, Int.toNat_natCast, rg_ok]
theorem reqN_0 {a : Int} (ha : a < 0 ∨ 16 ≤ a) (hx : gi_ok a) (h : gi_H) : f_X11_requireNonterminal a h = some (.inr gx_IOB, h) := by
  obtain ⟨h1, h2⟩ := hx
  by_cases c : a < 0
  · simp (disch := omega) only [f_X11_requireNonterminal, b_X11_requireNonterminal_10, Option.bind_some, ↓nm_eq, ↓sm_inl, ↓sm_inr, ↓dzo_0, ↓dzo_1, ↓drg_ok, ↓if_pos, ↓if_neg, if_pos, if_neg, if_true, if_false, Int.toNat_natCast, rg_ok]
  · simp (disch := omega) only [f_X11_requireNonterminal, b_X11_requireNonterminal_10, Option.bind_some, ↓nm_eq, ↓sm_inl, ↓sm_inr, ↓dzo_0, ↓dzo_1, ↓drg_ok, ↓if_pos, ↓if_neg, if_pos, if_neg, if_true, if_false, Int.toNat_natCast, rg_ok]
theorem X3_least {a : Nat} (ha : a < 16) : f_X3_least 64 (a : Int) (hp u J L) = some (J 68 (16 + a)) := by
  have e : (16 : Int) + (a : Int) = ((16 + a : Nat) : Int) := by omega
  have el := X3_leastOf (u := u) (L := L) (I := J) (16 + a) (by omega)
  simp (disch := omega) only [f_X3_least, ↓dhi_F, ↓dhG_F_0, ↓dhg_F_1, ↓dhq_F_1, ↓dhg_F_2, ↓dhq_F_2, ↓dhg_F_3, ↓dhq_F_3, ↓dhg_F_4, ↓dhq_F_4, ↓dhG_F_5, ↓dhG_F_6, ↓dhG_F_7, ↓dhG_F_8, ↓dhG_F_9, ↓dhg_F_10, ↓dhq_F_10, ↓dhG_F_11, ↓dhG_F_12, ↓dhG_F_13, Option.bind_some, ↓nm_eq, ↓sm_inl, ↓sm_inr, ↓dzo_0, ↓dzo_1, ↓drg_ok, ↓if_pos, ↓if_neg, if_pos, if_neg, if_true, if_false, Int.toNat_natCast, rg_ok, e, ↓bnd el]
theorem X3_firsts {a : Nat} (ha : a < 16) : f_X3_firsts 64 (a : Int) (hp u J L) = some (gi_and (J 65 (16 + a)) 255) := by
  have e : (16 : Int) + (a : Int) = ((16 + a : Nat) : Int) := by omega
  have el := X3_beginOf (u := u) (L := L) (I := J) (16 + a) (by omega)
  simp (disch := omega) only [f_X3_firsts, ↓dhi_F, ↓dhG_F_0, ↓dhg_F_1, ↓dhq_F_1, ↓dhg_F_2, ↓dhq_F_2, ↓dhg_F_3, ↓dhq_F_3, ↓dhg_F_4, ↓dhq_F_4, ↓dhG_F_5, ↓dhG_F_6, ↓dhG_F_7, ↓dhG_F_8, ↓dhG_F_9, ↓dhg_F_10, ↓dhq_F_10, ↓dhG_F_11, ↓dhG_F_12, ↓dhG_F_13, Option.bind_some, ↓nm_eq, ↓sm_inl, ↓sm_inr, ↓dzo_0, ↓dzo_1, ↓drg_ok, ↓if_pos, ↓if_neg, if_pos, if_neg, if_true, if_false, Int.toNat_natCast, rg_ok, e, ↓bnd el]
theorem X3_vanishes {a : Nat} (ha : a < 16) : f_X3_vanishes 64 (a : Int) (hp u J L) = some (b01 (bt (J 65 (16 + a)) 9)) := by
  have e : (16 : Int) + (a : Int) = ((16 + a : Nat) : Int) := by omega
  have el := X3_beginOf (u := u) (L := L) (I := J) (16 + a) (by omega)
  have hr := bt_ok_and (J 65 (16 + a)) 512
  have h5 := bt_and512 (x := J 65 (16 + a))
  cases c : bt (J 65 (16 + a)) 9 with
  | true =>
    have c' : gi_and (J 65 (16 + a)) 512 ≠ 0 := fun z => by rw [h5.mp z] at c; exact absurd c (by decide)
    rw [b01_t]
    simp (disch := omega) only [f_X3_vanishes, ↓dhi_F, ↓dhG_F_0, ↓dhg_F_1, ↓dhq_F_1, ↓dhg_F_2, ↓dhq_F_2, ↓dhg_F_3, ↓dhq_F_3, ↓dhg_F_4, ↓dhq_F_4, ↓dhG_F_5, ↓dhG_F_6, ↓dhG_F_7, ↓dhG_F_8, ↓dhG_F_9, ↓dhg_F_10, ↓dhq_F_10, ↓dhG_F_11, ↓dhG_F_12, ↓dhG_F_13, Option.bind_some, ↓nm_eq, ↓sm_inl, ↓sm_inr, ↓dzo_0, ↓dzo_1, ↓drg_ok, ↓if_pos, ↓if_neg, if_pos, if_neg, if_true, if_false, Int.toNat_natCast, rg_ok, e, ↓bnd el]
  | false =>
    have c' := h5.mpr c
    rw [b01_f]
    simp (disch := omega) only [f_X3_vanishes, ↓dhi_F, ↓dhG_F_0, ↓dhg_F_1, ↓dhq_F_1, ↓dhg_F_2, ↓dhq_F_2, ↓dhg_F_3, ↓dhq_F_3, ↓dhg_F_4, ↓dhq_F_4, ↓dhG_F_5, ↓dhG_F_6, ↓dhG_F_7, ↓dhG_F_8, ↓dhG_F_9, ↓dhg_F_10, ↓dhq_F_10, ↓dhG_F_11, ↓dhG_F_12, ↓dhG_F_13, Option.bind_some, ↓nm_eq, ↓sm_inl, ↓sm_inr, ↓dzo_0, ↓dzo_1, ↓drg_ok, ↓if_pos, ↓if_neg, if_pos, if_neg, if_true, if_false, Int.toNat_natCast, rg_ok, e, ↓bnd el, c']
theorem X3_reached {a : Nat} (ha : a < 16) : f_X3_isReached 64 (a : Int) (hp u J L) = some (b01 (bt (J 64 2) a)) := by
  have eh := X11_has (J 64 2) a (by omega) (hp u J L)
  have e : (if bt (J 64 2) a = true then (1 : Int) else 0) = b01 (bt (J 64 2) a) := rfl
  rw [e] at eh
  have hz : gi_zo (b01 (bt (J 64 2) a)) = some () := zo_ok (b01_rg _)
  simp (disch := omega) only [f_X3_isReached, ↓dhi_F, ↓dhG_F_0, ↓dhg_F_1, ↓dhq_F_1, ↓dhg_F_2, ↓dhq_F_2, ↓dhg_F_3, ↓dhq_F_3, ↓dhg_F_4, ↓dhq_F_4, ↓dhG_F_5, ↓dhG_F_6, ↓dhG_F_7, ↓dhG_F_8, ↓dhG_F_9, ↓dhg_F_10, ↓dhq_F_10, ↓dhG_F_11, ↓dhG_F_12, ↓dhG_F_13, Option.bind_some, ↓nm_eq, ↓sm_inl, ↓sm_inr, ↓dzo_0, ↓dzo_1, ↓drg_ok, ↓if_pos, ↓if_neg, if_pos, if_neg, if_true, if_false, Int.toNat_natCast, rg_ok, ↓bnd eh, ↓bnd hz]
theorem cF_len (hF : cF g J L) {a : Nat} (ha : a < 16) : J 68 (16 + a) = -1 ∨ (0 ≤ J 68 (16 + a) ∧ J 68 (16 + a) ≤ 99) := hF.2.2.2.2.2.2.2.1.1.2 a ha
theorem X3_isProductive (hF : cF g J L) {a : Nat} (ha : a < 16) : f_X3_isProductive 64 (a : Int) (hp u J L) = some (if cLe J a = 1000 then 0 else 1) := by
  have el := X3_least (u := u) (L := L) (J := J) ha
  have hl := cF_len hF ha
  have hc : cLe J a = 1000 ↔ J 68 (16 + a) = -1 := by unfold cLe; split <;> omega
  by_cases c : J 68 (16 + a) = -1
  · rw [if_pos (hc.mpr c)]
    rw [c] at el
    simp (disch := omega) only [f_X3_isProductive, ↓dhi_F, ↓dhG_F_0, ↓dhg_F_1, ↓dhq_F_1, ↓dhg_F_2, ↓dhq_F_2, ↓dhg_F_3, ↓dhq_F_3, ↓dhg_F_4, ↓dhq_F_4, ↓dhG_F_5, ↓dhG_F_6, ↓dhG_F_7, ↓dhG_F_8, ↓dhG_F_9, ↓dhg_F_10, ↓dhq_F_10, ↓dhG_F_11, ↓dhG_F_12, ↓dhG_F_13, Option.bind_some, ↓nm_eq, ↓sm_inl, ↓sm_inr, ↓dzo_0, ↓dzo_1, ↓drg_ok, ↓if_pos, ↓if_neg, if_pos, if_neg, if_true, if_false, Int.toNat_natCast, rg_ok, ↓bnd el]
  · rw [if_neg (fun z => c (hc.mp z))]
    simp (disch := omega) only [f_X3_isProductive, ↓dhi_F, ↓dhG_F_0, ↓dhg_F_1, ↓dhq_F_1, ↓dhg_F_2, ↓dhq_F_2, ↓dhg_F_3, ↓dhq_F_3, ↓dhg_F_4, ↓dhq_F_4, ↓dhG_F_5, ↓dhG_F_6, ↓dhG_F_7, ↓dhG_F_8, ↓dhG_F_9, ↓dhg_F_10, ↓dhq_F_10, ↓dhG_F_11, ↓dhG_F_12, ↓dhG_F_13, Option.bind_some, ↓nm_eq, ↓sm_inl, ↓sm_inr, ↓dzo_0, ↓dzo_1, ↓drg_ok, ↓if_pos, ↓if_neg, if_pos, if_neg, if_true, if_false, Int.toNat_natCast, rg_ok, ↓bnd el]
end CLS
/-! the same in class and reference -/
/-! the calls -/
