/-! ===== the class: what it keeps of its grammar; table ===== -/
def va (b : Bool) : Nat := if b then 73 else 79
theorem va_m (b : Bool) : va b ∈ [73, 79] := by cases b <;> decide
def CADn (u : Nat) (g : GT) (b : Bool) (J : Nat → Nat → Int) : Prop := J (va b) 2 = 0 ∨ (J (va b) 2 = 1 ∧ CAU u (va b) g (zN g) (zF g) b J)
/-- the class's grammar and what it keeps of it -/
def CST (u : Nat) (g : GT) (J L : Nat → Nat → Int) : Prop := (GW (gU u) J ∧ cG J (gU u) = g) ∧ (J 64 1 = 0 ∨ (J 64 1 = 1 ∧ cF g J L)) ∧ (J 73 1 = 1 ∧ J 79 1 = 0 ∧ J 148 2 = 1 ∧ J 151 2 = 0 ∧ J 154 2 = 0) ∧ CADn u g true J ∧ CADn u g false J
def CTL : List Nat := [64, 65, 66, 67, 68, 69, 70, 71, 72, 73, 74, 75, 76, 77, 78, 79, 80, 81, 82, 83, 84]
def tb (kd : Nat) : Nat := if kd = 0 then 145 else if kd = 3 then 154 else if kd = 1 then 148 else 151
theorem CAU_fr {u v : Nat} {g : GT} {N : Nat → Prop} {F : Nat → Nat → Prop} {b : Bool} {J J' : Nat → Nat → Int} (h : CAU u v g N F b J) (e0 : ∀ k, k = 3 ∨ k = 4 → J' v k = J v k) (e1 : J' (v + 1) = J (v + 1)) (e2 : J' (v + 2) = J (v + 2)) : CAU u v g N F b J' := by
  rcases h with ⟨a, c⟩ | ⟨a, c, d, e, f⟩
  · exact Or.inl ⟨a, (e0 3 (by omega)).trans c⟩
  · refine Or.inr ⟨a, (e0 3 (by omega)).trans c, (e0 4 (by omega)).trans d, fun t ht => ?_, fun s X hs hX => by rw [e2]; exact f s X hs hX⟩
    obtain ⟨d1, d2, d3⟩ := e t ht
    refine ⟨VR_fr (fun p k _ => by rw [e1]) d1, ?_, by rw [SR_fr (J := J) (fun p k _ => by rw [e1])]; exact d3⟩
    intro x hx hv
    rw [e1]; exact d2 x hx hv
theorem CADn.fr {u : Nat} {g : GT} {b : Bool} {J J' : Nat → Nat → Int} (h : CADn u g b J) (e0 : ∀ k, k = 2 ∨ k = 3 ∨ k = 4 → J' (va b) k = J (va b) k) (e1 : J' (va b + 1) = J (va b + 1)) (e2 : J' (va b + 2) = J (va b + 2)) : CADn u g b J' := by
  rcases h with h | ⟨h1, h2⟩
  · exact Or.inl ((e0 2 (by omega)).trans h)
  · exact Or.inr ⟨(e0 2 (by omega)).trans h1, CAU_fr h2 (fun k hk => e0 k (by omega)) e1 e2⟩
section CT_
variable {u : Nat} {n : Nat} {L : Nat → Nat → Int} {g : GT}
theorem CST.gr {J : Nat → Nat → Int} (h : CST u g J L) : GR g := h.1.2 ▸ GR_of h.1.1
theorem cF_NF {J : Nat → Nat → Int} (h : cF g J L) : cNi J = zN g ∧ cFi J = zF g ∧ cBe J = zB g := zB_of' h.2.1 h.2.2.1
theorem cF_it {J : Nat → Nat → Int} (h : cF g J L) : cItm g (zN g) (zF g) J := by
  obtain ⟨e1, e2, -⟩ := cF_NF h
  rw [← e1, ← e2]; exact h.2.2.2.2.2.2.2.2.2.2
theorem CST.learn (hn : 1000000000000000000000000000000 ≤ n) {J0 : Nat → Nat → Int} (h : CST u g J0 L) :
    ∃ J K : Nat → Nat → Int, f_X3_learn n 64 (hp u J0 L) = some (hp u J K) ∧ Fr [65, 66, 70, 64, 68, 67, 71, 72] J0 J ∧ Fr [69] L K ∧ (∀ k, k ≠ 1 → k ≠ 2 → k ≠ 3 → k ≠ 4 → k ≠ 10 → J 64 k = J0 64 k) ∧ CST u g J K ∧ J 64 1 = 1 ∧ cF g J K ∧ CE u g (zN g) (zF g) J := by
  obtain ⟨⟨w, hg⟩, hF, hm, h1, h2⟩ := h
  obtain ⟨J, K, e, f, fk, q, q1, hF', -⟩ := X3_learn (u := u) (L := L) hn w (by rw [hg]; exact hF)
  rw [hg] at hF'
  have w' : GW (gU u) J := GWu_fr f nFl1 w
  have hg' : cG J (gU u) = g := (cGu_fr f nFl1).trans hg
  refine ⟨J, K, e, f, fk, q, ⟨⟨w', hg'⟩, Or.inr ⟨q1, hF'⟩, ?_, ?_, ?_⟩, q1, hF', ⟨w', hg', cF_it hF'⟩⟩
  · rw [f 73 (by decide), f 79 (by decide), f 148 (by decide), f 151 (by decide), f 154 (by decide)]; exact hm
  · exact h1.fr (fun k _ => by rw [f (va true) (by decide)]) (f _ (by decide)) (f _ (by decide))
  · exact h2.fr (fun k _ => by rw [f (va false) (by decide)]) (f _ (by decide)) (f _ (by decide))
theorem CST.built (hn : 1000000000000000000000000000000 ≤ n) {J0 : Nat → Nat → Int} (h : CST u g J0 L) (hq : J0 64 1 = 1) (hF : cF g J0 L) (hE : CE u g (zN g) (zF g) J0) (b : Bool) :
    ∃ J : Nat → Nat → Int, f_X0_build n (va b) (hp u J0 L) = some (hp u J L) ∧ Fr [va b, va b + 1, va b + 2, va b + 3, va b + 4, va b + 5] J0 J ∧ CST u g J L ∧ J 64 1 = 1 ∧ cF g J L ∧ CE u g (zN g) (zF g) J ∧ J (va b) 2 = 1 ∧ CAU u (va b) g (zN g) (zF g) b J := by
  have hD : CADn u g b J0 := by
    cases b
    · exact h.2.2.2.2
    · exact h.2.2.2.1
  have hv := va_m b
  rcases hD with hD | ⟨hD, hA⟩
  · have hm : J0 (va b) 1 = (if b then 1 else 0) := by
      obtain ⟨-, -, hm, -⟩ := h
      cases b
      · exact hm.2.1
      · exact hm.1
    obtain ⟨J, e, f, q, q2, hA⟩ := X0_build (u := u) (L := L) (b := b) hn hv hE hm hD
    have hE' : CE u g (zN g) (zF g) J := hE.fr f (by cases b <;> decide)
    have hF' : cF g J L := cF_fr (f 65 (by cases b <;> decide)) (f 66 (by cases b <;> decide)) (f 67 (by cases b <;> decide)) (f 68 (by cases b <;> decide)) (f 71 (by cases b <;> decide)) (f 72 (by cases b <;> decide)) (by rw [f 64 (by cases b <;> decide)]) (by rw [f 64 (by cases b <;> decide)]) (by rw [f 64 (by cases b <;> decide)]) rfl hF
    have q64 : J 64 1 = 1 := by rw [f 64 (by cases b <;> decide)]; exact hq
    refine ⟨J, e, f, ⟨⟨hE'.1, hE'.2.1⟩, Or.inr ⟨q64, hF'⟩, ?_, ?_, ?_⟩, q64, hF', hE', q2, hA⟩
    · obtain ⟨-, -, hm', -⟩ := h
      cases b
      · rw [f 73 (by decide), f 148 (by decide), f 151 (by decide), f 154 (by decide)]
        exact ⟨hm'.1, (q 1 (by decide) (by decide) (by decide)).trans hm'.2.1, hm'.2.2⟩
      · rw [f 79 (by decide), f 148 (by decide), f 151 (by decide), f 154 (by decide)]
        exact ⟨(q 1 (by decide) (by decide) (by decide)).trans hm'.1, hm'.2⟩
    · cases b
      · exact h.2.2.2.1.fr (fun k _ => by rw [f (va true) (by decide)]) (f _ (by decide)) (f _ (by decide))
      · exact Or.inr ⟨q2, hA⟩
    · cases b
      · exact Or.inr ⟨q2, hA⟩
      · exact h.2.2.2.2.fr (fun k _ => by rw [f (va false) (by decide)]) (f _ (by decide)) (f _ (by decide))
  · refine ⟨J0, ?_, Fr.rf, h, hq, hF, hE, hD, hA⟩
    simp (disch := omega) only [f_X0_build, ↓dhi_A hv, ↓dhG_A_0 hv, ↓dhg_A_1 hv, ↓dhq_A_1 hv, ↓dhg_A_2 hv, ↓dhq_A_2 hv, ↓dhg_A_3 hv, ↓dhq_A_3 hv, ↓dhg_A_4 hv, ↓dhq_A_4 hv, ↓dhG_A_5 hv, ↓dhG_A_6 hv, ↓dhG_A_7 hv, ↓dhG_A_8 hv, ↓dhG_A_9 hv, ↓dha_A_1 hv, ↓dhs_A_1 hv, ↓dhl_A_1 hv, ↓dha_A_2 hv, ↓dhs_A_2 hv, ↓dhl_A_2 hv, ↓dha_A_3 hv, ↓dhs_A_3 hv, ↓dhl_A_3 hv, ↓dha_A_4 hv, ↓dhs_A_4 hv, ↓dhl_A_4 hv, ↓dha_A_5 hv, ↓dhs_A_5 hv, ↓dhl_A_5 hv, Option.bind_some, ↓nm_eq, ↓sm_inl, ↓sm_inr, ↓dzo_0, ↓dzo_1, ↓drg_ok, ↓if_pos, ↓if_neg, if_pos, if_neg, if_true, if_false, Int.toNat_natCast, rg_ok, hD]
/-- what a table needs -/
def CTB (u : Nat) (g : GT) (kd : Nat) (J L : Nat → Nat → Int) : Prop := CST u g J L ∧ J 64 1 = 1 ∧ cF g J L ∧ CE u g (zN g) (zF g) J ∧ (1 ≤ kd → J (va (kb kd)) 2 = 1 ∧ CAU u (va (kb kd)) g (zN g) (zF g) (kb kd) J)
theorem X11_table (hn : 1000000000000000000000000000000 ≤ n) {J0 : Nat → Nat → Int} (h : CST u g J0 L) {kd : Nat} (hk : kd ≤ 3) :
    ∃ J K : Nat → Nat → Int, f_X11_table n 0 (kd : Int) (hp u J0 L) = some (tb kd, hp u J K) ∧ Fr CTL J0 J ∧ Fr [69] L K ∧ CTB u g kd J K := by
  obtain ⟨J1, K, e1, f1, k1, -, c1, q1, F1, E1⟩ := h.learn (u := u) hn
  have g1 : Fr CTL J0 J1 := f1.up (fun a z => by simp at z; simp [CTL]; omega)
  by_cases c0 : kd = 0
  · refine ⟨J1, K, ?_, g1, k1, c1, q1, F1, E1, fun z => absurd z (by omega)⟩
    subst c0
    simp (disch := omega) only [f_X11_table, ↓dhi_X, ↓dhG_X_0, ↓dhG_X_1, ↓dhG_X_2, ↓dhg_X_3, ↓dhq_X_3, ↓dhG_X_4, ↓dhG_X_5, ↓dhG_X_6, ↓dhg_X_7, ↓dhq_X_7, ↓dhG_X_8, ↓dhG_X_9, ↓dhG_X_10, ↓dhG_X_11, ↓dhG_X_12, ↓dhG_X_13, ↓dhG_X_14, ↓dhG_X_15, ↓dhG_X_16, ↓dhi_F, ↓dhG_F_0, ↓dhg_F_1, ↓dhq_F_1, ↓dhg_F_2, ↓dhq_F_2, ↓dhg_F_3, ↓dhq_F_3, ↓dhg_F_4, ↓dhq_F_4, ↓dhG_F_5, ↓dhG_F_6, ↓dhG_F_7, ↓dhG_F_8, ↓dhG_F_9, ↓dhg_F_10, ↓dhq_F_10, ↓dhG_F_11, ↓dhG_F_12, ↓dhG_F_13, Option.bind_some, ↓nm_eq, ↓sm_inl, ↓sm_inr, ↓dzo_0, ↓dzo_1, ↓drg_ok, ↓if_pos, ↓if_neg, if_pos, if_neg, if_true, if_false, Int.toNat_natCast, rg_ok, ↓bnd e1]
    rfl
  · have ht : tb kd = if kd = 3 then 154 else if kd = 1 then 148 else 151 := if_neg c0
    obtain ⟨J2, e2, f2, c2, q2, F2, E2, b2, A2⟩ := c1.built (u := u) hn q1 F1 E1 (kb kd)
    refine ⟨J2, K, ?_, g1.tr (f2.up (fun a z => ?_)), k1, c2, q2, F2, E2, fun _ => ⟨b2, A2⟩⟩
    · by_cases c3 : kd = 3
      · subst c3
        have e2' : f_X0_build n 79 (hp u J1 K) = some (hp u J2 K) := e2
        have h79 : (79 : Nat) ∈ [73, 79] := by decide
        simp (disch := omega) only [f_X11_table, ↓dhi_X, ↓dhG_X_0, ↓dhG_X_1, ↓dhG_X_2, ↓dhg_X_3, ↓dhq_X_3, ↓dhG_X_4, ↓dhG_X_5, ↓dhG_X_6, ↓dhg_X_7, ↓dhq_X_7, ↓dhG_X_8, ↓dhG_X_9, ↓dhG_X_10, ↓dhG_X_11, ↓dhG_X_12, ↓dhG_X_13, ↓dhG_X_14, ↓dhG_X_15, ↓dhG_X_16, ↓dhi_F, ↓dhG_F_0, ↓dhg_F_1, ↓dhq_F_1, ↓dhg_F_2, ↓dhq_F_2, ↓dhg_F_3, ↓dhq_F_3, ↓dhg_F_4, ↓dhq_F_4, ↓dhG_F_5, ↓dhG_F_6, ↓dhG_F_7, ↓dhG_F_8, ↓dhG_F_9, ↓dhg_F_10, ↓dhq_F_10, ↓dhG_F_11, ↓dhG_F_12, ↓dhG_F_13, ↓dhi_A h79, ↓dhG_A_0 h79, ↓dhg_A_1 h79, ↓dhq_A_1 h79, ↓dhg_A_2 h79, ↓dhq_A_2 h79, ↓dhg_A_3 h79, ↓dhq_A_3 h79, ↓dhg_A_4 h79, ↓dhq_A_4 h79, ↓dhG_A_5 h79, ↓dhG_A_6 h79, ↓dhG_A_7 h79, ↓dhG_A_8 h79, ↓dhG_A_9 h79, ↓dha_A_1 h79, ↓dhs_A_1 h79, ↓dhl_A_1 h79, ↓dha_A_2 h79, ↓dhs_A_2 h79, ↓dhl_A_2 h79, ↓dha_A_3 h79, ↓dhs_A_3 h79, ↓dhl_A_3 h79, ↓dha_A_4 h79, ↓dhs_A_4 h79, ↓dhl_A_4 h79, ↓dha_A_5 h79, ↓dhs_A_5 h79, ↓dhl_A_5 h79, Option.bind_some, ↓nm_eq, ↓sm_inl, ↓sm_inr, ↓dzo_0, ↓dzo_1, ↓drg_ok, ↓if_pos, ↓if_neg, if_pos, if_neg, if_true, if_false, Int.toNat_natCast, rg_ok, ↓bnd e1, ↓bnd e2']
        rfl
      · have hb : va (kb kd) = 73 := by unfold kb; rw [if_neg c3]; rfl
        rw [hb] at e2
        have h73 : (73 : Nat) ∈ [73, 79] := by decide
        by_cases c4 : kd = 1
        · subst c4
          simp (disch := omega) only [f_X11_table, ↓dhi_X, ↓dhG_X_0, ↓dhG_X_1, ↓dhG_X_2, ↓dhg_X_3, ↓dhq_X_3, ↓dhG_X_4, ↓dhG_X_5, ↓dhG_X_6, ↓dhg_X_7, ↓dhq_X_7, ↓dhG_X_8, ↓dhG_X_9, ↓dhG_X_10, ↓dhG_X_11, ↓dhG_X_12, ↓dhG_X_13, ↓dhG_X_14, ↓dhG_X_15, ↓dhG_X_16, ↓dhi_F, ↓dhG_F_0, ↓dhg_F_1, ↓dhq_F_1, ↓dhg_F_2, ↓dhq_F_2, ↓dhg_F_3, ↓dhq_F_3, ↓dhg_F_4, ↓dhq_F_4, ↓dhG_F_5, ↓dhG_F_6, ↓dhG_F_7, ↓dhG_F_8, ↓dhG_F_9, ↓dhg_F_10, ↓dhq_F_10, ↓dhG_F_11, ↓dhG_F_12, ↓dhG_F_13, ↓dhi_A h73, ↓dhG_A_0 h73, ↓dhg_A_1 h73, ↓dhq_A_1 h73, ↓dhg_A_2 h73, ↓dhq_A_2 h73, ↓dhg_A_3 h73, ↓dhq_A_3 h73, ↓dhg_A_4 h73, ↓dhq_A_4 h73, ↓dhG_A_5 h73, ↓dhG_A_6 h73, ↓dhG_A_7 h73, ↓dhG_A_8 h73, ↓dhG_A_9 h73, ↓dha_A_1 h73, ↓dhs_A_1 h73, ↓dhl_A_1 h73, ↓dha_A_2 h73, ↓dhs_A_2 h73, ↓dhl_A_2 h73, ↓dha_A_3 h73, ↓dhs_A_3 h73, ↓dhl_A_3 h73, ↓dha_A_4 h73, ↓dhs_A_4 h73, ↓dhl_A_4 h73, ↓dha_A_5 h73, ↓dhs_A_5 h73, ↓dhl_A_5 h73, Option.bind_some, ↓nm_eq, ↓sm_inl, ↓sm_inr, ↓dzo_0, ↓dzo_1, ↓drg_ok, ↓if_pos, ↓if_neg, if_pos, if_neg, if_true, if_false, Int.toNat_natCast, rg_ok, ↓bnd e1, ↓bnd e2]
          rfl
        · have : kd = 2 := by omega
          subst this
          simp (disch := omega) only [f_X11_table, ↓dhi_X, ↓dhG_X_0, ↓dhG_X_1, ↓dhG_X_2, ↓dhg_X_3, ↓dhq_X_3, ↓dhG_X_4, ↓dhG_X_5, ↓dhG_X_6, ↓dhg_X_7, ↓dhq_X_7, ↓dhG_X_8, ↓dhG_X_9, ↓dhG_X_10, ↓dhG_X_11, ↓dhG_X_12, ↓dhG_X_13, ↓dhG_X_14, ↓dhG_X_15, ↓dhG_X_16, ↓dhi_F, ↓dhG_F_0, ↓dhg_F_1, ↓dhq_F_1, ↓dhg_F_2, ↓dhq_F_2, ↓dhg_F_3, ↓dhq_F_3, ↓dhg_F_4, ↓dhq_F_4, ↓dhG_F_5, ↓dhG_F_6, ↓dhG_F_7, ↓dhG_F_8, ↓dhG_F_9, ↓dhg_F_10, ↓dhq_F_10, ↓dhG_F_11, ↓dhG_F_12, ↓dhG_F_13, ↓dhi_A h73, ↓dhG_A_0 h73, ↓dhg_A_1 h73, ↓dhq_A_1 h73, ↓dhg_A_2 h73, ↓dhq_A_2 h73, ↓dhg_A_3 h73, ↓dhq_A_3 h73, ↓dhg_A_4 h73, ↓dhq_A_4 h73, ↓dhG_A_5 h73, ↓dhG_A_6 h73, ↓dhG_A_7 h73, ↓dhG_A_8 h73, ↓dhG_A_9 h73, ↓dha_A_1 h73, ↓dhs_A_1 h73, ↓dhl_A_1 h73, ↓dha_A_2 h73, ↓dhs_A_2 h73, ↓dhl_A_2 h73, ↓dha_A_3 h73, ↓dhs_A_3 h73, ↓dhl_A_3 h73, ↓dha_A_4 h73, ↓dhs_A_4 h73, ↓dhl_A_4 h73, ↓dha_A_5 h73, ↓dhs_A_5 h73, ↓dhl_A_5 h73, Option.bind_some, ↓nm_eq, ↓sm_inl, ↓sm_inr, ↓dzo_0, ↓dzo_1, ↓drg_ok, ↓if_pos, ↓if_neg, if_pos, if_neg, if_true, if_false, Int.toNat_natCast, rg_ok, ↓bnd e1, ↓bnd e2]
          rfl
    · have : kb kd = true ∨ kb kd = false := by cases kb kd <;> simp
      rcases this with q | q <;> rw [q] at z <;> simp [va] at z <;> simp [CTL] <;> omega
end CT_
