/-! ===== the class's automaton: a state found, added, merged into ===== -/
section CE_
variable {u : Nat} {n : Nat} {L : Nat → Nat → Int}
theorem X0_findState (hn : 1000000000000000000000000000000 ≤ n) {v : Nat} (hv : v ∈ [73, 79]) {J : Nat → Nat → Int} {k X : Nat} (hk : J v 4 = (k : Int)) (hk80 : k ≤ 80) (hm : J v 1 = 0 ∨ J v 1 = 1) (hX : X < 32) (h1 : ∀ t, t < k → ∀ x, x < 150 → gi_ok (J (v + 1) (150 * t + x))) (h2 : ∀ x, x < 150 → gi_ok (J (v + 5) x)) (h3 : ∀ t, t < k → -1 ≤ J (v + 3) t ∧ J (v + 3) t < 32) :
    (∃ t, t < k ∧ f_X0_findState n v (X : Int) (hp u J L) = some (t : Int) ∧ J (v + 3) t = (X : Int) ∧ BQ v J t) ∨ (f_X0_findState n v (X : Int) (hp u J L) = some (-1) ∧ ∀ t, t < k → ¬ (J (v + 3) t = (X : Int) ∧ BQ v J t)) := by
  suffices key : zLP k (fun f t (_ : Unit) => l_X0_findState_2 n f v (X : Int) (t : Int) (hp u J L)) (fun t _ => ∀ t', t' < t → ¬ (J (v + 3) t' = (X : Int) ∧ BQ v J t'))
      (fun res => (∃ t, t < k ∧ res = some (t : Int) ∧ J (v + 3) t = (X : Int) ∧ BQ v J t) ∨ (res = some (-1) ∧ ∀ t, t < k → ¬ (J (v + 3) t = (X : Int) ∧ BQ v J t))) by
    exact key k n 0 () (by omega) (by omega) (fun t ht => absurd ht (by omega))
  refine zlp ?_ ?_
  · rintro f t ⟨⟩ ht hi
    have ek : (t : Int) + 1 = ((t + 1 : Nat) : Int) := by omega
    have h3t := h3 t ht
    have skip : ¬ (J (v + 3) t = (X : Int) ∧ BQ v J t) → ∀ t', t' < t + 1 → ¬ (J (v + 3) t' = (X : Int) ∧ BQ v J t') := fun q t' h' => by
      by_cases e : t' = t
      · rw [e]; exact q
      · exact hi t' (by omega)
    by_cases c : J (v + 3) t = (X : Int)
    · rcases X0_beginsFresh (u := u) (L := L) hn hv (t := t) (by omega) hm (h1 t ht) h2 with ⟨e, q⟩ | ⟨e, q⟩
      · left; left
        refine ⟨t, ht, ?_, c, q⟩
        simp (disch := omega) only [l_X0_findState_2, b_X0_findState_2, ↓dhi_A hv, ↓dhG_A_0 hv, ↓dhg_A_1 hv, ↓dhq_A_1 hv, ↓dhg_A_2 hv, ↓dhq_A_2 hv, ↓dhg_A_3 hv, ↓dhq_A_3 hv, ↓dhg_A_4 hv, ↓dhq_A_4 hv, ↓dhG_A_5 hv, ↓dhG_A_6 hv, ↓dhG_A_7 hv, ↓dhG_A_8 hv, ↓dhG_A_9 hv, ↓dha_A_1 hv, ↓dhs_A_1 hv, ↓dhl_A_1 hv, ↓dha_A_2 hv, ↓dhs_A_2 hv, ↓dhl_A_2 hv, ↓dha_A_3 hv, ↓dhs_A_3 hv, ↓dhl_A_3 hv, ↓dha_A_4 hv, ↓dhs_A_4 hv, ↓dhl_A_4 hv, ↓dha_A_5 hv, ↓dhs_A_5 hv, ↓dhl_A_5 hv, Option.bind_some, ↓nm_eq, ↓sm_inl, ↓sm_inr, ↓dzo_0, ↓dzo_1, ↓drg_ok, ↓if_pos, ↓if_neg, if_pos, if_neg, if_true, if_false, Int.toNat_natCast, rg_ok, ↓bnd e, hk, c]
      · right
        refine ⟨(), ?_, skip (fun z => q z.2)⟩
        simp (disch := omega) only [l_X0_findState_2, b_X0_findState_2, b_X0_findState_36, ↓dhi_A hv, ↓dhG_A_0 hv, ↓dhg_A_1 hv, ↓dhq_A_1 hv, ↓dhg_A_2 hv, ↓dhq_A_2 hv, ↓dhg_A_3 hv, ↓dhq_A_3 hv, ↓dhg_A_4 hv, ↓dhq_A_4 hv, ↓dhG_A_5 hv, ↓dhG_A_6 hv, ↓dhG_A_7 hv, ↓dhG_A_8 hv, ↓dhG_A_9 hv, ↓dha_A_1 hv, ↓dhs_A_1 hv, ↓dhl_A_1 hv, ↓dha_A_2 hv, ↓dhs_A_2 hv, ↓dhl_A_2 hv, ↓dha_A_3 hv, ↓dhs_A_3 hv, ↓dhl_A_3 hv, ↓dha_A_4 hv, ↓dhs_A_4 hv, ↓dhl_A_4 hv, ↓dha_A_5 hv, ↓dhs_A_5 hv, ↓dhl_A_5 hv, Option.bind_some, ↓nm_eq, ↓sm_inl, ↓sm_inr, ↓dzo_0, ↓dzo_1, ↓drg_ok, ↓if_pos, ↓if_neg, if_pos, if_neg, if_true, if_false, Int.toNat_natCast, rg_ok, ↓bnd e, hk, c, ek]
    · right
      refine ⟨(), ?_, skip (fun z => c z.1)⟩
      simp (disch := omega) only [l_X0_findState_2, b_X0_findState_2, b_X0_findState_36, ↓dhi_A hv, ↓dhG_A_0 hv, ↓dhg_A_1 hv, ↓dhq_A_1 hv, ↓dhg_A_2 hv, ↓dhq_A_2 hv, ↓dhg_A_3 hv, ↓dhq_A_3 hv, ↓dhg_A_4 hv, ↓dhq_A_4 hv, ↓dhG_A_5 hv, ↓dhG_A_6 hv, ↓dhG_A_7 hv, ↓dhG_A_8 hv, ↓dhG_A_9 hv, ↓dha_A_1 hv, ↓dhs_A_1 hv, ↓dhl_A_1 hv, ↓dha_A_2 hv, ↓dhs_A_2 hv, ↓dhl_A_2 hv, ↓dha_A_3 hv, ↓dhs_A_3 hv, ↓dhl_A_3 hv, ↓dha_A_4 hv, ↓dhs_A_4 hv, ↓dhl_A_4 hv, ↓dha_A_5 hv, ↓dhs_A_5 hv, ↓dhl_A_5 hv, Option.bind_some, ↓nm_eq, ↓sm_inl, ↓sm_inr, ↓dzo_0, ↓dzo_1, ↓drg_ok, ↓if_pos, ↓if_neg, if_pos, if_neg, if_true, if_false, Int.toNat_natCast, rg_ok, hk, ek]
  · rintro f ⟨⟩ hi
    right
    refine ⟨?_, hi⟩
    simp (disch := omega) only [l_X0_findState_2, b_X0_findState_2, ↓dhi_A hv, ↓dhG_A_0 hv, ↓dhg_A_1 hv, ↓dhq_A_1 hv, ↓dhg_A_2 hv, ↓dhq_A_2 hv, ↓dhg_A_3 hv, ↓dhq_A_3 hv, ↓dhg_A_4 hv, ↓dhq_A_4 hv, ↓dhG_A_5 hv, ↓dhG_A_6 hv, ↓dhG_A_7 hv, ↓dhG_A_8 hv, ↓dhG_A_9 hv, ↓dha_A_1 hv, ↓dhs_A_1 hv, ↓dhl_A_1 hv, ↓dha_A_2 hv, ↓dhs_A_2 hv, ↓dhl_A_2 hv, ↓dha_A_3 hv, ↓dhs_A_3 hv, ↓dhl_A_3 hv, ↓dha_A_4 hv, ↓dhs_A_4 hv, ↓dhl_A_4 hv, ↓dha_A_5 hv, ↓dhs_A_5 hv, ↓dhl_A_5 hv, Option.bind_some, ↓nm_eq, ↓sm_inl, ↓sm_inr, ↓dzo_0, ↓dzo_1, ↓drg_ok, ↓if_pos, ↓if_neg, if_pos, if_neg, if_true, if_false, Int.toNat_natCast, rg_ok, hk]
theorem X0_addState80 {v : Nat} (hv : v ∈ [73, 79]) {J : Nat → Nat → Int} (X : Int) (hk : J v 4 = 80) : f_X0_addState n v X (hp u J L) = some (-1, hp u (gx_u J v 3 1) L) := by
  simp (disch := omega) only [f_X0_addState, b_X0_addState_16, ↓dhi_A hv, ↓dhG_A_0 hv, ↓dhg_A_1 hv, ↓dhq_A_1 hv, ↓dhg_A_2 hv, ↓dhq_A_2 hv, ↓dhg_A_3 hv, ↓dhq_A_3 hv, ↓dhg_A_4 hv, ↓dhq_A_4 hv, ↓dhG_A_5 hv, ↓dhG_A_6 hv, ↓dhG_A_7 hv, ↓dhG_A_8 hv, ↓dhG_A_9 hv, ↓dha_A_1 hv, ↓dhs_A_1 hv, ↓dhl_A_1 hv, ↓dha_A_2 hv, ↓dhs_A_2 hv, ↓dhl_A_2 hv, ↓dha_A_3 hv, ↓dhs_A_3 hv, ↓dhl_A_3 hv, ↓dha_A_4 hv, ↓dhs_A_4 hv, ↓dhl_A_4 hv, ↓dha_A_5 hv, ↓dhs_A_5 hv, ↓dhl_A_5 hv, Option.bind_some, ↓nm_eq, ↓sm_inl, ↓sm_inr, ↓dzo_0, ↓dzo_1, ↓drg_ok, ↓if_pos, ↓if_neg, if_pos, if_neg, if_true, if_false, Int.toNat_natCast, rg_ok, hk]
theorem X0_addState (hn : 1000000000000000000000000000000 ≤ n) {v : Nat} (hv : v ∈ [73, 79]) {J0 : Nat → Nat → Int} {k : Nat} (X : Int) (hk : J0 v 4 = (k : Int)) (hk80 : k < 80) :
    ∃ J', f_X0_addState n v X (hp u J0 L) = some ((k : Int), hp u J' L) ∧ Fr [v, v + 1, v + 2, v + 3, v + 4] J0 J' ∧ (∀ j, j ≠ 4 → J' v j = J0 v j) ∧ J' v 4 = ((k + 1 : Nat) : Int) ∧ (∀ y, J' (v + 1) y = if 150 * k ≤ y ∧ y < 150 * k + 150 then J0 (v + 5) (y - 150 * k) else J0 (v + 1) y) ∧ (∀ y, J' (v + 2) y = if 32 * k ≤ y ∧ y < 32 * k + 32 then -1 else J0 (v + 2) y) ∧ (∀ y, J' (v + 3) y = if y = k then X else J0 (v + 3) y) ∧ (∀ y, J' (v + 4) y = if y = k then 1 else J0 (v + 4) y) := by
  have l1 : zLP 150 (fun f x (J : Nat → Nat → Int) => l_X0_addState_40 n f v X (k : Int) (x : Int) (hp u J L))
      (fun x J => Fr [v + 1] (gx_u J0 v 4 ((k + 1 : Nat) : Int)) J ∧ ∀ y, J (v + 1) y = if 150 * k ≤ y ∧ y < 150 * k + x then J0 (v + 5) (y - 150 * k) else J0 (v + 1) y)
      (fun res => ∃ J, res = l_X0_addState_73 n n v X (k : Int) 0 (hp u J L) ∧ Fr [v + 1] (gx_u J0 v 4 ((k + 1 : Nat) : Int)) J ∧ ∀ y, J (v + 1) y = if 150 * k ≤ y ∧ y < 150 * k + 150 then J0 (v + 5) (y - 150 * k) else J0 (v + 1) y) := by
    refine zlp ?_ ?_
    · rintro f x J hx ⟨f1, h1⟩
      right
      have ek : (x : Int) + 1 = ((x + 1 : Nat) : Int) := by omega
      have ei : ((k : Int) * 150 + (x : Int)).toNat = 150 * k + x := by omega
      have e5 : J (v + 5) x = J0 (v + 5) x := by rw [f1 (v + 5) (by simp), gu_ne (by omega)]
      refine ⟨gx_u J (v + 1) (150 * k + x) (J0 (v + 5) x), ?_, f1.wr (by simp), fun y => ?_⟩
      · simp (disch := omega) only [l_X0_addState_40, b_X0_addState_40, ↓dhi_A hv, ↓dhG_A_0 hv, ↓dhg_A_1 hv, ↓dhq_A_1 hv, ↓dhg_A_2 hv, ↓dhq_A_2 hv, ↓dhg_A_3 hv, ↓dhq_A_3 hv, ↓dhg_A_4 hv, ↓dhq_A_4 hv, ↓dhG_A_5 hv, ↓dhG_A_6 hv, ↓dhG_A_7 hv, ↓dhG_A_8 hv, ↓dhG_A_9 hv, ↓dha_A_1 hv, ↓dhs_A_1 hv, ↓dhl_A_1 hv, ↓dha_A_2 hv, ↓dhs_A_2 hv, ↓dhl_A_2 hv, ↓dha_A_3 hv, ↓dhs_A_3 hv, ↓dhl_A_3 hv, ↓dha_A_4 hv, ↓dhs_A_4 hv, ↓dhl_A_4 hv, ↓dha_A_5 hv, ↓dhs_A_5 hv, ↓dhl_A_5 hv, Option.bind_some, ↓nm_eq, ↓sm_inl, ↓sm_inr, ↓dzo_0, ↓dzo_1, ↓drg_ok, ↓if_pos, ↓if_neg, if_pos, if_neg, if_true, if_false, Int.toNat_natCast, rg_ok, ei, ek, e5]
      · by_cases e : y = 150 * k + x
        · rw [e, gu_at_eq rfl, if_pos ⟨by omega, by omega⟩, show 150 * k + x - 150 * k = x by omega]
        · rw [gu_at_ne e, h1 y]
          by_cases c : 150 * k ≤ y ∧ y < 150 * k + x
          · rw [if_pos c, if_pos ⟨c.1, by omega⟩]
          · rw [if_neg c, if_neg (by omega)]
    · rintro f J ⟨f1, h1⟩
      refine ⟨J, ?_, f1, h1⟩
      simp (disch := omega) only [l_X0_addState_40, b_X0_addState_40, b_X0_addState_71, Option.bind_some, ↓nm_eq, ↓sm_inl, ↓sm_inr, ↓dzo_0, ↓dzo_1, ↓drg_ok, ↓if_pos, ↓if_neg, if_pos, if_neg, if_true, if_false, Int.toNat_natCast, rg_ok]
  obtain ⟨J1, e1, f1, h1⟩ := l1 150 n 0 (gx_u J0 v 4 ((k + 1 : Nat) : Int)) (by omega) (by omega) ⟨Fr.rf, fun y => by rw [gu_ne (by omega), if_neg (by omega)]⟩
  have l2 : zLP 32 (fun f x (J : Nat → Nat → Int) => l_X0_addState_73 n f v X (k : Int) (x : Int) (hp u J L))
      (fun x J => Fr [v + 2] J1 J ∧ ∀ y, J (v + 2) y = if 32 * k ≤ y ∧ y < 32 * k + x then -1 else J0 (v + 2) y)
      (fun res => ∃ J, res = some ((k : Int), hp u (gx_u (gx_u J (v + 3) k X) (v + 4) k 1) L) ∧ Fr [v + 2] J1 J ∧ ∀ y, J (v + 2) y = if 32 * k ≤ y ∧ y < 32 * k + 32 then -1 else J0 (v + 2) y) := by
    refine zlp ?_ ?_
    · rintro f x J hx ⟨f2, h2⟩
      right
      have ek : (x : Int) + 1 = ((x + 1 : Nat) : Int) := by omega
      have ei : ((k : Int) * 32 + (x : Int)).toNat = 32 * k + x := by omega
      refine ⟨gx_u J (v + 2) (32 * k + x) (-1), ?_, f2.wr (by simp), fun y => ?_⟩
      · simp (disch := omega) only [l_X0_addState_73, b_X0_addState_73, ↓dhi_A hv, ↓dhG_A_0 hv, ↓dhg_A_1 hv, ↓dhq_A_1 hv, ↓dhg_A_2 hv, ↓dhq_A_2 hv, ↓dhg_A_3 hv, ↓dhq_A_3 hv, ↓dhg_A_4 hv, ↓dhq_A_4 hv, ↓dhG_A_5 hv, ↓dhG_A_6 hv, ↓dhG_A_7 hv, ↓dhG_A_8 hv, ↓dhG_A_9 hv, ↓dha_A_1 hv, ↓dhs_A_1 hv, ↓dhl_A_1 hv, ↓dha_A_2 hv, ↓dhs_A_2 hv, ↓dhl_A_2 hv, ↓dha_A_3 hv, ↓dhs_A_3 hv, ↓dhl_A_3 hv, ↓dha_A_4 hv, ↓dhs_A_4 hv, ↓dhl_A_4 hv, ↓dha_A_5 hv, ↓dhs_A_5 hv, ↓dhl_A_5 hv, Option.bind_some, ↓nm_eq, ↓sm_inl, ↓sm_inr, ↓dzo_0, ↓dzo_1, ↓drg_ok, ↓if_pos, ↓if_neg, if_pos, if_neg, if_true, if_false, Int.toNat_natCast, rg_ok, ei, ek]
      · by_cases e : y = 32 * k + x
        · rw [e, gu_at_eq rfl, if_pos ⟨by omega, by omega⟩]
        · rw [gu_at_ne e, h2 y]
          by_cases c : 32 * k ≤ y ∧ y < 32 * k + x
          · rw [if_pos c, if_pos ⟨c.1, by omega⟩]
          · rw [if_neg c, if_neg (by omega)]
    · rintro f J ⟨f2, h2⟩
      refine ⟨J, ?_, f2, h2⟩
      simp (disch := omega) only [l_X0_addState_73, b_X0_addState_73, b_X0_addState_97, ↓dhi_A hv, ↓dhG_A_0 hv, ↓dhg_A_1 hv, ↓dhq_A_1 hv, ↓dhg_A_2 hv, ↓dhq_A_2 hv, ↓dhg_A_3 hv, ↓dhq_A_3 hv, ↓dhg_A_4 hv, ↓dhq_A_4 hv, ↓dhG_A_5 hv, ↓dhG_A_6 hv, ↓dhG_A_7 hv, ↓dhG_A_8 hv, ↓dhG_A_9 hv, ↓dha_A_1 hv, ↓dhs_A_1 hv, ↓dhl_A_1 hv, ↓dha_A_2 hv, ↓dhs_A_2 hv, ↓dhl_A_2 hv, ↓dha_A_3 hv, ↓dhs_A_3 hv, ↓dhl_A_3 hv, ↓dha_A_4 hv, ↓dhs_A_4 hv, ↓dhl_A_4 hv, ↓dha_A_5 hv, ↓dhs_A_5 hv, ↓dhl_A_5 hv, Option.bind_some, ↓nm_eq, ↓sm_inl, ↓sm_inr, ↓dzo_0, ↓dzo_1, ↓drg_ok, ↓if_pos, ↓if_neg, if_pos, if_neg, if_true, if_false, Int.toNat_natCast, rg_ok]
  obtain ⟨J2, e2, f2, h2⟩ := l2 32 n 0 J1 (by omega) (by omega) ⟨Fr.rf, fun y => by rw [f1 (v + 2) (by simp), gu_ne (by omega), if_neg (by omega)]⟩
  have e1' : l_X0_addState_40 n n v X (k : Int) 0 (hp u (gx_u J0 v 4 ((k + 1 : Nat) : Int)) L) = l_X0_addState_73 n n v X (k : Int) 0 (hp u J1 L) := e1
  have e2' : l_X0_addState_73 n n v X (k : Int) 0 (hp u J1 L) = some ((k : Int), hp u (gx_u (gx_u J2 (v + 3) k X) (v + 4) k 1) L) := e2
  have ek1 : (k : Int) + 1 = ((k + 1 : Nat) : Int) := by omega
  have q : ∀ a, a ≠ v + 1 → a ≠ v + 2 → J2 a = gx_u J0 v 4 ((k + 1 : Nat) : Int) a := fun a z1 z2 => by rw [f2 a (by simpa using z2), f1 a (by simpa using z1)]
  refine ⟨gx_u (gx_u J2 (v + 3) k X) (v + 4) k 1, ?_, ?_, fun j hj => ?_, ?_, fun y => ?_, fun y => ?_, fun y => ?_, fun y => ?_⟩
  · rw [← e2', ← e1']
    simp (disch := omega) only [f_X0_addState, ↓dhi_A hv, ↓dhG_A_0 hv, ↓dhg_A_1 hv, ↓dhq_A_1 hv, ↓dhg_A_2 hv, ↓dhq_A_2 hv, ↓dhg_A_3 hv, ↓dhq_A_3 hv, ↓dhg_A_4 hv, ↓dhq_A_4 hv, ↓dhG_A_5 hv, ↓dhG_A_6 hv, ↓dhG_A_7 hv, ↓dhG_A_8 hv, ↓dhG_A_9 hv, ↓dha_A_1 hv, ↓dhs_A_1 hv, ↓dhl_A_1 hv, ↓dha_A_2 hv, ↓dhs_A_2 hv, ↓dhl_A_2 hv, ↓dha_A_3 hv, ↓dhs_A_3 hv, ↓dhl_A_3 hv, ↓dha_A_4 hv, ↓dhs_A_4 hv, ↓dhl_A_4 hv, ↓dha_A_5 hv, ↓dhs_A_5 hv, ↓dhl_A_5 hv, Option.bind_some, ↓nm_eq, ↓sm_inl, ↓sm_inr, ↓dzo_0, ↓dzo_1, ↓drg_ok, ↓if_pos, ↓if_neg, if_pos, if_neg, if_true, if_false, Int.toNat_natCast, rg_ok, hk, ek1]
  · exact ((((Fr.rf.wr (by simp)).tr (f1.up (fun a z => by simp at z ⊢; omega))).tr (f2.up (fun a z => by simp at z ⊢; omega))).wr (by simp)).wr (by simp)
  · rw [gu_ne (by omega), gu_ne (by omega), q v (by omega) (by omega), gu_at_ne hj]
  · rw [gu_ne (by omega), gu_ne (by omega), q v (by omega) (by omega), gu_at_eq rfl]
  · rw [gu_ne (by omega), gu_ne (by omega), f2 (v + 1) (by simp)]; exact h1 y
  · rw [gu_ne (by omega), gu_ne (by omega)]; exact h2 y
  · rw [gu_ne (by omega), gu_at, q (v + 3) (by omega) (by omega), gu_ne (by omega)]
  · rw [gu_at, gu_ne (by omega), q (v + 4) (by omega) (by omega), gu_ne (by omega)]
theorem X0_mergeInto (hn : 1000000000000000000000000000000 ≤ n) {v : Nat} (hv : v ∈ [73, 79]) {J0 : Nat → Nat → Int} {t : Nat} (ht : t < 80) (h1 : ∀ x, x < 150 → gi_ok (J0 (v + 1) (150 * t + x))) :
    ∃ J', f_X0_mergeInto n v (t : Int) (hp u J0 L) = some (hp u J' L) ∧ Fr [v + 1, v + 4] J0 J' ∧ (∀ y, J' (v + 1) y = if 150 * t ≤ y ∧ y < 150 * t + 150 then gi_or (J0 (v + 1) y) (J0 (v + 5) (y - 150 * t)) else J0 (v + 1) y) ∧ ((J' = J0 ∧ ∀ x, x < 150 → gi_or (J0 (v + 1) (150 * t + x)) (J0 (v + 5) x) = J0 (v + 1) (150 * t + x)) ∨ ((∃ x, x < 150 ∧ gi_or (J0 (v + 1) (150 * t + x)) (J0 (v + 5) x) ≠ J0 (v + 1) (150 * t + x)) ∧ ∀ y, J' (v + 4) y = if y = t then 1 else J0 (v + 4) y)) := by
  suffices key : zLP 150 (fun f x (s : Int × (Nat → Nat → Int)) => l_X0_mergeInto_4 n f v (t : Int) s.1 (x : Int) (hp u s.2 L))
      (fun x s => Fr [v + 1] J0 s.2 ∧ (∀ y, s.2 (v + 1) y = if 150 * t ≤ y ∧ y < 150 * t + x then gi_or (J0 (v + 1) y) (J0 (v + 5) (y - 150 * t)) else J0 (v + 1) y) ∧ ((s.1 = 0 ∧ s.2 = J0 ∧ ∀ y, y < x → gi_or (J0 (v + 1) (150 * t + y)) (J0 (v + 5) y) = J0 (v + 1) (150 * t + y)) ∨ (s.1 = 1 ∧ ∃ y, y < 150 ∧ gi_or (J0 (v + 1) (150 * t + y)) (J0 (v + 5) y) ≠ J0 (v + 1) (150 * t + y))))
      (fun res => ∃ J', res = some (hp u J' L) ∧ Fr [v + 1, v + 4] J0 J' ∧ (∀ y, J' (v + 1) y = if 150 * t ≤ y ∧ y < 150 * t + 150 then gi_or (J0 (v + 1) y) (J0 (v + 5) (y - 150 * t)) else J0 (v + 1) y) ∧ ((J' = J0 ∧ ∀ x, x < 150 → gi_or (J0 (v + 1) (150 * t + x)) (J0 (v + 5) x) = J0 (v + 1) (150 * t + x)) ∨ ((∃ x, x < 150 ∧ gi_or (J0 (v + 1) (150 * t + x)) (J0 (v + 5) x) ≠ J0 (v + 1) (150 * t + x)) ∧ ∀ y, J' (v + 4) y = if y = t then 1 else J0 (v + 4) y))) by
    exact key 150 n 0 (0, J0) (by omega) (by omega) ⟨Fr.rf, fun y => by rw [if_neg (by omega)], Or.inl ⟨rfl, rfl, fun y hy => absurd hy (by omega)⟩⟩
  refine zlp ?_ ?_
  · rintro f x ⟨fl, J⟩ hx ⟨f1, h2, h3⟩
    dsimp only at f1 h2 h3 ⊢
    right
    have ek : (x : Int) + 1 = ((x + 1 : Nat) : Int) := by omega
    have e5 : J (v + 5) x = J0 (v + 5) x := by rw [f1 (v + 5) (by simp)]
    have e1 : J (v + 1) (150 * t + x) = J0 (v + 1) (150 * t + x) := by rw [h2, if_neg (by omega)]
    have ew := X0_widen (u := u) (L := L) hv (J := J) (s := t) (x := x) ht hx (by rw [e1]; exact h1 x hx) (J0 (v + 5) x)
    rw [e1] at ew
    have hfl : fl = 0 ∨ fl = 1 := by rcases h3 with z | z <;> omega
    refine ⟨(gi_or fl (if gi_or (J0 (v + 1) (150 * t + x)) (J0 (v + 5) x) = J0 (v + 1) (150 * t + x) then 0 else 1), gx_u J (v + 1) (150 * t + x) (gi_or (J0 (v + 1) (150 * t + x)) (J0 (v + 5) x))), ?_, f1.wr (by simp), fun y => ?_, ?_⟩
    · dsimp only
      simp (disch := omega) only [l_X0_mergeInto_4, b_X0_mergeInto_4, ↓dhi_A hv, ↓dhG_A_0 hv, ↓dhg_A_1 hv, ↓dhq_A_1 hv, ↓dhg_A_2 hv, ↓dhq_A_2 hv, ↓dhg_A_3 hv, ↓dhq_A_3 hv, ↓dhg_A_4 hv, ↓dhq_A_4 hv, ↓dhG_A_5 hv, ↓dhG_A_6 hv, ↓dhG_A_7 hv, ↓dhG_A_8 hv, ↓dhG_A_9 hv, ↓dha_A_1 hv, ↓dhs_A_1 hv, ↓dhl_A_1 hv, ↓dha_A_2 hv, ↓dhs_A_2 hv, ↓dhl_A_2 hv, ↓dha_A_3 hv, ↓dhs_A_3 hv, ↓dhl_A_3 hv, ↓dha_A_4 hv, ↓dhs_A_4 hv, ↓dhl_A_4 hv, ↓dha_A_5 hv, ↓dhs_A_5 hv, ↓dhl_A_5 hv, Option.bind_some, ↓nm_eq, ↓sm_inl, ↓sm_inr, ↓dzo_0, ↓dzo_1, ↓drg_ok, ↓if_pos, ↓if_neg, if_pos, if_neg, if_true, if_false, Int.toNat_natCast, rg_ok, e5, ew, ek]
    · dsimp only
      by_cases e : y = 150 * t + x
      · rw [e, gu_at_eq rfl, if_pos ⟨by omega, by omega⟩, show 150 * t + x - 150 * t = x by omega]
      · rw [gu_at_ne e, h2 y]
        by_cases c : 150 * t ≤ y ∧ y < 150 * t + x
        · rw [if_pos c, if_pos ⟨c.1, by omega⟩]
        · rw [if_neg c, if_neg (by omega)]
    · dsimp only
      by_cases c : gi_or (J0 (v + 1) (150 * t + x)) (J0 (v + 5) x) = J0 (v + 1) (150 * t + x)
      · rw [if_pos c]
        rcases h3 with ⟨z1, z2, z3⟩ | ⟨z1, z2⟩
        · left
          refine ⟨by rw [z1]; exact or00, by rw [c, z2, gu_id], fun y hy => ?_⟩
          by_cases e : y = x
          · rw [e]; exact c
          · exact z3 y (by omega)
        · exact Or.inr ⟨by rw [z1]; exact or10, z2⟩
      · rw [if_neg c]
        exact Or.inr ⟨by rcases hfl with z | z <;> rw [z] <;> decide +kernel, x, hx, c⟩
  · rintro f ⟨fl, J⟩ ⟨f1, h2, h3⟩
    dsimp only at f1 h2 h3 ⊢
    rcases h3 with ⟨z1, z2, z3⟩ | ⟨z1, z2⟩
    · refine ⟨J, ?_, f1.up (by simp), h2, Or.inl ⟨z2, z3⟩⟩
      simp (disch := omega) only [l_X0_mergeInto_4, b_X0_mergeInto_4, b_X0_mergeInto_32, Option.bind_some, ↓nm_eq, ↓sm_inl, ↓sm_inr, ↓dzo_0, ↓dzo_1, ↓drg_ok, ↓if_pos, ↓if_neg, if_pos, if_neg, if_true, if_false, Int.toNat_natCast, rg_ok]
    · refine ⟨gx_u J (v + 4) t 1, ?_, (f1.up (fun a z => by simp at z ⊢; omega)).wr (by simp), fun y => by rw [gu_ne (by omega)]; exact h2 y, Or.inr ⟨z2, fun y => by rw [gu_at, f1 (v + 4) (by simp)]⟩⟩
      simp (disch := omega) only [l_X0_mergeInto_4, b_X0_mergeInto_4, b_X0_mergeInto_32, ↓dhi_A hv, ↓dhG_A_0 hv, ↓dhg_A_1 hv, ↓dhq_A_1 hv, ↓dhg_A_2 hv, ↓dhq_A_2 hv, ↓dhg_A_3 hv, ↓dhq_A_3 hv, ↓dhg_A_4 hv, ↓dhq_A_4 hv, ↓dhG_A_5 hv, ↓dhG_A_6 hv, ↓dhG_A_7 hv, ↓dhG_A_8 hv, ↓dhG_A_9 hv, ↓dha_A_1 hv, ↓dhs_A_1 hv, ↓dhl_A_1 hv, ↓dha_A_2 hv, ↓dhs_A_2 hv, ↓dhl_A_2 hv, ↓dha_A_3 hv, ↓dhs_A_3 hv, ↓dhl_A_3 hv, ↓dha_A_4 hv, ↓dhs_A_4 hv, ↓dhl_A_4 hv, ↓dha_A_5 hv, ↓dhs_A_5 hv, ↓dhl_A_5 hv, Option.bind_some, ↓nm_eq, ↓sm_inl, ↓sm_inr, ↓dzo_0, ↓dzo_1, ↓drg_ok, ↓if_pos, ↓if_neg, if_pos, if_neg, if_true, if_false, Int.toNat_natCast, rg_ok, z1]
end CE_
