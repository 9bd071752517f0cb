/-! ===== texts: their faults, class and reference ===== -/
def tk (x : Int) : Nat := if 97 ≤ x ∧ x ≤ 104 then 0 else if 65 ≤ x ∧ x ≤ 72 then 1 else if x = 63 ∨ x = 42 ∨ x = 43 then 2 else if x = 58 then 3 else if x = 124 then 4 else if x = 40 then 5 else if x = 41 then 6 else if x = 37 then 7 else 8
theorem tk_cases (x : Int) : (tk x = 0 ∧ 97 ≤ x ∧ x ≤ 104) ∨ (tk x = 1 ∧ 65 ≤ x ∧ x ≤ 72) ∨ (tk x = 2 ∧ (x = 63 ∨ x = 42 ∨ x = 43)) ∨ (tk x = 3 ∧ x = 58) ∨ (tk x = 4 ∧ x = 124) ∨ (tk x = 5 ∧ x = 40) ∨ (tk x = 6 ∧ x = 41) ∨ (tk x = 7 ∧ x = 37) ∨ (tk x = 8 ∧ ¬ (97 ≤ x ∧ x ≤ 104) ∧ ¬ (65 ≤ x ∧ x ≤ 72) ∧ x ≠ 63 ∧ x ≠ 42 ∧ x ≠ 43 ∧ x ≠ 58 ∧ x ≠ 124 ∧ x ≠ 40 ∧ x ≠ 41 ∧ x ≠ 37) := by
  unfold tk
  repeat' split
  all_goals omega
def ts (s d x : Int) : Option (Int × Int) :=
  if s = 0 then (if tk x = 1 then some (1, d) else none)
  else if s = 1 then (if tk x = 3 then some (2, d) else none)
  else if s = 4 then (if tk x = 0 then some (2, d) else none)
  else if tk x = 0 ∨ tk x = 1 then some (3, d)
  else if tk x = 4 then some (2, d)
  else if tk x = 5 then some (2, d + 1)
  else if tk x = 6 then (if d ≤ 0 then none else some (3, d - 1))
  else if s = 3 ∧ tk x = 7 then some (4, d)
  else if s = 3 ∧ tk x = 2 then some (2, d)
  else none
def tf (t : Nat → Int) (n : Nat) : Nat → Nat → Int → Int → Int
  | 0, _, s, d => if d = 0 ∧ (s = 2 ∨ s = 3) then -1 else (n : Int)
  | m + 1, k, s, d => match ts s d (t k) with
    | none => (k : Int)
    | some q => tf t n m (k + 1) q.1 q.2
theorem tf_congr {t t' : Nat → Int} {n : Nat} : ∀ (m k : Nat) (s d : Int), (∀ j, k ≤ j → j < k + m → t j = t' j) → tf t n m k s d = tf t' n m k s d
  | 0, _, _, _, _ => rfl
  | m + 1, k, s, d, h => by
    show (match ts s d (t k) with | none => (k : Int) | some q => tf t n m (k + 1) q.1 q.2) = (match ts s d (t' k) with | none => (k : Int) | some q => tf t' n m (k + 1) q.1 q.2)
    rw [h k (Nat.le_refl k) (by omega)]
    cases ts s d (t' k) with
    | none => rfl
    | some q => exact tf_congr m (k + 1) q.1 q.2 (fun j h1 h2 => h j (by omega) (by omega))
theorem ts_st {s d x : Int} {q : Int × Int} (h : ts s d x = some q) (hd : 0 ≤ d) : (q.1 = 1 ∨ q.1 = 2 ∨ q.1 = 3 ∨ q.1 = 4) ∧ 0 ≤ q.2 ∧ q.2 ≤ d + 1 := by
  unfold ts at h
  repeat' split at h
  all_goals first | (simp only [Option.some.injEq] at h; subst h; dsimp only; omega) | (exact absurd h (by simp))
theorem tf_rg {t : Nat → Int} {n : Nat} : ∀ (m k : Nat) (s d : Int), k + m = n → -1 ≤ tf t n m k s d ∧ tf t n m k s d ≤ (n : Int)
  | 0, k, s, d, h => by
    show -1 ≤ (if d = 0 ∧ (s = 2 ∨ s = 3) then (-1 : Int) else (n : Int)) ∧ (if d = 0 ∧ (s = 2 ∨ s = 3) then (-1 : Int) else (n : Int)) ≤ (n : Int)
    split <;> omega
  | m + 1, k, s, d, h => by
    show -1 ≤ (match ts s d (t k) with | none => (k : Int) | some q => tf t n m (k + 1) q.1 q.2) ∧ (match ts s d (t k) with | none => (k : Int) | some q => tf t n m (k + 1) q.1 q.2) ≤ (n : Int)
    cases ts s d (t k) with
    | none => dsimp only; omega
    | some q => exact tf_rg m (k + 1) q.1 q.2 (by omega)
/-- a text of the class at v -/
def TK (v : Nat) (I : Nat → Nat → Int) : Prop := (0 ≤ I v 1 ∧ I v 1 ≤ 24) ∧ ∀ k : Nat, (k : Int) < I v 1 → tk (I (v + 1) k) ≠ 8
theorem tk_rg {x : Int} (h : tk x ≠ 8) : 37 ≤ x ∧ x ≤ 124 := by
  have := tk_cases x; omega
section TA
variable {u : Nat} {n : Nat} {I L : Nat → Nat → Int}
theorem X8_letter {v k : Nat} (hv : v ∈ gTX) (hT : TK v I) (hk : (k : Int) < I v 1) : f_X8_letter v (k : Int) (hp u I L) = some (I (v + 1) k) := by
  have h1 := tk_rg (hT.2 k hk)
  have h2 := hT.1
  simp (disch := omega) only [f_X8_letter, hi_T hv, hG_T_0 hv, hg_T_1 hv, hq_T_1 hv, ha_T_1 hv, hs_T_1 hv, hl_T_1 hv, Option.bind_some, nm_eq, sm_inl, sm_inr, zo_0, zo_1, rg_ok, if_pos, if_neg, if_true, if_false, Int.toNat_natCast, ch_ok]
theorem X8_length {v : Nat} (hv : v ∈ gTX) : f_X8_length v (hp u I L) = some (I v 1) := by simp only [f_X8_length, hi_T hv, hG_T_0 hv, hg_T_1 hv, hq_T_1 hv, ha_T_1 hv, hs_T_1 hv, hl_T_1 hv, Option.bind_some, nm_eq, sm_inl, sm_inr, zo_0, zo_1]
theorem X8_clear {v : Nat} (hv : v ∈ gTX) : f_X8_clear v (hp u I L) = some (I v 1, hp u (gx_u I v 1 0) L) := by simp only [f_X8_clear, hi_T hv, hG_T_0 hv, hg_T_1 hv, hq_T_1 hv, ha_T_1 hv, hs_T_1 hv, hl_T_1 hv, Option.bind_some, nm_eq, sm_inl, sm_inr, zo_0, zo_1]
theorem X8_isFull {v : Nat} (hv : v ∈ gTX) (hT : 0 ≤ I v 1 ∧ I v 1 ≤ 24) : f_X8_isFull v (hp u I L) = some (if I v 1 = 24 then 1 else 0) := by
  by_cases q : I v 1 = 24
  · rw [if_pos q]; simp (disch := omega) only [f_X8_isFull, hi_T hv, hG_T_0 hv, hg_T_1 hv, hq_T_1 hv, ha_T_1 hv, hs_T_1 hv, hl_T_1 hv, Option.bind_some, nm_eq, sm_inl, sm_inr, zo_0, zo_1, rg_ok, if_pos, if_neg, if_true, if_false, Int.toNat_natCast]
  · rw [if_neg q]; simp (disch := omega) only [f_X8_isFull, hi_T hv, hG_T_0 hv, hg_T_1 hv, hq_T_1 hv, ha_T_1 hv, hs_T_1 hv, hl_T_1 hv, Option.bind_some, nm_eq, sm_inl, sm_inr, zo_0, zo_1, rg_ok, if_pos, if_neg, if_true, if_false, Int.toNat_natCast]
theorem X8_append {v : Nat} (hv : v ∈ gTX) {x : Int} (h1 : 0 ≤ I v 1) (h2 : I v 1 < 24) (h3 : 0 ≤ x) (h4 : x ≤ 65535) : f_X8_append v x (hp u I L) = some (I v 1 + 1, hp u (gx_u (gx_u I (v + 1) (I v 1).toNat x) v 1 (I v 1 + 1)) L) := by
  have e : gx_u I (v + 1) (I v 1).toNat x v 1 = I v 1 := by rw [gu_ne (by omega)]
  simp (disch := omega) only [f_X8_append, b_X8_append_39, hi_T hv, hG_T_0 hv, hg_T_1 hv, hq_T_1 hv, ha_T_1 hv, hs_T_1 hv, hl_T_1 hv, Option.bind_some, nm_eq, sm_inl, sm_inr, zo_0, zo_1, rg_ok, if_pos, if_neg, if_true, if_false, Int.toNat_natCast, e, gu_same]
theorem X8_stateInChoice {s d x : Int} (hs : s = 2 ∨ s = 3) (hd : 0 ≤ d ∧ d ≤ 1000) (hx : 0 ≤ x ∧ x ≤ 65535) (h : gi_H) : f_X8_stateInChoice s x d h = some (match ts s d x with | none => 5 | some q => q.1) := by
  rcases tk_cases x with ⟨e, q⟩ | ⟨e, q⟩ | ⟨e, q⟩ | ⟨e, q⟩ | ⟨e, q⟩ | ⟨e, q⟩ | ⟨e, q⟩ | ⟨e, q⟩ | ⟨e, q⟩ <;> rcases hs with hs | hs <;> by_cases h0 : d ≤ 0 <;>
    simp (disch := omega) [f_X8_stateInChoice, f_X11_isTerminalLetter, b_X11_isTerminalLetter_16, f_X11_isNonterminalLetter, b_X11_isNonterminalLetter_16, f_X11_isRepeat, b_X11_isRepeat_18, ts, e, h0, hs, rg_ok, if_pos, if_neg]
theorem X8_stateBehind {s d x : Int} (hs : s = 0 ∨ s = 1 ∨ s = 2 ∨ s = 3 ∨ s = 4) (hd : 0 ≤ d ∧ d ≤ 1000) (hx : 0 ≤ x ∧ x ≤ 65535) (h : gi_H) : f_X8_stateBehind s x d h = some (match ts s d x with | none => 5 | some q => q.1) := by
  have h23 : ∀ s : Int, s = 2 ∨ s = 3 → f_X8_stateInChoice s x d h = some (match ts s d x with | none => 5 | some q => q.1) := fun s hs => X8_stateInChoice hs hd hx h
  rcases hs with hs | hs | hs | hs | hs
  · rcases tk_cases x with ⟨e, q⟩ | ⟨e, q⟩ | ⟨e, q⟩ | ⟨e, q⟩ | ⟨e, q⟩ | ⟨e, q⟩ | ⟨e, q⟩ | ⟨e, q⟩ | ⟨e, q⟩ <;>
      simp (disch := omega) [f_X8_stateBehind, f_X11_isNonterminalLetter, b_X11_isNonterminalLetter_16, ts, e, hs, rg_ok, if_pos, if_neg]
  · rcases tk_cases x with ⟨e, q⟩ | ⟨e, q⟩ | ⟨e, q⟩ | ⟨e, q⟩ | ⟨e, q⟩ | ⟨e, q⟩ | ⟨e, q⟩ | ⟨e, q⟩ | ⟨e, q⟩ <;>
      simp (disch := omega) [f_X8_stateBehind, ts, e, hs, rg_ok, if_pos, if_neg]
  · subst hs
    simp (disch := omega) only [f_X8_stateBehind, rg_ok, if_pos, if_neg, if_true, if_false, Option.bind_some, h23 2 (Or.inl rfl)]
  · subst hs
    simp (disch := omega) only [f_X8_stateBehind, rg_ok, if_pos, if_neg, if_true, if_false, Option.bind_some, h23 3 (Or.inr rfl)]
  · rcases tk_cases x with ⟨e, q⟩ | ⟨e, q⟩ | ⟨e, q⟩ | ⟨e, q⟩ | ⟨e, q⟩ | ⟨e, q⟩ | ⟨e, q⟩ | ⟨e, q⟩ | ⟨e, q⟩ <;>
      simp (disch := omega) [f_X8_stateBehind, f_X11_isTerminalLetter, b_X11_isTerminalLetter_16, ts, e, hs, rg_ok, if_pos, if_neg]
theorem ts_d {s d x : Int} (hs : s = 0 ∨ s = 1 ∨ s = 2 ∨ s = 3 ∨ s = 4) {q : Int × Int} (h : ts s d x = some q) : q.2 = (if tk x = 5 then d + 1 else if tk x = 6 then d - 1 else d) := by
  unfold ts at h
  repeat' split at h
  all_goals first | (simp only [Option.some.injEq] at h; subst h; dsimp only; repeat' split) | (exact absurd h (by simp))
  all_goals omega
theorem X8_firstFault {v : Nat} (hv : v ∈ gTX) (hT : TK v I) (hn : 1000000000000000000000000000000 ≤ n) : f_X8_firstFault n v (hp u I L) = some (tf (I (v + 1)) (I v 1).toNat (I v 1).toNat 0 0 0) := by
  have h2 := hT.1
  suffices key : zLP (I v 1).toNat (fun f k (s : Int × Int) => l_X8_firstFault_6 n f v s.1 s.2 (k : Int) (hp u I L)) (fun k s => (s.1 = 0 ∨ s.1 = 1 ∨ s.1 = 2 ∨ s.1 = 3 ∨ s.1 = 4) ∧ 0 ≤ s.2 ∧ s.2 ≤ (k : Int) ∧ tf (I (v + 1)) (I v 1).toNat ((I v 1).toNat - k) k s.1 s.2 = tf (I (v + 1)) (I v 1).toNat (I v 1).toNat 0 0 0)
    (fun r => r = some (tf (I (v + 1)) (I v 1).toNat (I v 1).toNat 0 0 0)) by
    exact key (I v 1).toNat n 0 (0, 0) (by omega) (by omega) ⟨Or.inl rfl, by decide, by decide, rfl⟩
  refine zlp ?_ ?_
  · rintro f k ⟨s, d⟩ hk ⟨h3, h4, h5, h6⟩
    dsimp only at h3 h4 h5 h6 ⊢
    have hk' : (k : Int) < I v 1 := by omega
    have hr := tk_rg (hT.2 k hk')
    obtain ⟨m, hm⟩ : ∃ m, (I v 1).toNat - k = m + 1 := ⟨(I v 1).toNat - k - 1, by omega⟩
    have hm' : (I v 1).toNat - (k + 1) = m := by omega
    have e1 := X8_stateBehind (s := s) (d := d) (x := I (v + 1) k) h3 (by omega) (by omega) (hp u I L)
    have ek : (k : Int) + 1 = ((k + 1 : Nat) : Int) := by omega
    rw [hm] at h6
    have h7 : (match ts s d (I (v + 1) k) with | none => (k : Int) | some q => tf (I (v + 1)) (I v 1).toNat m (k + 1) q.1 q.2) = tf (I (v + 1)) (I v 1).toNat (I v 1).toNat 0 0 0 := h6
    cases ht : ts s d (I (v + 1) k) with
    | none =>
      rw [ht] at e1 h7
      left
      simp (disch := omega) only [l_X8_firstFault_6, b_X8_firstFault_6, hi_T hv, hG_T_0 hv, hg_T_1 hv, hq_T_1 hv, ha_T_1 hv, hs_T_1 hv, hl_T_1 hv, Option.bind_some, nm_eq, sm_inl, sm_inr, zo_0, zo_1, rg_ok, if_pos, if_neg, if_true, if_false, Int.toNat_natCast, X8_letter hv hT hk', e1]
      rw [← h7]
    | some q =>
      rw [ht] at e1 h7
      have hq := ts_st ht h4
      have hd := ts_d h3 ht
      right
      refine ⟨q, ?_, by omega, hq.2.1, by omega, by rw [hm']; exact h7⟩
      have hc := tk_cases (I (v + 1) k)
      by_cases c5 : I (v + 1) k = 40
      · rw [if_pos (by omega)] at hd
        simp (disch := omega) only [l_X8_firstFault_6, b_X8_firstFault_6, b_X8_firstFault_59, hi_T hv, hG_T_0 hv, hg_T_1 hv, hq_T_1 hv, ha_T_1 hv, hs_T_1 hv, hl_T_1 hv, Option.bind_some, nm_eq, sm_inl, sm_inr, zo_0, zo_1, rg_ok, if_pos, if_neg, if_true, if_false, Int.toNat_natCast, X8_letter hv hT hk', e1, ek, ← hd]
      · rw [if_neg (by omega)] at hd
        by_cases c6 : I (v + 1) k = 41
        · rw [if_pos (by omega)] at hd
          simp (disch := omega) only [l_X8_firstFault_6, b_X8_firstFault_6, b_X8_firstFault_59, hi_T hv, hG_T_0 hv, hg_T_1 hv, hq_T_1 hv, ha_T_1 hv, hs_T_1 hv, hl_T_1 hv, Option.bind_some, nm_eq, sm_inl, sm_inr, zo_0, zo_1, rg_ok, if_pos, if_neg, if_true, if_false, Int.toNat_natCast, X8_letter hv hT hk', e1, ek, ← Int.sub_eq_add_neg, ← hd]
        · rw [if_neg (by omega)] at hd
          simp (disch := omega) only [l_X8_firstFault_6, b_X8_firstFault_6, b_X8_firstFault_59, hi_T hv, hG_T_0 hv, hg_T_1 hv, hq_T_1 hv, ha_T_1 hv, hs_T_1 hv, hl_T_1 hv, Option.bind_some, nm_eq, sm_inl, sm_inr, zo_0, zo_1, rg_ok, if_pos, if_neg, if_true, if_false, Int.toNat_natCast, X8_letter hv hT hk', e1, ek, hd]
  · rintro f ⟨s, d⟩ ⟨h3, h4, h5, h6⟩
    dsimp only at h3 h4 h5 h6 ⊢
    rw [Nat.sub_self] at h6
    rw [← h6]
    show _ = some (if d = 0 ∧ (s = 2 ∨ s = 3) then (-1 : Int) else (((I v 1).toNat : Nat) : Int))
    rw [Int.toNat_of_nonneg h2.1]
    by_cases c : d = 0
    · rcases h3 with q | q | q | q | q <;> simp (disch := omega) [l_X8_firstFault_6, b_X8_firstFault_6, b_X8_firstFault_65, b_X8_firstFault_79, b_X8_firstFault_83, b_X8_firstFault_84, hi_T hv, hG_T_0 hv, hg_T_1 hv, hq_T_1 hv, ha_T_1 hv, hs_T_1 hv, hl_T_1 hv, rg_ok, if_pos, q, c]
    · rcases h3 with q | q | q | q | q <;> simp (disch := omega) [l_X8_firstFault_6, b_X8_firstFault_6, b_X8_firstFault_65, b_X8_firstFault_79, b_X8_firstFault_83, b_X8_firstFault_84, hi_T hv, hG_T_0 hv, hg_T_1 hv, hq_T_1 hv, ha_T_1 hv, hs_T_1 hv, hl_T_1 hv, rg_ok, if_pos, q, c]
/-! the reference's -/
end TA
