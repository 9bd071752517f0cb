/-! ===== the reference's grammar as it stands in a heap; leadsAll; finds ===== -/
def RE (g : GT) (I : Nat → Nat → Int) : Prop := RW I ∧ rG I = g
theorem RE.fr {g : GT} {l : List Nat} {I J : Nat → Nat → Int} (w : RE g I) (h : Fr l I J) (h9 : J 161 9 = I 161 9) (q : 162 ∉ l ∧ 163 ∉ l ∧ 164 ∉ l ∧ 165 ∉ l ∧ 170 ∉ l) : RE g J := ⟨RW_fr h h9 q w.1, (rG_fr h h9 q).trans w.2⟩
theorem RE.gr {g : GT} {I : Nat → Nat → Int} (w : RE g I) : GR g := w.2 ▸ GR_r w.1
section RJ
variable {u : Nat} {g : GT} {I L : Nat → Nat → Int} {n : Nat}
theorem re_w (w : RE g I) : I 161 9 = ((rw9 I : Nat) : Int) ∧ rw9 I < 2 := rw9_of w.1
theorem re_many (w : RE g I) : Option.bind (gi_gI (hp u I L) 161 10 9) (fun t => gi_aI (hp u I L) 1 165 t) = some ((Gn g : Nat) : Int) := by
  have h9 := re_w w
  have h1 := rG_n w.1
  rw [w.2] at h1
  simp (disch := omega) only [hi_M, hG_M_0, hG_M_1, hG_M_2, hG_M_3, hG_M_4, hG_M_5, hG_M_6, hG_M_7, hG_M_8, hg_M_9, hq_M_9, hG_M_10, hG_M_11, hG_M_12, hg_M_13, hq_M_13, hG_M_14, hg_M_15, hq_M_15, hG_M_16, hg_M_17, hq_M_17, hg_M_18, hq_M_18, hG_M_19, hG_M_20, hG_M_21, hG_M_22, hG_M_23, hG_M_24, hg_M_25, hq_M_25, hG_M_26, hG_M_27, hG_M_28, hg_M_29, hq_M_29, hG_M_30, hG_M_31, hg_M_32, hq_M_32, hg_M_33, hq_M_33, hg_M_34, hq_M_34, hg_M_35, hq_M_35, hG_M_36, hG_M_37, hg_M_38, hq_M_38, hg_M_39, hq_M_39, hG_M_40, hG_M_41, hG_M_42, hG_M_43, hg_M_44, hq_M_44, ha_165, hs_165, hl_165, Option.bind_some, nm_eq, sm_inl, sm_inr, zo_0, zo_1, h9.1, Int.toNat_natCast, ← h1]
theorem re_n (w : RE g I) : I 165 (rw9 I) = ((Gn g : Nat) : Int) := by have h1 := rG_n w.1; rw [w.2] at h1; exact h1.symm
theorem re_t (w : RE g I) : I 170 (rw9 I) = ((Gt g : Nat) : Int) := by have h1 := rG_t w.1; rw [w.2] at h1; exact h1.symm
theorem re_size (w : RE g I) {p : Nat} (hq : p < Gn g) : f_X12_sizeOf 161 (p : Int) (hp u I L) = some ((Gl g p : Nat) : Int) := by
  obtain ⟨w1, rfl⟩ := w; exact X12_sizeOf w1 hq
theorem re_lead (w : RE g I) {p : Nat} (hq : p < Gn g) : f_X12_lead 161 (p : Int) (hp u I L) = some ((Go g p : Nat) : Int) := by
  obtain ⟨w1, rfl⟩ := w; exact X12_lead w1 hq
theorem re_symbol (w : RE g I) {p k : Nat} (hk : k < Gl g p) : f_X12_symbol 161 (p : Int) (k : Int) (hp u I L) = some ((Gs g p k : Nat) : Int) := by
  obtain ⟨w1, rfl⟩ := w; exact X12_symbol w1 hk
end RJ
def rRe (I : Nat → Nat → Int) (a b : Nat) : Prop := a < 16 ∧ b < 16 ∧ bt (I 180 a) b = true
def rRk (I : Nat → Nat → Int) : Prop := cOk 180 16 I ∧ ∀ a, a < 16 → ∀ i, bt (I 180 a) i = true → i < 16
theorem nR180 : 162 ∉ [180] ∧ 163 ∉ [180] ∧ 164 ∉ [180] ∧ 165 ∉ [180] ∧ 170 ∉ [180] := by decide
theorem RE.f180 {g : GT} {I J : Nat → Nat → Int} (w : RE g I) (h : Fr [180] I J) : RE g J := w.fr h (by rw [h 161 (by decide)]) nR180
/-- one way more -/
theorem rRe_or {J : Nat → Nat → Int} (h : rRk J) {a : Nat} (ha : a < 16) {y : Int} (hy : ∀ i, bt y i = true → i < 16) : rRk (gx_u J 180 a (gi_or (J 180 a) y)) ∧ ∀ c b, rRe (gx_u J 180 a (gi_or (J 180 a) y)) c b ↔ rRe J c b ∨ (c = a ∧ bt y b = true) := by
  refine ⟨⟨h.1.wr (bt_ok_or _ _), fun c hc i hi => ?_⟩, fun c b => ?_⟩
  · by_cases e : c = a
    · rw [gu_at_eq e, bt_or, Bool.or_eq_true] at hi
      rcases hi with hi | hi
      · exact h.2 a ha i hi
      · exact hy i hi
    · rw [gu_at_ne e] at hi; exact h.2 c hc i hi
  · unfold rRe
    by_cases e : c = a
    · rw [gu_at_eq e, bt_or, Bool.or_eq_true, e]
      constructor
      · rintro ⟨q1, q2, q3 | q3⟩
        · exact Or.inl ⟨q1, q2, q3⟩
        · exact Or.inr ⟨rfl, q3⟩
      · rintro (⟨q1, q2, q3⟩ | ⟨-, q3⟩)
        · exact ⟨q1, q2, Or.inl q3⟩
        · exact ⟨ha, hy b q3, Or.inr q3⟩
    · rw [gu_at_ne e]
      exact ⟨Or.inl, fun q => q.elim id (fun z => absurd z.1 e)⟩
/-- Warshall's relations -/
def WR (R : Nat → Nat → Prop) : Nat → Nat → Nat → Prop
  | 0, a, b => R a b
  | k + 1, a, b => WR R k a b ∨ (WR R k a k ∧ WR R k k b)
theorem WR_tr {R : Nat → Nat → Prop} : ∀ k a j b, j < k → WR R k a j → WR R k j b → WR R k a b
  | 0, _, _, _, h, _, _ => absurd h (by omega)
  | k + 1, a, j, b, h, h1, h2 => by
    by_cases e : j = k
    · subst e
      right
      refine ⟨?_, ?_⟩
      · rcases h1 with h1 | h1
        · exact h1
        · exact h1.1
      · rcases h2 with h2 | h2
        · exact h2
        · exact h2.2
    · have hj : j < k := by omega
      rcases h1 with h1 | h1
      · rcases h2 with h2 | h2
        · exact Or.inl (WR_tr k a j b hj h1 h2)
        · exact Or.inr ⟨WR_tr k a j k hj h1 h2.1, h2.2⟩
      · rcases h2 with h2 | h2
        · exact Or.inr ⟨h1.1, WR_tr k k j b hj h1.2 h2⟩
        · exact Or.inr ⟨h1.1, h2.2⟩
theorem WR_sub {R : Nat → Nat → Prop} : ∀ k a b, R a b → WR R k a b
  | 0, _, _, h => h
  | k + 1, a, b, h => Or.inl (WR_sub k a b h)
section RK
variable {u : Nat} {L : Nat → Nat → Int} {n : Nat} {g : GT}
/-- one row takes in the rows that it leads to -/
theorem X12_la130 {I T : Nat → Nat → Int} {a : Nat} (ha : a < 16) (r114 : Nat → Int → gi_H → Option gi_H) (r122 : Nat → Int → Int → gi_H → Option gi_H) (rd : Int) (U : Nat → Nat → Prop) (hU : ∀ a b c, U a b → U b c → U a c) : zLP (16) (fun f k J => l_X12_leadsAll_130 n r114 r122 f 161 rd (a : Int) (k : Int) (hp u J L))
    (fun k J => Fr [180] I J ∧ rRk J ∧ (∀ a b, rRe J a b → U a b) ∧ (∀ a b, rRe T a b → rRe J a b) ∧ ∀ c, (c < a ∧ c < 16 → ∀ e, rRe T c e → ∀ b, rRe T e b → rRe J c b) ∧ (c = a → ∀ e, e < k → rRe T c e → ∀ b, rRe T e b → rRe J c b))
    (fun r => ∃ J', r = r122 161 rd ((a + 1 : Nat) : Int) (hp u J' L) ∧ Fr [180] I J' ∧ rRk J' ∧ (∀ a b, rRe J' a b → U a b) ∧ (∀ a b, rRe T a b → rRe J' a b) ∧ ∀ c, c < a + 1 → ∀ e, rRe T c e → ∀ b, rRe T e b → rRe J' c b) := by
  refine zlp ?_ ?_
  · rintro f k J hk ⟨h1, h2, h3, h4, h5⟩
    right
    have e : l_X12_leadsAll_130 n r114 r122 (f + 1) 161 rd (a : Int) (k : Int) (hp u J L) = l_X12_leadsAll_130 n r114 r122 f 161 rd (a : Int) ((k + 1 : Nat) : Int) (hp u (gx_u J 180 a (gi_or (J 180 a) (if bt (J 180 a) k = true then J 180 k else 0))) L) := by
      have hb := bt_has (x := J 180 a) (k := k) (by omega)
      have ek : (k : Int) + 1 = ((k + 1 : Nat) : Int) := by omega
      by_cases q : bt (J 180 a) k = true
      · rw [if_pos q] at hb ⊢
        simp (disch := omega) only [l_X12_leadsAll_130, b_X12_leadsAll_130, b_X12_leadsAll_167, hi_M, hG_M_0, hG_M_1, hG_M_2, hG_M_3, hG_M_4, hG_M_5, hG_M_6, hG_M_7, hG_M_8, hg_M_9, hq_M_9, hG_M_10, hG_M_11, hG_M_12, hg_M_13, hq_M_13, hG_M_14, hg_M_15, hq_M_15, hG_M_16, hg_M_17, hq_M_17, hg_M_18, hq_M_18, hG_M_19, hG_M_20, hG_M_21, hG_M_22, hG_M_23, hG_M_24, hg_M_25, hq_M_25, hG_M_26, hG_M_27, hG_M_28, hg_M_29, hq_M_29, hG_M_30, hG_M_31, hg_M_32, hq_M_32, hg_M_33, hq_M_33, hg_M_34, hq_M_34, hg_M_35, hq_M_35, hG_M_36, hG_M_37, hg_M_38, hq_M_38, hg_M_39, hq_M_39, hG_M_40, hG_M_41, hG_M_42, hG_M_43, hg_M_44, hq_M_44, ha_180, hs_180, hl_180, Option.bind_some, nm_eq, sm_inl, sm_inr, zo_0, zo_1, rg_ok, Int.toNat_natCast, hb, if_pos, if_neg, if_true, if_false, ek]
      · rw [if_neg q] at hb ⊢
        simp (disch := omega) only [l_X12_leadsAll_130, b_X12_leadsAll_130, b_X12_leadsAll_167, hi_M, hG_M_0, hG_M_1, hG_M_2, hG_M_3, hG_M_4, hG_M_5, hG_M_6, hG_M_7, hG_M_8, hg_M_9, hq_M_9, hG_M_10, hG_M_11, hG_M_12, hg_M_13, hq_M_13, hG_M_14, hg_M_15, hq_M_15, hG_M_16, hg_M_17, hq_M_17, hg_M_18, hq_M_18, hG_M_19, hG_M_20, hG_M_21, hG_M_22, hG_M_23, hG_M_24, hg_M_25, hq_M_25, hG_M_26, hG_M_27, hG_M_28, hg_M_29, hq_M_29, hG_M_30, hG_M_31, hg_M_32, hq_M_32, hg_M_33, hq_M_33, hg_M_34, hq_M_34, hg_M_35, hq_M_35, hG_M_36, hG_M_37, hg_M_38, hq_M_38, hg_M_39, hq_M_39, hG_M_40, hG_M_41, hG_M_42, hG_M_43, hg_M_44, hq_M_44, ha_180, hs_180, hl_180, Option.bind_some, nm_eq, sm_inl, sm_inr, zo_0, zo_1, rg_ok, Int.toNat_natCast, hb, if_pos, if_neg, if_true, if_false, ek]
    have hy : ∀ i, bt (if bt (J 180 a) k = true then J 180 k else 0) i = true → i < 16 := fun i hi => by
      split at hi
      · exact h2.2 k hk i hi
      · rw [bt_zero] at hi; exact absurd hi (by decide)
    obtain ⟨r1, r2⟩ := rRe_or h2 ha hy
    refine ⟨_, e, h1.wr (by decide), r1, fun c b q => ?_, fun c b q => (r2 c b).mpr (Or.inl (h4 c b q)), fun c => ⟨fun hc e he b hb => (r2 c b).mpr (Or.inl ((h5 c).1 hc e he b hb)), fun hc e he he2 b hb => ?_⟩⟩
    · rcases (r2 c b).mp q with z | ⟨z1, z2⟩
      · exact h3 c b z
      · split at z2
        · next z3 => exact z1 ▸ hU a k b (h3 a k ⟨ha, hk, z3⟩) (h3 k b ⟨hk, h2.2 k hk b z2, z2⟩)
        · rw [bt_zero] at z2; exact absurd z2 (by decide)
    · rw [r2]
      by_cases e2 : e = k
      · right
        refine ⟨hc, ?_⟩
        rw [if_pos (e2 ▸ hc ▸ (h4 c e he2).2.2), ← e2]
        exact (h4 e b hb).2.2
      · exact Or.inl ((h5 c).2 hc e (by omega) he2 b hb)
  · rintro f J ⟨h1, h2, h3, h4, h5⟩
    refine ⟨J, ?_, h1, h2, h3, h4, fun c hc e he b hb => ?_⟩
    · simp (disch := omega) only [l_X12_leadsAll_130, b_X12_leadsAll_130, b_X12_leadsAll_175, Option.bind_some, nm_eq, sm_inl, sm_inr, zo_0, zo_1, rg_ok]
      rw [if_pos (by decide), show (a : Int) + 1 = ((a + 1 : Nat) : Int) by omega]
    · by_cases e2 : c = a
      · exact (h5 c).2 e2 e he.2.1 he b hb
      · exact (h5 c).1 ⟨by omega, he.1⟩ e he b hb
/-- a turn over all rows -/
theorem X12_la122 (hn : 1000000000000000000000000000000 ≤ n) {I T : Nat → Nat → Int} (r114 : Nat → Int → gi_H → Option gi_H) (rd : Nat) (U : Nat → Nat → Prop) (hU : ∀ a b c, U a b → U b c → U a c) : zLP (16) (fun f a J => l_X12_leadsAll_122 n r114 f 161 (rd : Int) (a : Int) (hp u J L))
    (fun a J => Fr [180] I J ∧ rRk J ∧ (∀ a b, rRe J a b → U a b) ∧ (∀ a b, rRe T a b → rRe J a b) ∧ ∀ c, c < a → ∀ e, rRe T c e → ∀ b, rRe T e b → rRe J c b)
    (fun r => ∃ J', r = r114 161 ((rd + 1 : Nat) : Int) (hp u J' L) ∧ Fr [180] I J' ∧ rRk J' ∧ (∀ a b, rRe J' a b → U a b) ∧ (∀ a b, rRe T a b → rRe J' a b) ∧ ∀ c e b, rRe T c e → rRe T e b → rRe J' c b) := by
  refine zlp ?_ ?_
  · rintro f a J ha ⟨h1, h2, h3, h4, h5⟩
    right
    obtain ⟨J', e, q1, q2, q3, q4, q5⟩ := X12_la130 (u := u) (L := L) (n := n) (T := T) ha r114 (l_X12_leadsAll_122 n r114 f) (rd : Int) U hU 16 n 0 J (by omega) (by omega) ⟨h1, h2, h3, h4, fun c => ⟨fun hc => h5 c hc.1, fun hc e he => absurd he (by omega)⟩⟩
    have e' : l_X12_leadsAll_130 n r114 (l_X12_leadsAll_122 n r114 f) n 161 (rd : Int) (a : Int) 0 (hp u J L) = l_X12_leadsAll_122 n r114 f 161 (rd : Int) ((a + 1 : Nat) : Int) (hp u J' L) := e
    refine ⟨J', ?_, q1, q2, q3, q4, q5⟩
    simp (disch := omega) only [l_X12_leadsAll_122, b_X12_leadsAll_122, Option.bind_some, nm_eq, sm_inl, sm_inr, zo_0, zo_1, rg_ok]
    rw [if_neg (by omega)]
    exact e'
  · rintro f J ⟨h1, h2, h3, h4, h5⟩
    refine ⟨J, ?_, h1, h2, h3, h4, fun c e b he hb => h5 c he.1 e he b hb⟩
    simp (disch := omega) only [l_X12_leadsAll_122, b_X12_leadsAll_122, b_X12_leadsAll_181, Option.bind_some, nm_eq, sm_inl, sm_inr, zo_0, zo_1, rg_ok]
    rw [if_pos (by decide), show (rd : Int) + 1 = ((rd + 1 : Nat) : Int) by omega]
theorem X12_la114 (hn : 1000000000000000000000000000000 ≤ n) {I J0 : Nat → Nat → Int} (R U : Nat → Nat → Prop) (hU : ∀ a b c, U a b → U b c → U a c) (hRU : ∀ a b, R a b → U a b) (h0 : ∀ a b, rRe J0 a b ↔ R a b) (f0 : Fr [180] I J0) (k0 : rRk J0) :
    ∃ J', l_X12_leadsAll_114 n n 161 0 (hp u J0 L) = some (hp u J' L) ∧ Fr [180] I J' ∧ rRk J' ∧ (∀ a b, rRe J' a b → U a b) ∧ ∀ a b, WR R 16 a b → rRe J' a b := by
  have key : zLP (16) (fun f a J => l_X12_leadsAll_114 n f 161 (a : Int) (hp u J L))
    (fun a J => Fr [180] I J ∧ rRk J ∧ (∀ a b, rRe J a b → U a b) ∧ ∀ c b, WR R a c b → rRe J c b)
    (fun r => ∃ J', r = some (hp u J' L) ∧ Fr [180] I J' ∧ rRk J' ∧ (∀ a b, rRe J' a b → U a b) ∧ ∀ a b, WR R 16 a b → rRe J' a b) := by
    refine zlp ?_ ?_
    · rintro f a J ha ⟨h1, h2, h3, h4⟩
      right
      obtain ⟨J', e, q1, q2, q3, q4, q5⟩ := X12_la122 (u := u) (L := L) (n := n) (T := J) hn (l_X12_leadsAll_114 n f) a U hU 16 n 0 J (by omega) (by omega) ⟨h1, h2, h3, fun a b q => q, fun c hc => absurd hc (by omega)⟩
      have e' : l_X12_leadsAll_122 n (l_X12_leadsAll_114 n f) n 161 (a : Int) 0 (hp u J L) = l_X12_leadsAll_114 n f 161 ((a + 1 : Nat) : Int) (hp u J' L) := e
      refine ⟨J', ?_, q1, q2, q3, fun c b h => ?_⟩
      · simp (disch := omega) only [l_X12_leadsAll_114, b_X12_leadsAll_114, Option.bind_some, nm_eq, sm_inl, sm_inr, zo_0, zo_1, rg_ok]
        rw [if_neg (by omega)]
        exact e'
      · rcases h with h | h
        · exact q4 c b (h4 c b h)
        · exact q5 c a b (h4 c a h.1) (h4 a b h.2)
    · rintro f J ⟨h1, h2, h3, h4⟩
      refine ⟨J, ?_, h1, h2, h3, h4⟩
      simp (disch := omega) only [l_X12_leadsAll_114, b_X12_leadsAll_114, Option.bind_some, nm_eq, sm_inl, sm_inr, zo_0, zo_1, rg_ok]
      rw [if_pos (by decide)]
  exact key 16 n 0 J0 (by omega) (by omega) ⟨f0, k0, fun a b q => hRU a b ((h0 a b).mp q), fun c b q => (h0 c b).mpr q⟩
/-- the ways of one production -/
theorem X12_la19 {I : Nat → Nat → Int} (w : RE g I) (hT : rTb I) (r2 : Nat → Int → gi_H → Option gi_H) {p : Nat} (hp1 : p < Gn g) : zLP (Gl g p) (fun f k (s : Int × (Nat → Nat → Int)) => l_X12_leadsAll_19 n r2 f 161 (p : Int) s.1 (k : Int) (hp u s.2 L))
    (fun k s => Fr [180] I s.2 ∧ rRk s.2 ∧ ((s.1 = 1 ∧ qL g (rNi I) p k) ∨ (s.1 = 0 ∧ ¬ qL g (rNi I) p k)) ∧ ∀ a b, rRe s.2 a b ↔ RP g (qL g (rNi I)) p k a b)
    (fun r => ∃ J', r = r2 161 ((p + 1 : Nat) : Int) (hp u J' L) ∧ Fr [180] I J' ∧ rRk J' ∧ ∀ a b, rRe J' a b ↔ RP g (qL g (rNi I)) (p + 1) 0 a b) := by
  have hg := w.gr
  have h24 := hg.1
  have h5 := hg.2.2.2.1 p
  have ho := hg.2.2.1 p
  refine zlp ?_ ?_
  · rintro f k ⟨v, J⟩ hk ⟨h1, h2, h3, h4⟩
    dsimp only at h1 h2 h3 h4 ⊢
    have wJ := w.f180 h1
    have hs := hg.2.2.2.2.2 p k hk
    have h18 : J 161 18 = I 161 18 := by rw [h1 161 (by decide)]
    rcases h3 with ⟨a1, a2⟩ | ⟨a1, a2⟩
    · right
      have nx : ∀ y : Int, (∀ i, bt y i = true ↔ 16 ≤ Gs g p k ∧ i = Gs g p k - 16) → rRk (gx_u J 180 (Go g p) (gi_or (J 180 (Go g p)) y)) ∧ ∀ a b, rRe (gx_u J 180 (Go g p) (gi_or (J 180 (Go g p)) y)) a b ↔ RP g (qL g (rNi I)) p (k + 1) a b := fun y hy => by
        obtain ⟨r1, r2⟩ := rRe_or h2 ho (y := y) (fun i hi => by have := (hy i).mp hi; omega)
        refine ⟨r1, fun a b => ?_⟩
        rw [r2, h4, RP_step hp1 hk, hy]
        simp only [a2, true_and]
        constructor
        · rintro (q | ⟨q1, q2, q3⟩)
          · exact Or.inl q
          · exact Or.inr ⟨q1, by omega⟩
        · rintro (q | ⟨q1, q2⟩)
          · exact Or.inl q
          · exact Or.inr ⟨q1, by omega, by omega⟩
      by_cases hs16 : Gs g p k < 16
      · obtain ⟨r1, r2⟩ := nx 0 (fun i => by rw [bt_zero]; exact ⟨fun q => absurd q (by decide), fun q => by omega⟩)
        refine ⟨(0, gx_u J 180 (Go g p) (gi_or (J 180 (Go g p)) 0)), ?_, h1.wr (by decide), r1, Or.inr ⟨rfl, fun q => ?_⟩, r2⟩
        · simp (disch := omega) only [l_X12_leadsAll_19, b_X12_leadsAll_19, b_X12_leadsAll_69, b_X12_leadsAll_98, b_X12_leadsAll_99, hi_M, hG_M_0, hG_M_1, hG_M_2, hG_M_3, hG_M_4, hG_M_5, hG_M_6, hG_M_7, hG_M_8, hg_M_9, hq_M_9, hG_M_10, hG_M_11, hG_M_12, hg_M_13, hq_M_13, hG_M_14, hg_M_15, hq_M_15, hG_M_16, hg_M_17, hq_M_17, hg_M_18, hq_M_18, hG_M_19, hG_M_20, hG_M_21, hG_M_22, hG_M_23, hG_M_24, hg_M_25, hq_M_25, hG_M_26, hG_M_27, hG_M_28, hg_M_29, hq_M_29, hG_M_30, hG_M_31, hg_M_32, hq_M_32, hg_M_33, hq_M_33, hg_M_34, hq_M_34, hg_M_35, hq_M_35, hG_M_36, hG_M_37, hg_M_38, hq_M_38, hg_M_39, hq_M_39, hG_M_40, hG_M_41, hG_M_42, hG_M_43, hg_M_44, hq_M_44, ha_180, hs_180, hl_180, Option.bind_some, nm_eq, sm_inl, sm_inr, zo_0, zo_1, re_size wJ hp1, re_lead wJ hp1, re_symbol wJ hk, rg_ok, a1, Int.toNat_natCast]
          rw [if_neg (by omega), if_neg (by decide), if_neg (by omega), if_pos (by omega), show (k : Int) + 1 = ((k + 1 : Nat) : Int) by omega]
        · have := (q k (by omega)).1; omega
      · obtain ⟨r1, r2⟩ := nx (gi_shl 1 ((Gs g p k - 16 : Nat) : Int)) (fun i => by rw [bt_shl1 (by omega), decide_eq_true_eq]; exact ⟨fun q => ⟨by omega, q⟩, fun q => q.2⟩)
        have hb := bt_has (x := I 161 18) (k := Gs g p k - 16) (by omega)
        have hnl := rTb_null (I := I) hs
        have ek : (k : Int) + 1 = ((k + 1 : Nat) : Int) := by omega
        have e16 : ((Gs g p k : Nat) : Int) - 16 = ((Gs g p k - 16 : Nat) : Int) := by omega
        refine ⟨(if bt (I 161 18) (Gs g p k - 16) = true then 1 else 0, gx_u J 180 (Go g p) (gi_or (J 180 (Go g p)) (gi_shl 1 ((Gs g p k - 16 : Nat) : Int)))), ?_, h1.wr (by decide), r1, ?_, r2⟩
        · by_cases q : bt (I 161 18) (Gs g p k - 16) = true
          · rw [if_pos q] at hb ⊢
            simp (disch := omega) only [l_X12_leadsAll_19, b_X12_leadsAll_19, b_X12_leadsAll_69, b_X12_leadsAll_98, b_X12_leadsAll_99, hi_M, hG_M_0, hG_M_1, hG_M_2, hG_M_3, hG_M_4, hG_M_5, hG_M_6, hG_M_7, hG_M_8, hg_M_9, hq_M_9, hG_M_10, hG_M_11, hG_M_12, hg_M_13, hq_M_13, hG_M_14, hg_M_15, hq_M_15, hG_M_16, hg_M_17, hq_M_17, hg_M_18, hq_M_18, hG_M_19, hG_M_20, hG_M_21, hG_M_22, hG_M_23, hG_M_24, hg_M_25, hq_M_25, hG_M_26, hG_M_27, hG_M_28, hg_M_29, hq_M_29, hG_M_30, hG_M_31, hg_M_32, hq_M_32, hg_M_33, hq_M_33, hg_M_34, hq_M_34, hg_M_35, hq_M_35, hG_M_36, hG_M_37, hg_M_38, hq_M_38, hg_M_39, hq_M_39, hG_M_40, hG_M_41, hG_M_42, hG_M_43, hg_M_44, hq_M_44, ha_180, hs_180, hl_180, Option.bind_some, nm_eq, sm_inl, sm_inr, zo_0, zo_1, re_size wJ hp1, re_lead wJ hp1, re_symbol wJ hk, rg_ok, a1, Int.toNat_natCast, if_pos, if_neg, if_true, if_false, ek, e16, gu_ne (show (161 : Nat) ≠ 180 by decide), h18, hb]
          · rw [if_neg q] at hb ⊢
            simp (disch := omega) only [l_X12_leadsAll_19, b_X12_leadsAll_19, b_X12_leadsAll_69, b_X12_leadsAll_98, b_X12_leadsAll_99, hi_M, hG_M_0, hG_M_1, hG_M_2, hG_M_3, hG_M_4, hG_M_5, hG_M_6, hG_M_7, hG_M_8, hg_M_9, hq_M_9, hG_M_10, hG_M_11, hG_M_12, hg_M_13, hq_M_13, hG_M_14, hg_M_15, hq_M_15, hG_M_16, hg_M_17, hq_M_17, hg_M_18, hq_M_18, hG_M_19, hG_M_20, hG_M_21, hG_M_22, hG_M_23, hG_M_24, hg_M_25, hq_M_25, hG_M_26, hG_M_27, hG_M_28, hg_M_29, hq_M_29, hG_M_30, hG_M_31, hg_M_32, hq_M_32, hg_M_33, hq_M_33, hg_M_34, hq_M_34, hg_M_35, hq_M_35, hG_M_36, hG_M_37, hg_M_38, hq_M_38, hg_M_39, hq_M_39, hG_M_40, hG_M_41, hG_M_42, hG_M_43, hg_M_44, hq_M_44, ha_180, hs_180, hl_180, Option.bind_some, nm_eq, sm_inl, sm_inr, zo_0, zo_1, re_size wJ hp1, re_lead wJ hp1, re_symbol wJ hk, rg_ok, a1, Int.toNat_natCast, if_pos, if_neg, if_true, if_false, ek, e16, gu_ne (show (161 : Nat) ≠ 180 by decide), h18, hb]
        · dsimp only
          by_cases q : bt (I 161 18) (Gs g p k - 16) = true
          · rw [if_pos q]
            refine Or.inl ⟨rfl, fun i hi => ?_⟩
            by_cases e : i = k
            · subst e; exact hnl.mpr ⟨by omega, q⟩
            · exact a2 i (by omega)
          · rw [if_neg q]
            exact Or.inr ⟨rfl, fun z => q (hnl.mp (z k (by omega))).2⟩
    · left
      refine ⟨J, ?_, h1, h2, fun a b => (h4 a b).trans (RP_next (fun k' q1 q2 q => a2 (fun i hi => q i (by omega))))⟩
      simp (disch := omega) only [l_X12_leadsAll_19, b_X12_leadsAll_19, b_X12_leadsAll_106, hi_M, hG_M_0, hG_M_1, hG_M_2, hG_M_3, hG_M_4, hG_M_5, hG_M_6, hG_M_7, hG_M_8, hg_M_9, hq_M_9, hG_M_10, hG_M_11, hG_M_12, hg_M_13, hq_M_13, hG_M_14, hg_M_15, hq_M_15, hG_M_16, hg_M_17, hq_M_17, hg_M_18, hq_M_18, hG_M_19, hG_M_20, hG_M_21, hG_M_22, hG_M_23, hG_M_24, hg_M_25, hq_M_25, hG_M_26, hG_M_27, hG_M_28, hg_M_29, hq_M_29, hG_M_30, hG_M_31, hg_M_32, hq_M_32, hg_M_33, hq_M_33, hg_M_34, hq_M_34, hg_M_35, hq_M_35, hG_M_36, hG_M_37, hg_M_38, hq_M_38, hg_M_39, hq_M_39, hG_M_40, hG_M_41, hG_M_42, hG_M_43, hg_M_44, hq_M_44, Option.bind_some, nm_eq, sm_inl, sm_inr, zo_0, zo_1, re_size wJ hp1, rg_ok, a1]
      rw [if_neg (by omega), if_pos trivial, show (p : Int) + 1 = ((p + 1 : Nat) : Int) by omega]
  · rintro f ⟨v, J⟩ ⟨h1, h2, h3, h4⟩
    dsimp only at h1 h2 h3 h4 ⊢
    have wJ := w.f180 h1
    refine ⟨J, ?_, h1, h2, fun a b => (h4 a b).trans (RP_next (fun k' q1 q2 => absurd q2 (by omega)))⟩
    simp (disch := omega) only [l_X12_leadsAll_19, b_X12_leadsAll_19, b_X12_leadsAll_106, hi_M, hG_M_0, hG_M_1, hG_M_2, hG_M_3, hG_M_4, hG_M_5, hG_M_6, hG_M_7, hG_M_8, hg_M_9, hq_M_9, hG_M_10, hG_M_11, hG_M_12, hg_M_13, hq_M_13, hG_M_14, hg_M_15, hq_M_15, hG_M_16, hg_M_17, hq_M_17, hg_M_18, hq_M_18, hG_M_19, hG_M_20, hG_M_21, hG_M_22, hG_M_23, hG_M_24, hg_M_25, hq_M_25, hG_M_26, hG_M_27, hG_M_28, hg_M_29, hq_M_29, hG_M_30, hG_M_31, hg_M_32, hq_M_32, hg_M_33, hq_M_33, hg_M_34, hq_M_34, hg_M_35, hq_M_35, hG_M_36, hG_M_37, hg_M_38, hq_M_38, hg_M_39, hq_M_39, hG_M_40, hG_M_41, hG_M_42, hG_M_43, hg_M_44, hq_M_44, Option.bind_some, nm_eq, sm_inl, sm_inr, zo_0, zo_1, re_size wJ hp1, rg_ok]
    rw [if_pos (by omega), show (p : Int) + 1 = ((p + 1 : Nat) : Int) by omega]
theorem X12_leadsAll (hn : 1000000000000000000000000000000 ≤ n) {I : Nat → Nat → Int} (w : RE g I) (hT : rTb I) (h0 : ∀ k, k < 16 → I 180 k = 0) :
    ∃ J, f_X12_leadsAll n 161 (hp u I L) = some (hp u J L) ∧ Fr [180] I J ∧ rRk J ∧ ∃ T, isTC (rlL g (rNi I)) T ∧ ∀ a b, rRe J a b ↔ T a b := by
  have hg := w.gr
  have h24 := hg.1
  have hlt : ∀ a b, rlL g (rNi I) a b → a < 16 ∧ b < 16 := by
    rintro a b ⟨p, h1, h2, k, h3, h4, h5⟩
    have := hg.2.2.1 p
    have := hg.2.2.2.2.2 p k h3
    omega
  have key : zLP (Gn g) (fun f p J => l_X12_leadsAll_2 n f 161 (p : Int) (hp u J L))
    (fun p J => Fr [180] I J ∧ rRk J ∧ ∀ a b, rRe J a b ↔ RP g (qL g (rNi I)) p 0 a b)
    (fun r => ∃ J', r = l_X12_leadsAll_114 n n 161 0 (hp u J' L) ∧ Fr [180] I J' ∧ rRk J' ∧ ∀ a b, rRe J' a b ↔ rlL g (rNi I) a b) := by
    refine zlp ?_ ?_
    · rintro f p J hp1 ⟨h1, h2, h3⟩
      right
      have wJ := w.f180 h1
      have h9 := re_w wJ
      have h5 := hg.2.2.2.1 p
      obtain ⟨J', e, q1, q2, q3⟩ := X12_la19 (u := u) (L := L) (n := n) w hT (l_X12_leadsAll_2 n f) hp1 (Gl g p) n 0 (1, J) (by omega) (by omega) ⟨h1, h2, Or.inl ⟨rfl, fun i hi => absurd hi (by omega)⟩, h3⟩
      have e' : l_X12_leadsAll_19 n (l_X12_leadsAll_2 n f) n 161 (p : Int) 1 0 (hp u J L) = l_X12_leadsAll_2 n f 161 ((p + 1 : Nat) : Int) (hp u J' L) := e
      refine ⟨J', ?_, q1, q2, q3⟩
      simp (disch := omega) only [l_X12_leadsAll_2, b_X12_leadsAll_2, hi_M, hG_M_0, hG_M_1, hG_M_2, hG_M_3, hG_M_4, hG_M_5, hG_M_6, hG_M_7, hG_M_8, hg_M_9, hq_M_9, hG_M_10, hG_M_11, hG_M_12, hg_M_13, hq_M_13, hG_M_14, hg_M_15, hq_M_15, hG_M_16, hg_M_17, hq_M_17, hg_M_18, hq_M_18, hG_M_19, hG_M_20, hG_M_21, hG_M_22, hG_M_23, hG_M_24, hg_M_25, hq_M_25, hG_M_26, hG_M_27, hG_M_28, hg_M_29, hq_M_29, hG_M_30, hG_M_31, hg_M_32, hq_M_32, hg_M_33, hq_M_33, hg_M_34, hq_M_34, hg_M_35, hq_M_35, hG_M_36, hG_M_37, hg_M_38, hq_M_38, hg_M_39, hq_M_39, hG_M_40, hG_M_41, hG_M_42, hG_M_43, hg_M_44, hq_M_44, ha_165, hs_165, hl_165, Option.bind_some, nm_eq, sm_inl, sm_inr, zo_0, zo_1, rg_ok, h9.1, Int.toNat_natCast, re_n wJ, e']
      rw [if_neg (by omega)]
    · rintro f J ⟨h1, h2, h3⟩
      have wJ := w.f180 h1
      have h9 := re_w wJ
      refine ⟨J, ?_, h1, h2, fun a b => (h3 a b).trans (RP_L a b)⟩
      simp (disch := omega) only [l_X12_leadsAll_2, b_X12_leadsAll_2, b_X12_leadsAll_112, hi_M, hG_M_0, hG_M_1, hG_M_2, hG_M_3, hG_M_4, hG_M_5, hG_M_6, hG_M_7, hG_M_8, hg_M_9, hq_M_9, hG_M_10, hG_M_11, hG_M_12, hg_M_13, hq_M_13, hG_M_14, hg_M_15, hq_M_15, hG_M_16, hg_M_17, hq_M_17, hg_M_18, hq_M_18, hG_M_19, hG_M_20, hG_M_21, hG_M_22, hG_M_23, hG_M_24, hg_M_25, hq_M_25, hG_M_26, hG_M_27, hG_M_28, hg_M_29, hq_M_29, hG_M_30, hG_M_31, hg_M_32, hq_M_32, hg_M_33, hq_M_33, hg_M_34, hq_M_34, hg_M_35, hq_M_35, hG_M_36, hG_M_37, hg_M_38, hq_M_38, hg_M_39, hq_M_39, hG_M_40, hG_M_41, hG_M_42, hG_M_43, hg_M_44, hq_M_44, ha_165, hs_165, hl_165, Option.bind_some, nm_eq, sm_inl, sm_inr, zo_0, zo_1, rg_ok, h9.1, Int.toNat_natCast, re_n wJ]
      rw [if_pos (by omega)]
  have hz : ∀ a b, ¬ rRe I a b := fun a b q => by
    have h1 := q.2.2
    rw [h0 a q.1, bt_zero] at h1; exact absurd h1 (by decide)
  obtain ⟨J1, e1, f1, k1, v1⟩ := key (Gn g) n 0 I (by omega) (by omega) ⟨Fr.rf, ⟨fun k hk => by rw [h0 k hk]; decide, fun a ha i hi => by rw [h0 a ha, bt_zero] at hi; exact absurd hi (by decide)⟩, fun a b => ⟨fun q => absurd q (hz a b), fun q => absurd q RP_0⟩⟩
  have e1' : f_X12_leadsAll n 161 (hp u I L) = l_X12_leadsAll_114 n n 161 0 (hp u J1 L) := e1
  obtain ⟨J2, e2, f2, k2, v2, v3⟩ := X12_la114 (u := u) (L := L) (n := n) hn (rlL g (rNi I)) (fun a b => ∀ T' : Nat → Nat → Prop, (∀ a b, rlL g (rNi I) a b → T' a b) → (∀ a b c, T' a b → T' b c → T' a c) → T' a b) (fun a b c q1 q2 T' z1 z2 => z2 a b c (q1 T' z1 z2) (q2 T' z1 z2)) (fun a b q T' z1 z2 => z1 a b q) v1 f1 k1
  refine ⟨J2, e1'.trans e2, f2, k2, rRe J2, ⟨fun a b q => v3 a b (WR_sub 16 a b q), fun a b c q1 q2 => ?_, fun T' z1 z2 a b q => v2 a b q T' z1 z2⟩, fun a b => Iff.rfl⟩
  have hW : ∀ a b, rRe J2 a b → WR (rlL g (rNi I)) 16 a b := fun a b q => by
    have hT' := v2 a b q (fun a b => a < 16 ∧ b < 16 ∧ WR (rlL g (rNi I)) 16 a b) (fun a b z => ⟨(hlt a b z).1, (hlt a b z).2, WR_sub 16 a b z⟩) (fun a b c z1 z2 => ⟨z1.1, z2.2.1, WR_tr 16 a b c z1.2.1 z1.2.2 z2.2.2⟩)
    exact hT'.2.2
  exact v3 a c (WR_tr 16 a b c q1.2.1 (hW a b q1) (hW b c q2))
end RK
