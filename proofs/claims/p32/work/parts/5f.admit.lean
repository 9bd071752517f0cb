/-! ===== a rule read and admitted: the class ===== -/
def cO (r : Nat → Int) : Nat → Nat
  | 0 => 0
  | H + 1 => cO r H + if r H = -2 then 1 else 0
def rok (x : Int) : Prop := x = -1 ∨ x = -2 ∨ sgd x
def VS (t : Nat → Int) (N k : Nat) (S d : Int) (r : Nat → Int) (H : Nat) : Prop := 2 ≤ k ∧ k ≤ N ∧ tf t N (N - k) k S d = -1 ∧ (S = 2 ∨ S = 3 ∨ S = 4) ∧ ((S = 3 ∨ S = 4) → 1 ≤ H ∧ sgd (r (H - 1))) ∧ (∀ i, i < H → rok (r i)) ∧ (cO r H : Int) = d ∧ H + 2 ≤ k
theorem cO_up {r : Nat → Int} {i : Nat} {x : Int} : ∀ {H : Nat}, H ≤ i → cO (zup r i x) H = cO r H
  | 0, _ => rfl
  | H + 1, h => by
    show cO (zup r i x) H + (if zup r i x H = -2 then 1 else 0) = cO r H + (if r H = -2 then 1 else 0)
    rw [cO_up (by omega), zup_ne (by omega)]
theorem cO_le {r : Nat → Int} : ∀ {b H : Nat}, b ≤ H → cO r b ≤ cO r H
  | b, 0, h => by have : b = 0 := by omega
                  subst this; exact Nat.le_refl _
  | b, H + 1, h => by
    by_cases e : b = H + 1
    · subst e; exact Nat.le_refl _
    · exact Nat.le_trans (cO_le (r := r) (by omega : b ≤ H)) (Nat.le_add_right _ _)
theorem lo_none {r : Nat → Int} : ∀ {H : Nat}, lo r H = none ↔ cO r H = 0
  | 0 => by simp [lo, cO]
  | H + 1 => by
    unfold lo cO
    split
    · simp
    · rw [lo_none]; simp
theorem lo_cO {r : Nat → Int} : ∀ {H b : Nat}, lo r H = some b → cO r H = cO r b + 1
  | 0, _, h => absurd h (by simp [lo])
  | H + 1, b, h => by
    unfold lo at h
    show cO r H + (if r H = -2 then 1 else 0) = _
    split at h
    · next q => simp only [Option.some.injEq] at h; subst h; rw [if_pos q]
    · next q => rw [if_neg q, lo_cO h]
theorem cO_0 {r : Nat → Int} : ∀ {H : Nat}, cO r H = 0 → ∀ i, i < H → r i ≠ -2
  | 0, _, i, hi => absurd hi (by omega)
  | H + 1, h, i, hi => by
    unfold cO at h
    split at h
    · omega
    · next q =>
      by_cases e : i = H
      · rw [e]; exact q
      · exact cO_0 (by omega) i (by omega)
theorem tf_step {t : Nat → Int} {N k : Nat} {S d : Int} (hk : k < N) (h : tf t N (N - k) k S d = -1) : ∃ q, ts S d (t k) = some q ∧ tf t N (N - (k + 1)) (k + 1) q.1 q.2 = -1 := by
  obtain ⟨m, hm⟩ : ∃ m, N - k = m + 1 := ⟨N - k - 1, by omega⟩
  rw [hm] at h
  have h' : (match ts S d (t k) with | none => (k : Int) | some q => tf t N m (k + 1) q.1 q.2) = -1 := h
  cases e : ts S d (t k) with
  | none => rw [e] at h'; dsimp only at h'; omega
  | some q => rw [e] at h'; exact ⟨q, rfl, by rw [show N - (k + 1) = m by omega]; exact h'⟩
theorem vs_0 {t : Nat → Int} {N : Nat} {r : Nat → Int} (h : tf t N N 0 0 0 = -1) : 2 ≤ N ∧ tk (t 0) = 1 ∧ VS t N 2 2 0 r 0 := by
  have h0 : 0 < N := by
    apply Classical.byContradiction; intro q
    have : N = 0 := by omega
    subst this
    exact absurd h (by simp [tf])
  obtain ⟨q, e, h1⟩ := tf_step h0 h
  have t0 : tk (t 0) = 1 := by
    unfold ts at e; rw [if_pos rfl] at e; split at e
    · assumption
    · exact absurd e (by simp)
  have q0 : q = (1, 0) := by
    unfold ts at e; rw [if_pos rfl, if_pos t0] at e; simpa using e.symm
  subst q0
  have h2 : 1 < N := by
    apply Classical.byContradiction; intro q
    have : N = 1 := by omega
    subst this
    exact absurd h1 (by simp [tf])
  obtain ⟨q, e, h3⟩ := tf_step h2 h1
  have t1 : tk (t 1) = 3 := by
    unfold ts at e; rw [if_neg (by decide), if_pos rfl] at e; split at e
    · assumption
    · exact absurd e (by simp)
  have q1 : q = (2, 0) := by
    unfold ts at e; rw [if_neg (by decide), if_pos rfl, if_pos t1] at e; simpa using e.symm
  subst q1
  exact ⟨h2, t0, by omega, h2, h3, Or.inl rfl, fun z => absurd z (by decide), fun i hi => absurd hi (by omega), rfl, by omega⟩
theorem vs_end {t : Nat → Int} {N : Nat} {S d : Int} {r : Nat → Int} {H : Nat} (h : VS t N N S d r H) : S ≠ 4 ∧ ∀ i, i < H → r i = -1 ∨ sgd (r i) := by
  obtain ⟨-, -, h1, h2, -, h3, h4, -⟩ := h
  rw [Nat.sub_self] at h1
  have h1' : (if d = 0 ∧ (S = 2 ∨ S = 3) then (-1 : Int) else (N : Int)) = -1 := h1
  split at h1'
  · next q =>
    refine ⟨by omega, fun i hi => ?_⟩
    have := cO_0 (r := r) (H := H) (by omega) i hi
    rcases h3 i hi with z | z | z
    · exact Or.inl z
    · exact absurd z this
    · exact Or.inr z
  · omega
theorem vs_up {t : Nat → Int} {N k : Nat} {S d S' : Int} {r : Nat → Int} {H : Nat} (h : VS t N k S d r H) (hk : k < N) (h1 : 1 ≤ H) (hs : sgd (r (H - 1))) {h' : Nat} (hh : h' < 16) (e : tf t N (N - (k + 1)) (k + 1) S' d = -1) (hS : S' = 2 ∨ S' = 3) : VS t N (k + 1) S' d (zup r (H - 1) ((16 + h' : Nat) : Int)) H := by
  obtain ⟨a1, a2, a3, a4, a5, a6, a7, a8⟩ := h
  refine ⟨by omega, by omega, e, by omega, fun _ => ⟨h1, ?_⟩, fun i hi => ?_, ?_, by omega⟩
  · rw [zup_eq]; unfold sgd; omega
  · by_cases q : i = H - 1
    · rw [q, zup_eq]; unfold rok sgd; omega
    · rw [zup_ne q]; exact a6 i hi
  · obtain ⟨H', rfl⟩ : ∃ H', H = H' + 1 := ⟨H - 1, by omega⟩
    rw [← a7]
    show ((cO (zup r H' ((16 + h' : Nat) : Int)) H' + (if zup r H' ((16 + h' : Nat) : Int) H' = -2 then 1 else 0) : Nat) : Int) = ((cO r H' + (if r H' = -2 then 1 else 0) : Nat) : Int)
    have hs' : sgd (r H') := hs
    rw [cO_up (Nat.le_refl _), zup_eq, if_neg (by omega), if_neg (by unfold sgd at hs'; omega)]
theorem vs_push {t : Nat → Int} {N k : Nat} {S d S' d' x : Int} {r : Nat → Int} {H : Nat} (h : VS t N k S d r H) (hk : k < N) (e : tf t N (N - (k + 1)) (k + 1) S' d' = -1) (hS : (S' = 3 ∧ sgd x ∧ d' = d) ∨ (S' = 2 ∧ ((x = -1 ∧ d' = d) ∨ (x = -2 ∧ d' = d + 1)))) : VS t N (k + 1) S' d' (zup r H x) (H + 1) := by
  obtain ⟨a1, a2, a3, a4, a5, a6, a7, a8⟩ := h
  refine ⟨by omega, by omega, e, by omega, fun z => ⟨by omega, ?_⟩, fun i hi => ?_, ?_, by omega⟩
  · rw [Nat.add_sub_cancel, zup_eq]; rcases hS with q | q
    · exact q.2.1
    · omega
  · by_cases q : i = H
    · rw [q, zup_eq]; unfold rok; rcases hS with q | ⟨-, q | q⟩
      · exact Or.inr (Or.inr q.2.1)
      · exact Or.inl q.1
      · exact Or.inr (Or.inl q.1)
    · rw [zup_ne q]; exact a6 i (by omega)
  · show ((cO (zup r H x) H + (if zup r H x H = -2 then 1 else 0) : Nat) : Int) = d'
    rw [cO_up (Nat.le_refl _), zup_eq]
    rcases hS with ⟨-, q, q2⟩ | ⟨-, ⟨q, q2⟩ | ⟨q, q2⟩⟩
    · rw [if_neg (by unfold sgd at q; omega)]; omega
    · rw [if_neg (by omega)]; omega
    · rw [if_pos q]; omega
/-- what comes next where the reader waits for no terminal -/
theorem vs_cases {t : Nat → Int} {N k : Nat} {S d : Int} {r : Nat → Int} {H : Nat} (h : VS t N k S d r H) (hS : S ≠ 4) (hk : k < N) :
    (tk (t k) = 0 ∧ VS t N (k + 1) 3 d (zup r H (t k - 97)) (H + 1)) ∨ (tk (t k) = 1 ∧ VS t N (k + 1) 3 d (zup r H (16 + t k - 65)) (H + 1)) ∨ (tk (t k) = 4 ∧ VS t N (k + 1) 2 d (zup r H (-1)) (H + 1)) ∨ (tk (t k) = 5 ∧ VS t N (k + 1) 2 (d + 1) (zup r H (-2)) (H + 1)) ∨
    (tk (t k) = 6 ∧ ∃ b, lo r H = some b ∧ ∀ x : Nat, x < 16 → VS t N (k + 1) 3 (d - 1) (zup r b ((16 + x : Nat) : Int)) (b + 1)) ∨ (tk (t k) = 2 ∧ 1 ≤ H ∧ sgd (r (H - 1)) ∧ ∀ x : Nat, x < 16 → VS t N (k + 1) 2 d (zup r (H - 1) ((16 + x : Nat) : Int)) H) ∨ (tk (t k) = 7 ∧ 1 ≤ H ∧ sgd (r (H - 1)) ∧ k + 1 < N ∧ VS t N (k + 1) 4 d r H) := by
  have hv := h
  obtain ⟨a1, a2, a3, a4, a5, a6, a7, a8⟩ := h
  obtain ⟨q, e, h1⟩ := tf_step hk a3
  have hc := tk_cases (t k)
  have hS23 : S = 2 ∨ S = 3 := by omega
  unfold ts at e
  rw [if_neg (by omega), if_neg (by omega), if_neg hS] at e
  split at e
  · next c =>
    simp only [Option.some.injEq] at e; subst e; dsimp only at h1
    rcases c with c | c
    · exact Or.inl ⟨c, vs_push hv hk h1 (Or.inl ⟨rfl, by unfold sgd; omega, rfl⟩)⟩
    · exact Or.inr (Or.inl ⟨c, vs_push hv hk h1 (Or.inl ⟨rfl, by unfold sgd; omega, rfl⟩)⟩)
  · split at e
    · next c =>
      simp only [Option.some.injEq] at e; subst e; dsimp only at h1
      exact Or.inr (Or.inr (Or.inl ⟨c, vs_push hv hk h1 (Or.inr ⟨rfl, Or.inl ⟨rfl, rfl⟩⟩)⟩))
    · split at e
      · next c =>
        simp only [Option.some.injEq] at e; subst e; dsimp only at h1
        exact Or.inr (Or.inr (Or.inr (Or.inl ⟨c, vs_push hv hk h1 (Or.inr ⟨rfl, Or.inr ⟨rfl, rfl⟩⟩)⟩)))
      · split at e
        · next c =>
          split at e
          · exact absurd e (by simp)
          · next c2 =>
            simp only [Option.some.injEq] at e; subst e; dsimp only at h1
            refine Or.inr (Or.inr (Or.inr (Or.inr (Or.inl ⟨c, ?_⟩))))
            cases hl : lo r H with
            | none => rw [lo_none] at hl; omega
            | some b =>
              obtain ⟨l1, l2, l3⟩ := lo_spec hl
              have l4 := lo_cO hl
              refine ⟨b, rfl, fun x hx => ⟨by omega, by omega, h1, by omega, fun _ => ⟨by omega, ?_⟩, fun i hi => ?_, ?_, by omega⟩⟩
              · rw [Nat.add_sub_cancel, zup_eq]; unfold sgd; omega
              · by_cases z : i = b
                · rw [z, zup_eq]; unfold rok sgd; omega
                · rw [zup_ne z]; exact a6 i (by omega)
              · show ((cO (zup r b ((16 + x : Nat) : Int)) b + (if zup r b ((16 + x : Nat) : Int) b = -2 then 1 else 0) : Nat) : Int) = d - 1
                rw [cO_up (Nat.le_refl _), zup_eq, if_neg (by omega)]; omega
        · split at e
          · next c =>
            simp only [Option.some.injEq] at e; subst e; dsimp only at h1
            have h5 := a5 (Or.inl c.1)
            refine Or.inr (Or.inr (Or.inr (Or.inr (Or.inr (Or.inr ⟨c.2, h5.1, h5.2, ?_, by omega, by omega, h1, by omega, fun _ => h5, a6, a7, by omega⟩)))))
            apply Classical.byContradiction; intro z
            have hN : N = k + 1 := by omega
            rw [hN, Nat.sub_self] at h1
            have h1' : (if d = 0 ∧ ((4 : Int) = 2 ∨ (4 : Int) = 3) then (-1 : Int) else ((k + 1 : Nat) : Int)) = -1 := h1
            rw [if_neg (by omega)] at h1'; omega
          · split at e
            · next c =>
              simp only [Option.some.injEq] at e; subst e; dsimp only at h1
              have h5 := a5 (Or.inl c.1)
              exact Or.inr (Or.inr (Or.inr (Or.inr (Or.inr (Or.inl ⟨c.2, h5.1, h5.2, fun x hx => vs_up hv hk h5.1 h5.2 hx h1 (Or.inl rfl)⟩)))))
            · exact absurd e (by simp)
theorem vs_4 {t : Nat → Int} {N k : Nat} {d : Int} {r : Nat → Int} {H : Nat} (h : VS t N k 4 d r H) (hk : k < N) : tk (t k) = 0 ∧ 1 ≤ H ∧ sgd (r (H - 1)) ∧ ∀ x : Nat, x < 16 → VS t N (k + 1) 2 d (zup r (H - 1) ((16 + x : Nat) : Int)) H := by
  have hv := h
  obtain ⟨a1, a2, a3, a4, a5, a6, a7, a8⟩ := h
  obtain ⟨q, e, h1⟩ := tf_step hk a3
  unfold ts at e
  rw [if_neg (by decide), if_neg (by decide), if_pos rfl] at e
  have h5 := a5 (Or.inr rfl)
  split at e
  · next c =>
    simp only [Option.some.injEq] at e; subst e; dsimp only at h1
    exact ⟨c, h5.1, h5.2, fun x hx => vs_up hv hk h5.1 h5.2 hx h1 (Or.inl rfl)⟩
  · exact absurd e (by simp)
theorem wr_some {ps : List (Nat × List Nat)} {r : Nat → Int} {H : Nat} {sg : Int} {sp : Nat} {q : List (Nat × List Nat) × (Nat → Int)} (h : wr ps r H sg sp = some q) : PX ps q.1 ∧ ∃ x : Nat, x < 16 ∧ q.2 = zup r (H - 1) ((16 + x : Nat) : Int) := by
  unfold wr at h
  cases hf : fH ps with
  | none => rw [hf] at h; exact absurd h (by simp)
  | some x =>
    rw [hf] at h
    dsimp only at h
    split at h
    · simp only [Option.some.injEq] at h; subst h; exact ⟨(PX.rf.ap _).ap _, x, (fH_rg hf).2, rfl⟩
    · exact absurd h (by simp)
theorem aa_px {o : Nat} {r : Nat → Int} : ∀ (m : Nat) (ps : List (Nat × List Nat)) (a k : Nat) {q : List (Nat × List Nat)}, aa o r m ps a k = some q → PX ps q
  | 0, ps, a, k, q, h => by
    have h' : (if ps.length < 24 ∧ k - a ≤ 5 then some (ps ++ [(o, ch r a k)]) else none) = some q := h
    split at h'
    · simp only [Option.some.injEq] at h'; subst h'; exact PX.rf.ap _
    · exact absurd h' (by simp)
  | m + 1, ps, a, k, q, h => by
    have h' : (if r k = -1 then (match ad ps o r a k with | none => none | some ps' => aa o r m ps' (k + 1) (k + 1)) else aa o r m ps a (k + 1)) = some q := h
    split at h'
    · cases e : ad ps o r a k with
      | none => rw [e] at h'; exact absurd h' (by simp)
      | some ps' =>
        rw [e] at h'
        have h1 := aa_px m ps' (k + 1) (k + 1) h'
        unfold ad at e
        split at e
        · simp only [Option.some.injEq] at e; subst e; exact (PX.rf.ap _).tr h1
        · exact absurd e (by simp)
    · exact aa_px m ps a (k + 1) h'
theorem cls_some {ps : List (Nat × List Nat)} {r : Nat → Int} {H b : Nat} (hl : lo r H = some b) {q : List (Nat × List Nat) × (Nat → Int) × Nat} (h : cls ps r H = some q) : PX ps q.1 ∧ ∃ x : Nat, x < 16 ∧ q.2.1 = zup r b ((16 + x : Nat) : Int) ∧ q.2.2 = b + 1 := by
  unfold cls at h
  rw [hl] at h
  dsimp only at h
  cases hf : fH ps with
  | none => rw [hf] at h; exact absurd h (by simp)
  | some x =>
    rw [hf] at h
    dsimp only at h
    cases ha : aa x r (H - (b + 1)) ps (b + 1) (b + 1) with
    | none => rw [ha] at h; exact absurd h (by simp)
    | some ps' => rw [ha] at h; simp only [Option.some.injEq] at h; subst h; exact ⟨aa_px _ _ _ _ ha, x, (fH_rg hf).2, rfl, rfl⟩
section GD
variable {u : Nat} {n : Nat} {L : Nat → Nat → Int}
theorem X7_read (hn : 1000000000000000000000000000000 ≤ n) {v : Nat} (hv : v ∈ [3, 87]) {J0 : Nat → Nat → Int} {ps0 : List (Nat × List Nat)} (h : CP v J0 ps0) {x : Nat} (hx : x ∈ gTX) (hxd : x ∉ [v, v + 1, v + 2, v + 3, v + 8, v + 9] ∧ x + 1 ∉ [v, v + 1, v + 2, v + 3, v + 8, v + 9]) (hT : TK x J0) {N : Nat} (hN : J0 x 1 = (N : Int)) (hf : tf (J0 (x + 1)) N N 0 0 0 = -1) (r0 : Nat → Int) :
    (∃ ps' J', rdr (J0 (x + 1)) N ps0 r0 = some ps' ∧ f_X7_read n (v + 8) x v (hp u J0 L) = some (1, hp u J' L) ∧ FD v J0 J' ∧ CP v J' ps') ∨
    (rdr (J0 (x + 1)) N ps0 r0 = none ∧ ∃ J' psx, f_X7_read n (v + 8) x v (hp u J0 L) = some (0, hp u J' L) ∧ FD v J0 J' ∧ PX ps0 psx ∧ CP v J' psx) := by
  have hr := r8 hv
  obtain ⟨hN2, ht0, hV0⟩ := vs_0 (r := r0) hf
  have hN24 : N ≤ 24 := by have := hT.1; omega
  have hfin : ∀ R, (∃ q, rdm (J0 (x + 1)) (N - 2) 2 false ps0 r0 0 = some q ∧ aa (J0 (x + 1) 0 - 65).toNat q.2.1 q.2.2 q.1 0 0 = R) ∨ (rdm (J0 (x + 1)) (N - 2) 2 false ps0 r0 0 = none ∧ R = none) → rdr (J0 (x + 1)) N ps0 r0 = R := by
    rintro R (⟨q, q1, q2⟩ | ⟨q1, q2⟩) <;> unfold rdr <;> rw [q1]
    · exact q2
    · exact q2.symm
  suffices key : zLP N (fun f k (s : Int × Int × (Nat → Nat → Int)) => l_X7_read_13 n f (v + 8) x v s.1 s.2.1 (k : Int) (hp u s.2.2 L))
      (fun k s => FD v J0 s.2.2 ∧ 2 ≤ k ∧ ((s.2.1 = 1 ∧ ∃ ps r H S d, VS (J0 (x + 1)) N k S d r H ∧ ((s.1 = 1 ∧ S = 4) ∨ (s.1 = 0 ∧ S ≠ 4)) ∧ PX ps0 ps ∧ CP v s.2.2 ps ∧ CR v s.2.2 r H ∧ rdm (J0 (x + 1)) (N - 2) 2 false ps0 r0 0 = rdm (J0 (x + 1)) (N - k) k (decide (S = 4)) ps r H) ∨ (s.2.1 = 0 ∧ rdm (J0 (x + 1)) (N - 2) 2 false ps0 r0 0 = none ∧ ∃ psx, PX ps0 psx ∧ CP v s.2.2 psx)))
      (fun res => (∃ ps' J', rdr (J0 (x + 1)) N ps0 r0 = some ps' ∧ res = some (1, hp u J' L) ∧ FD v J0 J' ∧ CP v J' ps') ∨ (rdr (J0 (x + 1)) N ps0 r0 = none ∧ ∃ J' psx, res = some (0, hp u J' L) ∧ FD v J0 J' ∧ PX ps0 psx ∧ CP v J' psx)) by
    have e := key (N - 2) n 2 (0, 1, gx_u J0 (v + 8) 1 0) (by omega) (by omega) ⟨FD.ht _, by omega, Or.inl ⟨rfl, ps0, r0, 0, 2, 0, hV0, Or.inr ⟨rfl, by decide⟩, PX.rf, h.ht _, ⟨gu_same _ _ _ _, by omega, fun i hi => absurd hi (by omega)⟩, rfl⟩⟩
    have e2 : f_X7_read n (v + 8) x v (hp u J0 L) = l_X7_read_13 n n (v + 8) x v 0 1 2 (hp u (gx_u J0 (v + 8) 1 0) L) := by
      simp only [f_X7_read, hi_R hr, hG_R_0 hr, hg_R_1 hr, hq_R_1 hr, ha_R_1 hr, hs_R_1 hr, hl_R_1 hr, Option.bind_some, nm_eq, sm_inl, sm_inr, zo_0, zo_1]
    rw [e2]; exact e
  have hJx : ∀ J, FD v J0 J → J x = J0 x ∧ J (x + 1) = J0 (x + 1) := fun J hF => ⟨hF.1 x hxd.1, hF.1 _ hxd.2⟩
  have hTJ : ∀ J, FD v J0 J → TK x J := fun J hF => by
    obtain ⟨q1, q2⟩ := hJx J hF
    unfold TK; rw [q1, q2]; exact hT
  -- behind a letter
  have b173 : ∀ (r13 : Nat → Nat → Nat → Int → Int → Int → gi_H → Option (Int × gi_H)) (v4 : Int) (k : Nat) (y : Int) (J : Nat → Nat → Int), 0 ≤ y ∧ y ≤ 65535 → b_X7_read_173 n r13 (v + 8) x v v4 (k : Int) y (hp u J L) = r13 (v + 8) x v (if y = 37 then 1 else 0) v4 ((k + 1 : Nat) : Int) (hp u J L) := by
    intro r13 v4 k y J hy
    have ek : (k : Int) + 1 = ((k + 1 : Nat) : Int) := by omega
    by_cases q : y = 37
    · rw [if_pos q]; simp (disch := omega) only [b_X7_read_173, b_X7_read_185, Option.bind_some, nm_eq, sm_inl, sm_inr, zo_0, zo_1, rg_ok, if_pos, if_neg, if_true, if_false, Int.toNat_natCast, ek]
    · rw [if_neg q]; simp (disch := omega) only [b_X7_read_173, b_X7_read_185, Option.bind_some, nm_eq, sm_inl, sm_inr, zo_0, zo_1, rg_ok, if_pos, if_neg, if_true, if_false, Int.toNat_natCast, ek]
  refine zlp ?_ ?_
  · rintro f k ⟨v3, v4, J⟩ hk ⟨hF, hk2, hc⟩
    dsimp only at hF hc ⊢
    obtain ⟨hJ1, hJ2⟩ := hJx J hF
    have hTK := hTJ J hF
    have el := X8_letter (u := u) (L := L) hx hTK (k := k) (by rw [hJ1, hN]; omega)
    have en := X8_length (u := u) (I := J) (L := L) hx
    rw [hJ2] at el
    rw [hJ1, hN] at en
    have hyr := tk_rg (hT.2 k (by rw [hN]; omega))
    have hyc := tk_cases (J0 (x + 1) k)
    rcases hc with ⟨c1, ps, r, H, S, d, c2, c3, c4, c5, c6, c7⟩ | ⟨c1, c2, psx, c3, c4⟩
    · right
      obtain ⟨m, hm⟩ : ∃ m, N - k = m + 1 := ⟨N - k - 1, by omega⟩
      have hm' : N - (k + 1) = m := by omega
      have hH8 := c2.2.2.2.2.2.2.2
      rw [hm] at c7
      rcases c3 with ⟨c3, hS⟩ | ⟨c3, hS⟩
      · -- a separator
        subst hS
        obtain ⟨t0, w1, w2, w3⟩ := vs_4 c2 hk
        have c7' : rdm (J0 (x + 1)) (N - 2) 2 false ps0 r0 0 = (match wr ps r H 37 (J0 (x + 1) k - 97).toNat with | none => none | some q => rdm (J0 (x + 1)) m (k + 1) false q.1 q.2 H) := c7
        rcases X7_wrap (u := u) (L := L) hn hv c5 c6 w1 w2 (sg := 37) (sep := J0 (x + 1) k - 97) (by omega) (fun _ => by omega) (sp := (J0 (x + 1) k - 97).toNat) (fun _ => rfl) with ⟨q, J', z1, z2, z3, z4, z5⟩ | ⟨z1, J', psx, z2, z3, z4, z5⟩
        · obtain ⟨hpx, y, hy1, hy2⟩ := wr_some z1
          refine ⟨(0, 1, J'), ?_, hF.tr z3, by omega, Or.inl ⟨rfl, q.1, q.2, H, 2, d, by rw [hy2]; exact w3 y hy1, Or.inr ⟨rfl, by decide⟩, ?_, z4, z5, ?_⟩⟩
          · have e9 := b173 (l_X7_read_13 n f) 1 k (J0 (x + 1) k) J' (by omega)
            rw [if_neg (by omega)] at e9
            simp (disch := omega) only [l_X7_read_13, b_X7_read_13, ↓dhi_T hx, ↓dhi_R hr, ↓dhG_R_0 hr, ↓dhg_R_1 hr, ↓dhq_R_1 hr, ↓dha_R_1 hr, ↓dhs_R_1 hr, ↓dhl_R_1 hr, Option.bind_some, ↓nm_eq, ↓sm_inl, ↓sm_inr, ↓dzo_0, ↓dzo_1, ↓drg_ok, ↓if_pos, ↓if_neg, if_pos, if_neg, if_true, if_false, Int.toNat_natCast, rg_ok, ↓bnd en, ↓bnd el, ↓bnd z2, c1, c3, e9]
          · exact c4.tr hpx
          · rw [c7', z1, hm']; rfl
        · refine ⟨(0, 0, J'), ?_, hF.tr z3, by omega, Or.inr ⟨rfl, by rw [c7', z1], psx, c4.tr z4, z5⟩⟩
          have e9 := b173 (l_X7_read_13 n f) 0 k (J0 (x + 1) k) J' (by omega)
          rw [if_neg (by omega)] at e9
          simp (disch := omega) only [l_X7_read_13, b_X7_read_13, ↓dhi_T hx, ↓dhi_R hr, ↓dhG_R_0 hr, ↓dhg_R_1 hr, ↓dhq_R_1 hr, ↓dha_R_1 hr, ↓dhs_R_1 hr, ↓dhl_R_1 hr, Option.bind_some, ↓nm_eq, ↓sm_inl, ↓sm_inr, ↓dzo_0, ↓dzo_1, ↓drg_ok, ↓if_pos, ↓if_neg, if_pos, if_neg, if_true, if_false, Int.toNat_natCast, rg_ok, ↓bnd en, ↓bnd el, ↓bnd z2, c1, c3, e9]
      · have hd : decide (S = 4) = false := decide_eq_false hS
        rw [hd] at c7
        have c7' : rdm (J0 (x + 1)) (N - 2) 2 false ps0 r0 0 =
            (if tk (J0 (x + 1) k) = 0 then rdm (J0 (x + 1)) m (k + 1) false ps (zup r H (J0 (x + 1) k - 97)) (H + 1)
            else if tk (J0 (x + 1) k) = 1 then rdm (J0 (x + 1)) m (k + 1) false ps (zup r H (16 + J0 (x + 1) k - 65)) (H + 1)
            else if tk (J0 (x + 1) k) = 4 then rdm (J0 (x + 1)) m (k + 1) false ps (zup r H (-1)) (H + 1)
            else if tk (J0 (x + 1) k) = 5 then rdm (J0 (x + 1)) m (k + 1) false ps (zup r H (-2)) (H + 1)
            else if tk (J0 (x + 1) k) = 6 then (match cls ps r H with | none => none | some q => rdm (J0 (x + 1)) m (k + 1) false q.1 q.2.1 q.2.2)
            else if tk (J0 (x + 1) k) = 2 then (match wr ps r H (J0 (x + 1) k) 0 with | none => none | some q => rdm (J0 (x + 1)) m (k + 1) false q.1 q.2 H)
            else rdm (J0 (x + 1)) m (k + 1) true ps r H) := c7
        have ps1 := fun (y : Int) => X7_push (u := u) (L := L) hv c6 (by omega) y
        rcases vs_cases c2 hS hk with ⟨t0, w1⟩ | ⟨t0, w1⟩ | ⟨t0, w1⟩ | ⟨t0, w1⟩ | ⟨t0, b, w1, w2⟩ | ⟨t0, w1, w2, w3⟩ | ⟨t0, w1, w2, w3, w4⟩
        · rw [if_pos t0] at c7'
          obtain ⟨J', z1, z2, z3⟩ := ps1 (J0 (x + 1) k - 97)
          refine ⟨(0, 1, J'), ?_, hF.tr (FD.of z2), by omega, Or.inl ⟨rfl, ps, _, _, 3, d, w1, Or.inr ⟨rfl, by decide⟩, c4, c5.f89 z2, z3, by rw [c7', hm']; rfl⟩⟩
          have e9 := b173 (l_X7_read_13 n f) 1 k (J0 (x + 1) k) J' (by omega)
          rw [if_neg (by omega)] at e9
          simp (disch := omega) only [l_X7_read_13, b_X7_read_13, ↓dhi_T hx, f_X11_isTerminalLetter, ↓dhi_R hr, ↓dhG_R_0 hr, ↓dhg_R_1 hr, ↓dhq_R_1 hr, ↓dha_R_1 hr, ↓dhs_R_1 hr, ↓dhl_R_1 hr, Option.bind_some, ↓nm_eq, ↓sm_inl, ↓sm_inr, ↓dzo_0, ↓dzo_1, ↓drg_ok, ↓if_pos, ↓if_neg, if_pos, if_neg, if_true, if_false, Int.toNat_natCast, rg_ok, ↓bnd en, ↓bnd el, ↓bnd z1, c1, c3, e9]
        · rw [if_neg (by omega), if_pos t0] at c7'
          obtain ⟨J', z1, z2, z3⟩ := ps1 (16 + J0 (x + 1) k - 65)
          refine ⟨(0, 1, J'), ?_, hF.tr (FD.of z2), by omega, Or.inl ⟨rfl, ps, _, _, 3, d, w1, Or.inr ⟨rfl, by decide⟩, c4, c5.f89 z2, z3, by rw [c7', hm']; rfl⟩⟩
          have e9 := b173 (l_X7_read_13 n f) 1 k (J0 (x + 1) k) J' (by omega)
          rw [if_neg (by omega)] at e9
          simp (disch := omega) only [l_X7_read_13, b_X7_read_13, ↓dhi_T hx, f_X11_isTerminalLetter, b_X11_isTerminalLetter_16, f_X11_isNonterminalLetter, ↓dhi_R hr, ↓dhG_R_0 hr, ↓dhg_R_1 hr, ↓dhq_R_1 hr, ↓dha_R_1 hr, ↓dhs_R_1 hr, ↓dhl_R_1 hr, Option.bind_some, ↓nm_eq, ↓sm_inl, ↓sm_inr, ↓dzo_0, ↓dzo_1, ↓drg_ok, ↓if_pos, ↓if_neg, if_pos, if_neg, if_true, if_false, Int.toNat_natCast, rg_ok, ↓bnd en, ↓bnd el, ↓bnd z1, c1, c3, e9]
        · rw [if_neg (by omega), if_neg (by omega), if_pos t0] at c7'
          obtain ⟨J', z1, z2, z3⟩ := ps1 (-1)
          refine ⟨(0, 1, J'), ?_, hF.tr (FD.of z2), by omega, Or.inl ⟨rfl, ps, _, _, 2, d, w1, Or.inr ⟨rfl, by decide⟩, c4, c5.f89 z2, z3, by rw [c7', hm']; rfl⟩⟩
          have e9 := b173 (l_X7_read_13 n f) 1 k (J0 (x + 1) k) J' (by omega)
          rw [if_neg (by omega)] at e9
          simp (disch := omega) only [l_X7_read_13, b_X7_read_13, ↓dhi_T hx, f_X11_isTerminalLetter, b_X11_isTerminalLetter_16, f_X11_isNonterminalLetter, b_X11_isNonterminalLetter_16, ↓dhi_R hr, ↓dhG_R_0 hr, ↓dhg_R_1 hr, ↓dhq_R_1 hr, ↓dha_R_1 hr, ↓dhs_R_1 hr, ↓dhl_R_1 hr, Option.bind_some, ↓nm_eq, ↓sm_inl, ↓sm_inr, ↓dzo_0, ↓dzo_1, ↓drg_ok, ↓if_pos, ↓if_neg, if_pos, if_neg, if_true, if_false, Int.toNat_natCast, rg_ok, ↓bnd en, ↓bnd el, ↓bnd z1, c1, c3, e9]
        · rw [if_neg (by omega), if_neg (by omega), if_neg (by omega), if_pos t0] at c7'
          obtain ⟨J', z1, z2, z3⟩ := ps1 (-2)
          refine ⟨(0, 1, J'), ?_, hF.tr (FD.of z2), by omega, Or.inl ⟨rfl, ps, _, _, 2, d + 1, w1, Or.inr ⟨rfl, by decide⟩, c4, c5.f89 z2, z3, by rw [c7', hm']; rfl⟩⟩
          have e9 := b173 (l_X7_read_13 n f) 1 k (J0 (x + 1) k) J' (by omega)
          rw [if_neg (by omega)] at e9
          simp (disch := omega) only [l_X7_read_13, b_X7_read_13, ↓dhi_T hx, f_X11_isTerminalLetter, b_X11_isTerminalLetter_16, f_X11_isNonterminalLetter, b_X11_isNonterminalLetter_16, ↓dhi_R hr, ↓dhG_R_0 hr, ↓dhg_R_1 hr, ↓dhq_R_1 hr, ↓dha_R_1 hr, ↓dhs_R_1 hr, ↓dhl_R_1 hr, Option.bind_some, ↓nm_eq, ↓sm_inl, ↓sm_inr, ↓dzo_0, ↓dzo_1, ↓drg_ok, ↓if_pos, ↓if_neg, if_pos, if_neg, if_true, if_false, Int.toNat_natCast, rg_ok, ↓bnd en, ↓bnd el, ↓bnd z1, c1, c3, e9]
        · rw [if_neg (by omega), if_neg (by omega), if_neg (by omega), if_neg (by omega), if_pos t0] at c7'
          rcases X7_closeBracket (u := u) (L := L) hn hv c5 c6 c2.2.2.2.2.2.1 with ⟨q, J', z1, z2, z3, z4, z5⟩ | ⟨z1, J', psx, z2, z3, z4, z5⟩
          · obtain ⟨hpx, y, hy1, hy2, hy3⟩ := cls_some w1 z1
            refine ⟨(0, 1, J'), ?_, hF.tr z3, by omega, Or.inl ⟨rfl, q.1, q.2.1, q.2.2, 3, d - 1, by rw [hy2, hy3]; exact w2 y hy1, Or.inr ⟨rfl, by decide⟩, c4.tr hpx, z4, z5, by rw [c7', z1, hm']; rfl⟩⟩
            have e9 := b173 (l_X7_read_13 n f) 1 k (J0 (x + 1) k) J' (by omega)
            rw [if_neg (by omega)] at e9
            simp (disch := omega) only [l_X7_read_13, b_X7_read_13, ↓dhi_T hx, f_X11_isTerminalLetter, b_X11_isTerminalLetter_16, f_X11_isNonterminalLetter, b_X11_isNonterminalLetter_16, ↓dhi_R hr, ↓dhG_R_0 hr, ↓dhg_R_1 hr, ↓dhq_R_1 hr, ↓dha_R_1 hr, ↓dhs_R_1 hr, ↓dhl_R_1 hr, Option.bind_some, ↓nm_eq, ↓sm_inl, ↓sm_inr, ↓dzo_0, ↓dzo_1, ↓drg_ok, ↓if_pos, ↓if_neg, if_pos, if_neg, if_true, if_false, Int.toNat_natCast, rg_ok, ↓bnd en, ↓bnd el, ↓bnd z2, c1, c3, e9]
          · refine ⟨(0, 0, J'), ?_, hF.tr z3, by omega, Or.inr ⟨rfl, by rw [c7', z1], psx, c4.tr z4, z5⟩⟩
            have e9 := b173 (l_X7_read_13 n f) 0 k (J0 (x + 1) k) J' (by omega)
            rw [if_neg (by omega)] at e9
            simp (disch := omega) only [l_X7_read_13, b_X7_read_13, ↓dhi_T hx, f_X11_isTerminalLetter, b_X11_isTerminalLetter_16, f_X11_isNonterminalLetter, b_X11_isNonterminalLetter_16, ↓dhi_R hr, ↓dhG_R_0 hr, ↓dhg_R_1 hr, ↓dhq_R_1 hr, ↓dha_R_1 hr, ↓dhs_R_1 hr, ↓dhl_R_1 hr, Option.bind_some, ↓nm_eq, ↓sm_inl, ↓sm_inr, ↓dzo_0, ↓dzo_1, ↓drg_ok, ↓if_pos, ↓if_neg, if_pos, if_neg, if_true, if_false, Int.toNat_natCast, rg_ok, ↓bnd en, ↓bnd el, ↓bnd z2, c1, c3, e9]
        · rw [if_neg (by omega), if_neg (by omega), if_neg (by omega), if_neg (by omega), if_neg (by omega), if_pos t0] at c7'
          have hrep : f_X11_isRepeat (J0 (x + 1) k) (hp u J L) = some 1 := by
            have : J0 (x + 1) k = 63 ∨ J0 (x + 1) k = 42 ∨ J0 (x + 1) k = 43 := by omega
            rcases this with z | z | z <;> rw [z] <;> rfl
          rcases X7_wrap (u := u) (L := L) hn hv c5 c6 w1 w2 (sg := J0 (x + 1) k) (sep := -1) (by omega) (fun z => by omega) (sp := 0) (fun z => by omega) with ⟨q, J', z1, z2, z3, z4, z5⟩ | ⟨z1, J', psx, z2, z3, z4, z5⟩
          · obtain ⟨hpx, y, hy1, hy2⟩ := wr_some z1
            refine ⟨(0, 1, J'), ?_, hF.tr z3, by omega, Or.inl ⟨rfl, q.1, q.2, H, 2, d, by rw [hy2]; exact w3 y hy1, Or.inr ⟨rfl, by decide⟩, c4.tr hpx, z4, z5, by rw [c7', z1, hm']; rfl⟩⟩
            have e9 := b173 (l_X7_read_13 n f) 1 k (J0 (x + 1) k) J' (by omega)
            rw [if_neg (by omega)] at e9
            simp (disch := omega) only [l_X7_read_13, b_X7_read_13, ↓dhi_T hx, f_X11_isTerminalLetter, b_X11_isTerminalLetter_16, f_X11_isNonterminalLetter, b_X11_isNonterminalLetter_16, ↓dhi_R hr, ↓dhG_R_0 hr, ↓dhg_R_1 hr, ↓dhq_R_1 hr, ↓dha_R_1 hr, ↓dhs_R_1 hr, ↓dhl_R_1 hr, Option.bind_some, ↓nm_eq, ↓sm_inl, ↓sm_inr, ↓dzo_0, ↓dzo_1, ↓drg_ok, ↓if_pos, ↓if_neg, if_pos, if_neg, if_true, if_false, Int.toNat_natCast, rg_ok, ↓bnd en, ↓bnd el, ↓bnd hrep, ↓bnd z2, c1, c3, e9]
          · refine ⟨(0, 0, J'), ?_, hF.tr z3, by omega, Or.inr ⟨rfl, by rw [c7', z1], psx, c4.tr z4, z5⟩⟩
            have e9 := b173 (l_X7_read_13 n f) 0 k (J0 (x + 1) k) J' (by omega)
            rw [if_neg (by omega)] at e9
            simp (disch := omega) only [l_X7_read_13, b_X7_read_13, ↓dhi_T hx, f_X11_isTerminalLetter, b_X11_isTerminalLetter_16, f_X11_isNonterminalLetter, b_X11_isNonterminalLetter_16, ↓dhi_R hr, ↓dhG_R_0 hr, ↓dhg_R_1 hr, ↓dhq_R_1 hr, ↓dha_R_1 hr, ↓dhs_R_1 hr, ↓dhl_R_1 hr, Option.bind_some, ↓nm_eq, ↓sm_inl, ↓sm_inr, ↓dzo_0, ↓dzo_1, ↓drg_ok, ↓if_pos, ↓if_neg, if_pos, if_neg, if_true, if_false, Int.toNat_natCast, rg_ok, ↓bnd en, ↓bnd el, ↓bnd hrep, ↓bnd z2, c1, c3, e9]
        · rw [if_neg (by omega), if_neg (by omega), if_neg (by omega), if_neg (by omega), if_neg (by omega), if_neg (by omega)] at c7'
          have hrep : f_X11_isRepeat (J0 (x + 1) k) (hp u J L) = some 0 := by
            have : J0 (x + 1) k = 37 := by omega
            rw [this]; rfl
          refine ⟨(1, 1, J), ?_, hF, by omega, Or.inl ⟨rfl, ps, r, H, 4, d, w4, Or.inl ⟨rfl, rfl⟩, c4, c5, c6, by rw [c7', hm']; rfl⟩⟩
          have e9 := b173 (l_X7_read_13 n f) 1 k (J0 (x + 1) k) J (by omega)
          rw [if_pos (by omega)] at e9
          simp (disch := omega) only [l_X7_read_13, b_X7_read_13, ↓dhi_T hx, f_X11_isTerminalLetter, b_X11_isTerminalLetter_16, f_X11_isNonterminalLetter, b_X11_isNonterminalLetter_16, ↓dhi_R hr, ↓dhG_R_0 hr, ↓dhg_R_1 hr, ↓dhq_R_1 hr, ↓dha_R_1 hr, ↓dhs_R_1 hr, ↓dhl_R_1 hr, Option.bind_some, ↓nm_eq, ↓sm_inl, ↓sm_inr, ↓dzo_0, ↓dzo_1, ↓drg_ok, ↓if_pos, ↓if_neg, if_pos, if_neg, if_true, if_false, Int.toNat_natCast, rg_ok, ↓bnd en, ↓bnd el, ↓bnd hrep, c1, c3, e9]
    · left
      refine Or.inr ⟨hfin none (Or.inr ⟨c2, rfl⟩), J, psx, ?_, hF, c3, c4⟩
      simp (disch := omega) only [l_X7_read_13, b_X7_read_13, b_X7_read_192, b_X7_read_218, ↓dhi_T hx, Option.bind_some, ↓nm_eq, ↓sm_inl, ↓sm_inr, ↓dzo_0, ↓dzo_1, ↓drg_ok, ↓if_pos, ↓if_neg, if_pos, if_neg, if_true, if_false, Int.toNat_natCast, rg_ok, ↓bnd en]
  · rintro f ⟨v3, v4, J⟩ ⟨hF, hk2, hc⟩
    dsimp only at hF hc ⊢
    obtain ⟨hJ1, hJ2⟩ := hJx J hF
    have hTK := hTJ J hF
    have el := X8_letter (u := u) (L := L) hx hTK (k := 0) (by rw [hJ1, hN]; omega)
    have en := X8_length (u := u) (I := J) (L := L) hx
    rw [hJ2] at el
    rw [hJ1, hN] at en
    have el' : f_X8_letter x 0 (hp u J L) = some (J0 (x + 1) 0) := el
    have hyc := tk_cases (J0 (x + 1) 0)
    rcases hc with ⟨c1, ps, r, H, S, d, c2, c3, c4, c5, c6, c7⟩ | ⟨c1, c2, psx, c3, c4⟩
    · rw [Nat.sub_self] at c7
      obtain ⟨hS, hrr⟩ := vs_end c2
      have e0 : (((J0 (x + 1) 0 - 65).toNat : Nat) : Int) = J0 (x + 1) 0 - 65 := by omega
      have hfin' := hfin (aa (J0 (x + 1) 0 - 65).toNat r H ps 0 0) (Or.inl ⟨(ps, r, H), c7, rfl⟩)
      rcases X7_release (u := u) (L := L) hn hv c5 c6 (a := 0) (o := (J0 (x + 1) 0 - 65).toNat) (by omega) (fun i _ hi => hrr i hi) (by omega) with ⟨ps', J1, a1, a2, a3, a4⟩ | ⟨a1, J1, psx, a2, a3, a4, a5⟩
      · rw [e0] at a2
        have a2' : f_X7_release n (v + 8) v (J0 (x + 1) 0 - 65) 0 (hp u J L) = some (1, hp u J1 L) := a2
        refine Or.inl ⟨ps', J1, hfin'.trans a1, ?_, hF.tr a3.fd, a4⟩
        simp (disch := omega) only [l_X7_read_13, b_X7_read_13, b_X7_read_192, ↓dhi_T hx, ↓dhi_R hr, ↓dhG_R_0 hr, ↓dhg_R_1 hr, ↓dhq_R_1 hr, ↓dha_R_1 hr, ↓dhs_R_1 hr, ↓dhl_R_1 hr, Option.bind_some, ↓nm_eq, ↓sm_inl, ↓sm_inr, ↓dzo_0, ↓dzo_1, ↓drg_ok, ↓if_pos, ↓if_neg, if_pos, if_neg, if_true, if_false, Int.toNat_natCast, rg_ok, ↓bnd en, ↓bnd el', ↓bnd a2', c1]
      · rw [e0] at a2
        have a2' : f_X7_release n (v + 8) v (J0 (x + 1) 0 - 65) 0 (hp u J L) = some (0, hp u J1 L) := a2
        refine Or.inr ⟨hfin'.trans a1, J1, psx, ?_, hF.tr a3.fd, c4.tr a4, a5⟩
        simp (disch := omega) only [l_X7_read_13, b_X7_read_13, b_X7_read_192, b_X7_read_218, ↓dhi_T hx, ↓dhi_R hr, ↓dhG_R_0 hr, ↓dhg_R_1 hr, ↓dhq_R_1 hr, ↓dha_R_1 hr, ↓dhs_R_1 hr, ↓dhl_R_1 hr, Option.bind_some, ↓nm_eq, ↓sm_inl, ↓sm_inr, ↓dzo_0, ↓dzo_1, ↓drg_ok, ↓if_pos, ↓if_neg, if_pos, if_neg, if_true, if_false, Int.toNat_natCast, rg_ok, ↓bnd en, ↓bnd el', ↓bnd a2', c1]
    · refine Or.inr ⟨hfin none (Or.inr ⟨c2, rfl⟩), J, psx, ?_, hF, c3, c4⟩
      simp (disch := omega) only [l_X7_read_13, b_X7_read_13, b_X7_read_192, b_X7_read_218, ↓dhi_T hx, Option.bind_some, ↓nm_eq, ↓sm_inl, ↓sm_inr, ↓dzo_0, ↓dzo_1, ↓drg_ok, ↓if_pos, ↓if_neg, if_pos, if_neg, if_true, if_false, Int.toNat_natCast, rg_ok, ↓bnd en]
end GD
