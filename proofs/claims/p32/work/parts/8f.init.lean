/-! ===== what the constructors leave ===== -/
def Qh (h : gi_H) : Prop := ∀ a, (gi_S h a).1 = 1 → (gi_S h a).2 ≠ 13 → ∀ k, gi_I h a k = 0
def Qo (o : Option gi_H) : Prop := ∀ h', o = some h' → Qh h'
section QIN
variable {h : gi_H} {f : gi_H → Option gi_H}
theorem q_some (hq : Qh h) : Qo (some h) := fun h' e => by cases e; exact hq
theorem q_nm {α : Type} {a : α} {f : α → Option gi_H} (k : Qo (f a)) : Qo (gx_nm a f) := k
theorem q_any {α : Type} {o : Option α} {f : α → Option gi_H} (k : ∀ x, Qo (f x)) : Qo (Option.bind o f) := by
  intro h' e
  cases o with
  | none => exact absurd e (by simp)
  | some x => exact k x h' e
theorem q_mk {f : Unit → Option gi_H} (k : Qo (f ())) : Qo (Option.bind (gi_mk h) f) := q_any (fun _ => k)
theorem q_f {o : Option gi_H} (ho : Qo o) (k : ∀ h', Qh h' → Qo (f h')) : Qo (Option.bind o f) := by
  intro h' e
  cases o with
  | none => exact absurd e (by simp)
  | some x => exact k x (ho x rfl) h' e
theorem q_ite {p : Prop} [Decidable p] {a b : Option gi_H} (ha : Qo a) (hb : Qo b) : Qo (if p then a else b) := by
  split
  · exact ha
  · exact hb
theorem q_nw {sh : Nat × Nat} (hq : Qh h) (k : ∀ h', Qh h' → gi_S h' (gi_sz h) = sh → Qo (f h')) : Qo (gx_nm (gi_nw h sh) f) := by
  refine k (gi_nw h sh) (fun a h1 h2 j => ?_) ?_
  · show (if a = h.1 then fun _ => 0 else h.2.2.1 a) j = (0 : Int)
    have e : gi_S (gi_nw h sh) a = if a = h.1 then sh else h.2.1 a := rfl
    by_cases c : a = h.1
    · rw [if_pos c]
    · rw [if_neg c]
      rw [e, if_neg c] at h1 h2
      exact hq a h1 h2 j
  · show (if gi_sz h = h.1 then sh else h.2.1 (gi_sz h)) = sh
    exact if_pos rfl
theorem q_wR (hq : Qh h) (b j : Nat) (t : Option Nat) : Qh (gi_wR h b j t) := hq
theorem q_wI {b j : Nat} {x : Int} (hq : Qh h) (hb : (gi_S h b).1 ≠ 1 ∨ (gi_S h b).2 = 13) : Qh (gi_wI h b j x) := by
  intro a h1 h2 i
  have h1' : (gi_S h a).1 = 1 := h1
  have h2' : (gi_S h a).2 ≠ 13 := h2
  have c : a ≠ b := fun z => by subst z; rcases hb with q | q; exact q h1'; exact h2' q
  have e : gi_I (gi_wI h b j x) a i = gx_u (gi_I h) b j x a i := rfl
  rw [e, gu_ne c]
  exact hq a h1' h2' i
theorem q_pR {b ci j t : Nat} (hq : Qh h) (k : ∀ h', Qh h' → Qo (f h')) : Qo (Option.bind (gi_pR h b ci j t) f) := by
  refine q_f (fun h' e => ?_) k
  unfold gi_pR at e
  split at e
  · cases e; exact q_wR hq _ _ _
  · exact absurd e (by simp)
theorem q_pZ {b ci j : Nat} {x : Int} (hq : Qh h) (k : ∀ h', Qh h' → Qo (f h')) : Qo (Option.bind (gi_pZ h b ci j x) f) := by
  refine q_f (fun h' e => ?_) k
  unfold gi_pZ at e
  split at e
  · next c => cases e; exact q_wI hq (Or.inl (by rw [c.1.2]; exact Nat.zero_ne_one))
  · exact absurd e (by simp)
theorem q_s5 {a t : Nat} {i : Int} (hq : Qh h) (k : ∀ h', Qh h' → Qo (f h')) : Qo (Option.bind (gi_s5 h a i t) f) := by
  refine q_f (fun h' e => ?_) k
  unfold gi_s5 at e
  split at e
  · cases e; exact q_wR hq _ _ _
  · exact absurd e (by simp)
theorem q_X8 {v0 : Nat} (hq : Qh h) : Qo (f_X8_init v0 h) := by
  unfold f_X8_init
  repeat (first | (with_reducible refine q_mk ?_) | (with_reducible refine q_nw (by assumption) (fun _ _ _ => ?_)) | (with_reducible refine q_pR (by assumption) (fun _ _ => ?_)) | (with_reducible refine q_pZ (by assumption) (fun _ _ => ?_)) | (with_reducible refine q_nm ?_) | with_reducible exact q_some (by assumption))
theorem q_X7 {v0 : Nat} (hq : Qh h) : Qo (f_X7_init v0 h) := by
  unfold f_X7_init
  repeat (first | (with_reducible refine q_mk ?_) | (with_reducible refine q_nw (by assumption) (fun _ _ _ => ?_)) | (with_reducible refine q_pR (by assumption) (fun _ _ => ?_)) | (with_reducible refine q_pZ (by assumption) (fun _ _ => ?_)) | (with_reducible refine q_nm ?_) | with_reducible exact q_some (by assumption))
theorem q_X4l {n v0 : Nat} : ∀ (k : Nat) (v1 : Int) (h : gi_H), Qh h → Qo (l_X4_init_69 n k v0 v1 h)
  | 0, _, _, _ => fun h' e => absurd e (by simp [l_X4_init_69])
  | k + 1, v1, h, hq => by
    unfold l_X4_init_69 b_X4_init_69
    refine q_any (fun _ => q_any (fun _ => q_any (fun _ => q_any (fun _ => q_ite (q_some hq) (q_any (fun _ => q_mk (q_nw hq (fun h2 hq2 _ => ?_))))))))
    exact q_f (q_X8 hq2) (fun h3 hq3 => q_s5 hq3 (fun h4 hq4 => q_nm (q_X4l k _ _ hq4)))
theorem q_X4 {n v0 : Nat} (hq : Qh h) : Qo (f_X4_init n v0 h) := by
  unfold f_X4_init
  repeat (first | (with_reducible refine q_mk ?_) | (with_reducible refine q_nw (by assumption) (fun _ _ _ => ?_)) | (with_reducible refine q_pR (by assumption) (fun _ _ => ?_)) | (with_reducible refine q_pZ (by assumption) (fun _ _ => ?_)) | (with_reducible refine q_nm ?_) | with_reducible exact q_some (by assumption))
  with_reducible refine q_f (q_X8 (by assumption)) (fun _ _ => ?_)
  repeat (first | (with_reducible refine q_mk ?_) | (with_reducible refine q_nw (by assumption) (fun _ _ _ => ?_)) | (with_reducible refine q_pR (by assumption) (fun _ _ => ?_)) | (with_reducible refine q_pZ (by assumption) (fun _ _ => ?_)) | (with_reducible refine q_nm ?_) | with_reducible exact q_some (by assumption))
  with_reducible refine q_f (q_X7 (by assumption)) (fun _ _ => ?_)
  repeat (first | (with_reducible refine q_mk ?_) | (with_reducible refine q_nw (by assumption) (fun _ _ _ => ?_)) | (with_reducible refine q_pR (by assumption) (fun _ _ => ?_)) | (with_reducible refine q_pZ (by assumption) (fun _ _ => ?_)) | (with_reducible refine q_nm ?_) | with_reducible exact q_some (by assumption))
  with_reducible exact q_X4l _ _ _ (by assumption)
theorem q_fl {n t : Nat} {x z : Int} : ∀ (k : Nat) (y : Int) (h : gi_H), Qh h → gi_S h t = (1, 13) → Qo (l_J7_fill_53178_5 n k t x y z h)
  | 0, _, _, _, _ => fun h' e => absurd e (by simp [l_J7_fill_53178_5])
  | k + 1, y, h, hq, hs => by
    unfold l_J7_fill_53178_5 b_J7_fill_53178_5
    refine q_any (fun _ => q_any (fun _ => q_ite (q_some hq) ?_))
    intro h' e
    unfold gi_s1 at e
    by_cases c : t < gi_sz h ∧ (gi_S h t).1 = 1 ∧ 0 ≤ y ∧ y < ((gi_S h t).2 : Nat) ∧ y ≤ 2147483647
    · rw [if_pos c] at e
      exact q_fl k (y + 1) (gi_wI h t y.toNat x) (q_wI hq (Or.inr (by rw [hs]))) hs h' e
    · rw [if_neg c] at e
      exact absurd e (by simp)
theorem q_fill {n t : Nat} {x : Int} (hq : Qh h) (hs : gi_S h t = (1, 13)) : Qo (f_J7_fill_53178 n t x h) := by
  unfold f_J7_fill_53178
  exact q_any (fun _ => q_fl _ _ _ hq hs)
theorem q_X3 {v0 v1 : Nat} (hq : Qh h) : Qo (f_X3_init v0 v1 h) := by
  unfold f_X3_init
  repeat (first | (with_reducible refine q_mk ?_) | (with_reducible refine q_nw (by assumption) (fun _ _ _ => ?_)) | (with_reducible refine q_pR (by assumption) (fun _ _ => ?_)) | (with_reducible refine q_pZ (by assumption) (fun _ _ => ?_)) | (with_reducible refine q_nm ?_) | with_reducible exact q_some (by assumption))
theorem q_X0 {v0 v1 : Nat} {x : Int} (hq : Qh h) : Qo (f_X0_init v0 v1 x h) := by
  unfold f_X0_init
  repeat (first | (with_reducible refine q_mk ?_) | (with_reducible refine q_nw (by assumption) (fun _ _ _ => ?_)) | (with_reducible refine q_pR (by assumption) (fun _ _ => ?_)) | (with_reducible refine q_pZ (by assumption) (fun _ _ => ?_)) | (with_reducible refine q_nm ?_) | with_reducible exact q_some (by assumption))
theorem q_X5 {v0 v1 v2 : Nat} (hq : Qh h) : Qo (f_X5_init v0 v1 v2 h) := by
  unfold f_X5_init f_X10_init_4
  refine q_f (q_some hq) (fun _ _ => ?_)
  repeat (first | (with_reducible refine q_mk ?_) | (with_reducible refine q_nw (by assumption) (fun _ _ _ => ?_)) | (with_reducible refine q_pR (by assumption) (fun _ _ => ?_)) | (with_reducible refine q_pZ (by assumption) (fun _ _ => ?_)) | (with_reducible refine q_nm ?_) | with_reducible exact q_some (by assumption))
theorem q_X9 {v0 v1 v3 v4 v5 : Nat} {x : Int} (hq : Qh h) : Qo (f_X9_init v0 v1 x v3 v4 v5 h) := by
  unfold f_X9_init f_X10_init_8
  refine q_f (q_some hq) (fun _ _ => ?_)
  repeat (first | (with_reducible refine q_mk ?_) | (with_reducible refine q_nw (by assumption) (fun _ _ _ => ?_)) | (with_reducible refine q_pR (by assumption) (fun _ _ => ?_)) | (with_reducible refine q_pZ (by assumption) (fun _ _ => ?_)) | (with_reducible refine q_nm ?_) | with_reducible exact q_some (by assumption))
theorem q_X2 {v0 v1 v2 v3 v4 : Nat} (hq : Qh h) : Qo (f_X2_init v0 v1 v2 v3 v4 h) := by
  unfold f_X2_init
  refine q_f ?_ (fun _ hh => q_some hh)
  unfold f_X1_init_1
  repeat (first | (with_reducible refine q_mk ?_) | (with_reducible refine q_nw (by assumption) (fun _ _ _ => ?_)) | (with_reducible refine q_pR (by assumption) (fun _ _ => ?_)) | (with_reducible refine q_pZ (by assumption) (fun _ _ => ?_)) | (with_reducible refine q_nm ?_) | with_reducible exact q_some (by assumption))
theorem q_X6 {v0 v1 v2 v3 v4 : Nat} (hq : Qh h) : Qo (f_X6_init v0 v1 v2 v3 v4 h) := by
  unfold f_X6_init
  refine q_f ?_ (fun _ hh => q_some hh)
  unfold f_X1_init_5
  repeat (first | (with_reducible refine q_mk ?_) | (with_reducible refine q_nw (by assumption) (fun _ _ _ => ?_)) | (with_reducible refine q_pR (by assumption) (fun _ _ => ?_)) | (with_reducible refine q_pZ (by assumption) (fun _ _ => ?_)) | (with_reducible refine q_nm ?_) | with_reducible exact q_some (by assumption))
theorem q_X11 {n v0 : Nat} (hq : Qh h) : Qo (f_X11_init n v0 h) := by
  unfold f_X11_init
  repeat (first | (with_reducible refine q_mk ?_) | (with_reducible refine q_nw (by assumption) (fun _ _ _ => ?_)) | (with_reducible refine q_pR (by assumption) (fun _ _ => ?_)) | (with_reducible refine q_pZ (by assumption) (fun _ _ => ?_)) | (with_reducible refine q_nm ?_) | with_reducible exact q_some (by assumption))
  with_reducible refine q_f (q_X8 (by assumption)) (fun _ _ => ?_)
  repeat (first | (with_reducible refine q_mk ?_) | (with_reducible refine q_nw (by assumption) (fun _ _ _ => ?_)) | (with_reducible refine q_pR (by assumption) (fun _ _ => ?_)) | (with_reducible refine q_pZ (by assumption) (fun _ _ => ?_)) | (with_reducible refine q_nm ?_) | with_reducible exact q_some (by assumption))
  with_reducible refine q_f (q_X4 (by assumption)) (fun _ _ => ?_)
  repeat (first | (with_reducible refine q_mk ?_) | (with_reducible refine q_nw (by assumption) (fun _ _ _ => ?_)) | (with_reducible refine q_pR (by assumption) (fun _ _ => ?_)) | (with_reducible refine q_pZ (by assumption) (fun _ _ => ?_)) | (with_reducible refine q_nm ?_) | with_reducible exact q_some (by assumption))
  with_reducible refine q_f (q_fill (by assumption) (by assumption)) (fun _ _ => ?_)
  repeat (first | (with_reducible refine q_mk ?_) | (with_reducible refine q_nw (by assumption) (fun _ _ _ => ?_)) | (with_reducible refine q_pR (by assumption) (fun _ _ => ?_)) | (with_reducible refine q_pZ (by assumption) (fun _ _ => ?_)) | (with_reducible refine q_nm ?_) | with_reducible exact q_some (by assumption))
  with_reducible refine q_f (q_X3 (by assumption)) (fun _ _ => ?_)
  repeat (first | (with_reducible refine q_mk ?_) | (with_reducible refine q_nw (by assumption) (fun _ _ _ => ?_)) | (with_reducible refine q_pR (by assumption) (fun _ _ => ?_)) | (with_reducible refine q_pZ (by assumption) (fun _ _ => ?_)) | (with_reducible refine q_nm ?_) | with_reducible exact q_some (by assumption))
  with_reducible refine q_f (q_X0 (by assumption)) (fun _ _ => ?_)
  repeat (first | (with_reducible refine q_mk ?_) | (with_reducible refine q_nw (by assumption) (fun _ _ _ => ?_)) | (with_reducible refine q_pR (by assumption) (fun _ _ => ?_)) | (with_reducible refine q_pZ (by assumption) (fun _ _ => ?_)) | (with_reducible refine q_nm ?_) | with_reducible exact q_some (by assumption))
  with_reducible refine q_f (q_X0 (by assumption)) (fun _ _ => ?_)
  repeat (first | (with_reducible refine q_mk ?_) | (with_reducible refine q_nw (by assumption) (fun _ _ _ => ?_)) | (with_reducible refine q_pR (by assumption) (fun _ _ => ?_)) | (with_reducible refine q_pZ (by assumption) (fun _ _ => ?_)) | (with_reducible refine q_nm ?_) | with_reducible exact q_some (by assumption))
  with_reducible refine q_f (q_X4 (by assumption)) (fun _ _ => ?_)
  repeat (first | (with_reducible refine q_mk ?_) | (with_reducible refine q_nw (by assumption) (fun _ _ _ => ?_)) | (with_reducible refine q_pR (by assumption) (fun _ _ => ?_)) | (with_reducible refine q_pZ (by assumption) (fun _ _ => ?_)) | (with_reducible refine q_nm ?_) | with_reducible exact q_some (by assumption))
  with_reducible refine q_f (q_X5 (by assumption)) (fun _ _ => ?_)
  repeat (first | (with_reducible refine q_mk ?_) | (with_reducible refine q_nw (by assumption) (fun _ _ _ => ?_)) | (with_reducible refine q_pR (by assumption) (fun _ _ => ?_)) | (with_reducible refine q_pZ (by assumption) (fun _ _ => ?_)) | (with_reducible refine q_nm ?_) | with_reducible exact q_some (by assumption))
  with_reducible refine q_f (q_X9 (by assumption)) (fun _ _ => ?_)
  repeat (first | (with_reducible refine q_mk ?_) | (with_reducible refine q_nw (by assumption) (fun _ _ _ => ?_)) | (with_reducible refine q_pR (by assumption) (fun _ _ => ?_)) | (with_reducible refine q_pZ (by assumption) (fun _ _ => ?_)) | (with_reducible refine q_nm ?_) | with_reducible exact q_some (by assumption))
  with_reducible refine q_f (q_X9 (by assumption)) (fun _ _ => ?_)
  repeat (first | (with_reducible refine q_mk ?_) | (with_reducible refine q_nw (by assumption) (fun _ _ _ => ?_)) | (with_reducible refine q_pR (by assumption) (fun _ _ => ?_)) | (with_reducible refine q_pZ (by assumption) (fun _ _ => ?_)) | (with_reducible refine q_nm ?_) | with_reducible exact q_some (by assumption))
  with_reducible refine q_f (q_X9 (by assumption)) (fun _ _ => ?_)
  repeat (first | (with_reducible refine q_mk ?_) | (with_reducible refine q_nw (by assumption) (fun _ _ _ => ?_)) | (with_reducible refine q_pR (by assumption) (fun _ _ => ?_)) | (with_reducible refine q_pZ (by assumption) (fun _ _ => ?_)) | (with_reducible refine q_nm ?_) | with_reducible exact q_some (by assumption))
  with_reducible refine q_f (q_X2 (by assumption)) (fun _ _ => ?_)
  repeat (first | (with_reducible refine q_mk ?_) | (with_reducible refine q_nw (by assumption) (fun _ _ _ => ?_)) | (with_reducible refine q_pR (by assumption) (fun _ _ => ?_)) | (with_reducible refine q_pZ (by assumption) (fun _ _ => ?_)) | (with_reducible refine q_nm ?_) | with_reducible exact q_some (by assumption))
  with_reducible refine q_f (q_X6 (by assumption)) (fun _ _ => ?_)
  repeat (first | (with_reducible refine q_mk ?_) | (with_reducible refine q_nw (by assumption) (fun _ _ _ => ?_)) | (with_reducible refine q_pR (by assumption) (fun _ _ => ?_)) | (with_reducible refine q_pZ (by assumption) (fun _ _ => ?_)) | (with_reducible refine q_nm ?_) | with_reducible exact q_some (by assumption))
end QIN
def ge0 : gi_H := (0, fun _ => (0, 0), fun _ _ => 0, fun _ _ => 0, fun _ _ => none)
theorem q_e : Qh ge0 := fun _ _ _ _ => rfl
theorem q_nwh {h : gi_H} {sh : Nat × Nat} (hq : Qh h) : Qh (gi_nw h sh) := q_nw (f := fun h => some h) hq (fun h' hh _ => q_some hh) _ rfl
theorem q_h0 : Qh h0 := by
  have hs := h0_some
  obtain ⟨x, hx⟩ := Option.isSome_iff_exists.mp hs
  have e0 : h0 = x := by unfold h0; rw [hx]; rfl
  rw [e0]
  have q : Qo gh_mk := by
    unfold gh_mk
    refine q_mk (q_nm (q_f (q_X11 (q_nwh q_e)) (fun h2 hq2 => q_mk (q_some (q_nwh hq2)))))
  exact q x hx
def h0V : List (Nat × Nat × Int) := [(0, 3, 0), (0, 7, 0), (1, 1, 0), (3, 3, 0), (3, 6, 0), (3, 7, 0), (87, 3, 0), (87, 6, 0), (87, 7, 0), (64, 1, 0), (73, 2, 0), (79, 2, 0), (73, 1, 1), (79, 1, 0), (148, 2, 1), (151, 2, 0), (154, 2, 0)] ++ (List.range 13).map (fun i => (63, i, 8)) ++ (List.range 8).map (fun i => (61, i, 0)) ++ (List.range 8).map (fun i => (62, i, 0))
set_option maxRecDepth 1000000 in
theorem h0_V : ∀ q ∈ h0V, gi_I h0 q.1 q.2.1 = q.2.2 := by decide +kernel
theorem h0_v {a k : Nat} {x : Int} (h : (a, k, x) ∈ h0V) : gi_I h0 a k = x := h0_V (a, k, x) h
theorem h0_z {a m : Nat} (h : h0S.getD a (0, 0) = (1, m)) (ha : a < 162) (hm : m ≠ 13) (k : Nat) : gi_I h0 a k = 0 := q_h0 a (by rw [h0_S a ha, h]) (by rw [h0_S a ha, h]; exact hm) k
theorem cg_0 {v : Nat} {J : Nat → Nat → Int} (h3 : J v 3 = 0) (h6 : J v 6 = 0) (h7 : J v 7 = 0) (z1 : ∀ k, J (v + 1) k = 0) (z2 : ∀ k, J (v + 2) k = 0) (z3 : ∀ k, J (v + 3) k = 0) : CG v J [] [] := by
  refine ⟨⟨⟨by rw [h3]; decide, by rw [h6]; decide, by rw [h7]; decide, fun k => by rw [z3]; decide, fun k => by rw [z1]; decide, fun k => by rw [z2]; decide⟩, h3, fun p hp1 => absurd hp1 (by simp)⟩, h6, fun i hi => absurd hi (by simp)⟩
theorem bind_so {α β : Type} {o : Option α} {f : α → Option β} {y : β} (h : Option.bind o f = some y) : ∃ x, o = some x ∧ f x = some y := by
  cases o with
  | none => exact absurd h (by simp)
  | some x => exact ⟨x, rfl, h⟩
set_option maxRecDepth 1000000 in
theorem h0_sz2 : ((f_X11_init gN 0 (gi_nw (0, fun _ => (0, 0), fun _ _ => 0, fun _ _ => 0, fun _ _ => none) (0, 9))).getD (0, fun _ => (0, 0), fun _ _ => 0, fun _ _ => 0, fun _ _ => none)).1 = 161 := by decide +kernel
theorem law_h0 (L : Nat) (xs : Nat → Int) : f_L_law gN L xs (0, fun _ => (0, 0), fun _ _ => 0, fun _ _ => 0, fun _ _ => none) = l_L_law_24 gN L xs 27 0 161 0 0 1 0 h0 := by
  have hs := h0_some
  obtain ⟨x, hx⟩ := Option.isSome_iff_exists.mp hs
  have e0 : h0 = x := by unfold h0; rw [hx]; rfl
  have e2 := h0_sz2
  rw [e0]
  clear hs e0
  unfold gh_mk at hx
  unfold f_L_law
  simp only [nm_eq] at hx ⊢
  obtain ⟨y1, a1, hx⟩ := bind_so hx
  obtain ⟨q2, a2, hx⟩ := bind_so hx
  obtain ⟨y3, a3, hx⟩ := bind_so hx
  have ex : gi_nw q2 (1, 24) = x := Option.some.inj hx
  rw [a2] at e2
  have sz2 : gi_sz q2 = 161 := e2
  have sz0 : gi_sz ((0, fun _ => (0, 0), fun _ _ => 0, fun _ _ => 0, fun _ _ => none) : gi_H) = 0 := rfl
  rw [a1]
  simp only [Option.bind_some, sz0, a2, a3, sz2, ex]
def JX (u nw : Nat) (J L : Nat → Nat → Int) : Prop := ∃ ps rs ps1 rs1 t lv sd w tp tq, JV u ps rs ps1 rs1 t lv sd w nw tp tq J L
theorem jx_0 : JX 0 0 (gi_I h0) (gi_L h0) := by
  have c1 : CG (gU 0) (gi_I h0) [] [] := cg_0 (h0_v (by decide)) (h0_v (by decide)) (h0_v (by decide)) (h0_z (a := 4) rfl (by decide) (by decide)) (h0_z (a := 5) rfl (by decide) (by decide)) (h0_z (a := 6) rfl (by decide) (by decide))
  have c2 : CG (gO 0) (gi_I h0) [] [] := cg_0 (h0_v (by decide)) (h0_v (by decide)) (h0_v (by decide)) (h0_z (a := 88) rfl (by decide) (by decide)) (h0_z (a := 89) rfl (by decide) (by decide)) (h0_z (a := 90) rfl (by decide) (by decide))
  have e37 : gi_I h0 (gU 0) 7 = ((0 : Nat) : Int) := h0_v (a := 3) (k := 7) (by decide)
  have hl : LVR (fun _ => 0) (fun _ => 0) := fun y _ => (by decide : ((0 : Int) ≤ 0 ∧ (0 : Int) ≤ 5) ∧ (0 : Int) ≤ 0 ∧ (0 : Int) ≤ 2)
  have hs : SW (fun _ => 8) 0 := ⟨by decide, fun i hi => absurd hi (by omega), fun _ _ => rfl⟩
  have hA : AO [] [] := fun i hi => absurd hi (by simp)
  have hA0 : A0 [] [] := ⟨fun _ => rfl, fun z => absurd rfl z⟩
  have m61 : ∀ y, y < 8 → gi_I h0 61 y = 0 := fun y hy => h0_v (by simp [h0V]; omega)
  have m62 : ∀ y, y < 8 → gi_I h0 62 y = 0 := fun y hy => h0_v (by simp [h0V]; omega)
  have m63 : ∀ y, y < 13 → gi_I h0 63 y = 8 := fun y hy => h0_v (by simp [h0V]; omega)
  refine ⟨[], [], [], [], [], fun _ => 0, fun _ => 0, fun _ => 8, 0, 0, ⟨⟨by decide, hA, hA, hs, by decide, by decide⟩, hA0, hA0⟩, ⟨c1, c2, e37, h0_v (a := 87) (k := 7) (by decide), ⟨h0_v (by decide), fun j hj => absurd hj (by simp), by simp, fun j hj => absurd hj (by simp)⟩, ⟨hl, fun y hy => ⟨m61 y hy, m62 y hy⟩⟩, m63, h0_v (by decide), h0_v (by decide)⟩, ?_⟩
  exact CST.forgot (c1.cst' e37).1 (c1.cst' e37).2 ⟨h0_v (by decide), h0_v (by decide), h0_v (by decide), h0_v (by decide), h0_v (by decide)⟩ ⟨h0_v (by decide), h0_v (by decide), h0_v (by decide)⟩
