/-! ===== rules read: the model (lists of productions); the class's grammar takes productions ===== -/
def zup (r : Nat → Int) (i : Nat) (x : Int) : Nat → Int := fun j => if j = i then x else r j
theorem zup_eq {r : Nat → Int} {i : Nat} {x : Int} : zup r i x i = x := if_pos rfl
theorem zup_ne {r : Nat → Int} {i j : Nat} {x : Int} (h : j ≠ i) : zup r i x j = r j := if_neg h
def pU (ps : List (Nat × List Nat)) (h : Nat) : Bool := ps.any (fun x => x.1 == h || x.2.contains (16 + h))
def fHs (ps : List (Nat × List Nat)) : Nat → Nat → Option Nat
  | 0, _ => none
  | m + 1, k => if pU ps k then fHs ps m (k + 1) else some k
def fH (ps : List (Nat × List Nat)) : Option Nat := fHs ps 8 8
def ch (r : Nat → Int) (a b : Nat) : List Nat := (List.range (b - a)).map (fun i => (r (a + i)).toNat)
def ad (ps : List (Nat × List Nat)) (o : Nat) (r : Nat → Int) (a b : Nat) : Option (List (Nat × List Nat)) := if ps.length < 24 ∧ b - a ≤ 5 then some (ps ++ [(o, ch r a b)]) else none
def aa (o : Nat) (r : Nat → Int) : Nat → List (Nat × List Nat) → Nat → Nat → Option (List (Nat × List Nat))
  | 0, ps, a, k => ad ps o r a k
  | m + 1, ps, a, k => if r k = -1 then (match ad ps o r a k with | none => none | some ps' => aa o r m ps' (k + 1) (k + 1)) else aa o r m ps a (k + 1)
def wr (ps : List (Nat × List Nat)) (r : Nat → Int) (H : Nat) (sg : Int) (sep : Nat) : Option (List (Nat × List Nat) × (Nat → Int)) :=
  match fH ps with
  | none => none
  | some h => if ps.length < 23 then some (ps ++ [(h, if sg = 43 ∨ sg = 37 then [(r (H - 1)).toNat] else [])] ++ [(h, if sg = 63 then [(r (H - 1)).toNat] else if sg = 37 then [16 + h, sep, (r (H - 1)).toNat] else [16 + h, (r (H - 1)).toNat])], zup r (H - 1) ((16 + h : Nat) : Int)) else none
def lo (r : Nat → Int) : Nat → Option Nat
  | 0 => none
  | H + 1 => if r H = -2 then some H else lo r H
def cls (ps : List (Nat × List Nat)) (r : Nat → Int) (H : Nat) : Option (List (Nat × List Nat) × (Nat → Int) × Nat) :=
  match lo r H with
  | none => none
  | some b => match fH ps with
    | none => none
    | some h => match aa h r (H - (b + 1)) ps (b + 1) (b + 1) with
      | none => none
      | some ps' => some (ps', zup r b ((16 + h : Nat) : Int), b + 1)
def rdm (t : Nat → Int) : Nat → Nat → Bool → List (Nat × List Nat) → (Nat → Int) → Nat → Option (List (Nat × List Nat) × (Nat → Int) × Nat)
  | 0, _, _, ps, r, H => some (ps, r, H)
  | m + 1, k, true, ps, r, H => match wr ps r H 37 (t k - 97).toNat with | none => none | some q => rdm t m (k + 1) false q.1 q.2 H
  | m + 1, k, false, ps, r, H =>
    if tk (t k) = 0 then rdm t m (k + 1) false ps (zup r H (t k - 97)) (H + 1)
    else if tk (t k) = 1 then rdm t m (k + 1) false ps (zup r H (16 + t k - 65)) (H + 1)
    else if tk (t k) = 4 then rdm t m (k + 1) false ps (zup r H (-1)) (H + 1)
    else if tk (t k) = 5 then rdm t m (k + 1) false ps (zup r H (-2)) (H + 1)
    else if tk (t k) = 6 then (match cls ps r H with | none => none | some q => rdm t m (k + 1) false q.1 q.2.1 q.2.2)
    else if tk (t k) = 2 then (match wr ps r H (t k) 0 with | none => none | some q => rdm t m (k + 1) false q.1 q.2 H)
    else rdm t m (k + 1) true ps r H
def rdr (t : Nat → Int) (N : Nat) (ps : List (Nat × List Nat)) (r : Nat → Int) : Option (List (Nat × List Nat)) :=
  match rdm t (N - 2) 2 false ps r 0 with
  | none => none
  | some q => aa (t 0 - 65).toNat q.2.1 q.2.2 q.1 0 0
def gtp (ps : List (Nat × List Nat)) (t : Nat) : GT := (ps.length, fun p => (ps.getD p (0, [])).1, fun p => (ps.getD p (0, [])).2.length, fun p k => (ps.getD p (0, [])).2.getD k 0, t)
theorem gD_l {α : Type} {d : α} {l l' : List α} {p : Nat} (h : p < l.length) : (l ++ l').getD p d = l.getD p d := by
  simp [List.getD_eq_getElem?_getD, List.getElem?_append_left h]
theorem gD_m {α : Type} {d x : α} {l : List α} : (l ++ [x]).getD l.length d = x := by
  simp [List.getD_eq_getElem?_getD]
theorem gD_o {α : Type} {d : α} {l : List α} {p : Nat} (h : l.length ≤ p) : l.getD p d = d := by
  simp [List.getD_eq_getElem?_getD, List.getElem?_eq_none h]
theorem ch_0 {r : Nat → Int} {a : Nat} : ch r a a = [] := by simp [ch]
theorem ch_len {r : Nat → Int} {a b : Nat} : (ch r a b).length = b - a := by simp [ch]
theorem ch_s {r : Nat → Int} {a b : Nat} (h : a ≤ b) : ch r a (b + 1) = ch r a b ++ [(r b).toNat] := by
  unfold ch
  rw [show b + 1 - a = (b - a) + 1 by omega, List.range_succ, List.map_append, List.map_singleton, show a + (b - a) = b by omega]
theorem ch_congr {r r' : Nat → Int} {a b : Nat} (h : ∀ i, a ≤ i → i < b → r i = r' i) : ch r a b = ch r' a b := by
  unfold ch
  refine List.map_congr_left (fun i hi => ?_)
  rw [List.mem_range] at hi
  rw [h (a + i) (by omega) (by omega)]
theorem aa_full {o : Nat} {r : Nat → Int} : ∀ (m : Nat) (ps : List (Nat × List Nat)) (a k : Nat), 24 ≤ ps.length → aa o r m ps a k = none
  | 0, ps, a, k, h => by show (if _ then _ else _) = _; rw [if_neg (by omega)]
  | m + 1, ps, a, k, h => by
    show (if r k = -1 then (match ad ps o r a k with | none => none | some ps' => aa o r m ps' (k + 1) (k + 1)) else aa o r m ps a (k + 1)) = none
    have e : ad ps o r a k = none := by unfold ad; rw [if_neg (by omega)]
    rw [e, aa_full m ps a (k + 1) h]
    split <;> rfl
theorem aa_long {o : Nat} {r : Nat → Int} : ∀ (m : Nat) (ps : List (Nat × List Nat)) (a k : Nat), a + 5 < k → aa o r m ps a k = none
  | 0, ps, a, k, h => by show (if _ then _ else _) = _; rw [if_neg (by omega)]
  | m + 1, ps, a, k, h => by
    show (if r k = -1 then (match ad ps o r a k with | none => none | some ps' => aa o r m ps' (k + 1) (k + 1)) else aa o r m ps a (k + 1)) = none
    have e : ad ps o r a k = none := by unfold ad; rw [if_neg (by omega)]
    rw [e, aa_long m ps a (k + 1) (by omega)]
    split <;> rfl
theorem aa_congr {o : Nat} {r r' : Nat → Int} : ∀ (m : Nat) (ps : List (Nat × List Nat)) (a k : Nat), a ≤ k → (∀ i, a ≤ i → i < k + m → r i = r' i) → aa o r m ps a k = aa o r' m ps a k
  | 0, ps, a, k, ha, h => by show ad ps o r a k = ad ps o r' a k; unfold ad; rw [ch_congr (fun i h1 h2 => h i h1 (by omega))]
  | m + 1, ps, a, k, ha, h => by
    show (if r k = -1 then (match ad ps o r a k with | none => none | some ps' => aa o r m ps' (k + 1) (k + 1)) else aa o r m ps a (k + 1)) = (if r' k = -1 then (match ad ps o r' a k with | none => none | some ps' => aa o r' m ps' (k + 1) (k + 1)) else aa o r' m ps a (k + 1))
    have e : ad ps o r a k = ad ps o r' a k := by unfold ad; rw [ch_congr (fun i h1 h2 => h i h1 (by omega))]
    rw [e, h k ha (by omega), aa_congr m ps a (k + 1) (by omega) (fun i h1 h2 => h i h1 (by omega))]
    split
    · cases ad ps o r' a k with
      | none => rfl
      | some ps' => exact aa_congr m ps' (k + 1) (k + 1) (Nat.le_refl _) (fun i h1 h2 => h i (by omega) (by omega))
    · rfl
/-- the class's grammar at v holds these productions -/
def CP (v : Nat) (I : Nat → Nat → Int) (ps : List (Nat × List Nat)) : Prop := GW v I ∧ I v 3 = (ps.length : Int) ∧ ∀ p, p < ps.length → I (v + 1) p = ((ps.getD p (0, [])).1 : Int) ∧ I (v + 3) p = ((ps.getD p (0, [])).2.length : Int) ∧ ∀ k, k < (ps.getD p (0, [])).2.length → I (v + 2) (5 * p + k) = ((ps.getD p (0, [])).2.getD k 0 : Int)
theorem CP.gt {v : Nat} {I : Nat → Nat → Int} {ps : List (Nat × List Nat)} (h : CP v I ps) : cG I v = gtp ps (I v 7).toNat := by
  obtain ⟨-, h1, h2⟩ := h
  have e1 : (I v 3).toNat = ps.length := by omega
  unfold cG gtp
  rw [e1]
  refine Prod.ext rfl (Prod.ext ?_ (Prod.ext ?_ (Prod.ext ?_ rfl)))
  · funext p
    show (if p < ps.length then (I (v + 1) p).toNat else 0) = (ps.getD p (0, [])).1
    by_cases q : p < ps.length
    · rw [if_pos q]; have := (h2 p q).1; omega
    · rw [if_neg q, gD_o (by omega)]
  · funext p
    show (if p < ps.length then (I (v + 3) p).toNat else 0) = (ps.getD p (0, [])).2.length
    by_cases q : p < ps.length
    · rw [if_pos q]; have := (h2 p q).2.1; omega
    · rw [if_neg q, gD_o (by omega)]; rfl
  · funext p k
    show (if p < ps.length ∧ k < (I (v + 3) p).toNat then (I (v + 2) (5 * p + k)).toNat else 0) = (ps.getD p (0, [])).2.getD k 0
    by_cases q : p < ps.length
    · have h3 := h2 p q
      by_cases q2 : k < (ps.getD p (0, [])).2.length
      · rw [if_pos ⟨q, by omega⟩, h3.2.2 k q2]; rfl
      · rw [if_neg (by omega), gD_o (by omega)]
    · rw [if_neg (fun z => q z.1), gD_o (l := ps) (by omega)]; rfl
/-- what is in such a list -/
def PO (ps : List (Nat × List Nat)) : Prop := ps.length ≤ 24 ∧ ∀ p, p < ps.length → (ps.getD p (0, [])).1 < 16 ∧ (ps.getD p (0, [])).2.length ≤ 5 ∧ ∀ k, k < (ps.getD p (0, [])).2.length → (ps.getD p (0, [])).2.getD k 0 < 8 ∨ (16 ≤ (ps.getD p (0, [])).2.getD k 0 ∧ (ps.getD p (0, [])).2.getD k 0 < 32)
theorem CP.po {v : Nat} {I : Nat → Nat → Int} {ps : List (Nat × List Nat)} (h : CP v I ps) : PO ps := by
  obtain ⟨w, h1, h2⟩ := h
  refine ⟨by have := w.1; omega, fun p hp => ⟨?_, ?_, fun k hk => ?_⟩⟩
  · have := w.2.2.2.2.1 p; have := (h2 p hp).1; omega
  · have := w.2.2.2.1 p; have := (h2 p hp).2.1; omega
  · have := w.2.2.2.2.2 (5 * p + k); have := (h2 p hp).2.2 k hk; omega
theorem CP.fr {v : Nat} {I J : Nat → Nat → Int} {ps : List (Nat × List Nat)} (h : CP v I ps) {l : List Nat} (f : Fr l I J) (q : v ∉ l ∧ v + 1 ∉ l ∧ v + 2 ∉ l ∧ v + 3 ∉ l) : CP v J ps := by
  unfold CP GW at *
  rw [f v q.1, f _ q.2.1, f _ q.2.2.1, f _ q.2.2.2]; exact h
theorem gG4 {v : Nat} (hv : v ∈ [3, 87]) : v = 3 ∨ v = 87 := by simpa using hv
def FC (v : Nat) (I J : Nat → Nat → Int) : Prop := Fr [v, v + 1, v + 2, v + 3] I J ∧ ∀ k, k ≠ 3 → J v k = I v k
theorem FC.rf {v : Nat} {I : Nat → Nat → Int} : FC v I I := ⟨Fr.rf, fun _ _ => rfl⟩
theorem FC.tr {v : Nat} {I J K : Nat → Nat → Int} (h : FC v I J) (q : FC v J K) : FC v I K := ⟨h.1.tr q.1, fun k hk => (q.2 k hk).trans (h.2 k hk)⟩
section GA
variable {u : Nat} {n : Nat} {L : Nat → Nat → Int}
theorem X4_open {v : Nat} (hv : v ∈ [3, 87]) {J : Nat → Nat → Int} {ps : List (Nat × List Nat)} (h : CP v J ps) {o : Nat} (ho : o < 16) :
    (24 ≤ ps.length ∧ f_X4_open v (o : Int) (hp u J L) = some (0, hp u J L)) ∨ (ps.length < 24 ∧ ∃ J', f_X4_open v (o : Int) (hp u J L) = some (1, hp u J' L) ∧ CP v J' (ps ++ [(o, [])]) ∧ FC v J J') := by
  obtain ⟨w, h1, h2⟩ := h
  have w3 := w.1
  by_cases q : 24 ≤ ps.length
  · left; refine ⟨q, ?_⟩
    simp (disch := omega) only [f_X4_open, hi_G hv, hG_G_0 hv, hG_G_1 hv, hG_G_2 hv, hg_G_3 hv, hq_G_3 hv, hG_G_4 hv, hG_G_5 hv, hg_G_6 hv, hq_G_6 hv, hg_G_7 hv, hq_G_7 hv, hG_G_8 hv, hG_G_9 hv, ha_G_1 hv, hs_G_1 hv, hl_G_1 hv, ha_G_2 hv, hs_G_2 hv, hl_G_2 hv, ha_G_3 hv, hs_G_3 hv, hl_G_3 hv, ha_G_4 hv, hl_G_4 hv, ha_G_5 hv, hs_G_5 hv, hl_G_5 hv, Option.bind_some, nm_eq, sm_inl, sm_inr, zo_0, zo_1, rg_ok, if_pos, if_neg, if_true, if_false, Int.toNat_natCast]
  · right
    have e0 : gx_u J (v + 1) ps.length (o : Int) v 3 = ps.length := by rw [gu_ne (by omega), h1]
    have e1 : gx_u (gx_u J (v + 1) ps.length (o : Int)) (v + 3) ps.length 0 v 3 = ps.length := by rw [gu_ne (by omega), e0]
    refine ⟨by omega, gx_u (gx_u (gx_u J (v + 1) ps.length (o : Int)) (v + 3) ps.length 0) v 3 ((ps.length + 1 : Nat) : Int), ?_, ⟨?_, ?_, fun p hp => ?_⟩, ((Fr.rf.wr (by simp)).wr (by simp)).wr (by simp), fun k hk => ?_⟩
    · simp (disch := omega) only [f_X4_open, hi_G hv, hG_G_0 hv, hG_G_1 hv, hG_G_2 hv, hg_G_3 hv, hq_G_3 hv, hG_G_4 hv, hG_G_5 hv, hg_G_6 hv, hq_G_6 hv, hg_G_7 hv, hq_G_7 hv, hG_G_8 hv, hG_G_9 hv, ha_G_1 hv, hs_G_1 hv, hl_G_1 hv, ha_G_2 hv, hs_G_2 hv, hl_G_2 hv, ha_G_3 hv, hs_G_3 hv, hl_G_3 hv, ha_G_4 hv, hl_G_4 hv, ha_G_5 hv, hs_G_5 hv, hl_G_5 hv, Option.bind_some, nm_eq, sm_inl, sm_inr, zo_0, zo_1, rg_ok, if_pos, if_neg, if_true, if_false, Int.toNat_natCast, h1, e0, e1]
      rfl
    · refine ⟨?_, ?_, ?_, fun k => ?_, fun k => ?_, fun k => ?_⟩
      · rw [gu_at_eq rfl]; omega
      · rw [gu_at_ne (by decide), gu_ne (by omega), gu_ne (by omega)]; exact w.2.1
      · rw [gu_at_ne (by decide), gu_ne (by omega), gu_ne (by omega)]; exact w.2.2.1
      · rw [gu_ne (by omega), gu_at, gu_ne (by omega)]; have := w.2.2.2.1 k; split <;> omega
      · rw [gu_ne (by omega), gu_ne (by omega), gu_at]; have := w.2.2.2.2.1 k; split <;> omega
      · rw [gu_ne (by omega), gu_ne (by omega), gu_ne (by omega)]; exact w.2.2.2.2.2 k
    · rw [gu_at_eq rfl, List.length_append]; rfl
    · rw [List.length_append, List.length_singleton] at hp
      by_cases e : p = ps.length
      · rw [e, gD_m, gu_ne (by omega), gu_ne (by omega), gu_at_eq rfl, gu_ne (by omega), gu_at_eq rfl]
        exact ⟨rfl, rfl, fun k hk => absurd hk (by simp)⟩
      · have hp' : p < ps.length := by omega
        rw [gD_l hp', gu_ne (by omega), gu_ne (by omega), gu_at_ne e, gu_ne (by omega), gu_at_ne e, gu_ne (by omega), gu_ne (by omega), gu_ne (by omega), gu_ne (by omega)]
        exact h2 p hp'
    · rw [gu_at_ne hk, gu_ne (by omega), gu_ne (by omega)]
theorem X4_extend {v : Nat} (hv : v ∈ [3, 87]) {J : Nat → Nat → Int} {ps : List (Nat × List Nat)} {o : Nat} {l : List Nat} (h : CP v J (ps ++ [(o, l)])) {x : Nat} (hx : x < 8 ∨ (16 ≤ x ∧ x < 32)) :
    (5 ≤ l.length ∧ f_X4_extend v (x : Int) (hp u J L) = some (0, hp u J L)) ∨ (l.length < 5 ∧ ∃ J', f_X4_extend v (x : Int) (hp u J L) = some (1, hp u J' L) ∧ CP v J' (ps ++ [(o, l ++ [x])]) ∧ FC v J J') := by
  have hpo := h.po
  obtain ⟨w, h1, h2⟩ := h
  have w3 := w.1
  have hlen : (ps ++ [(o, l)]).length = ps.length + 1 := by simp
  rw [hlen] at h1 h2
  have h3 := h2 ps.length (by omega)
  rw [gD_m] at h3
  dsimp only at h3
  have e3 : J v 3 - 1 = (ps.length : Int) := by omega
  have hl5 : l.length ≤ 5 := by have := w.2.2.2.1 ps.length; omega
  by_cases q : 5 ≤ l.length
  · left; refine ⟨q, ?_⟩
    simp (disch := omega) only [f_X4_extend, hi_G hv, hG_G_0 hv, hG_G_1 hv, hG_G_2 hv, hg_G_3 hv, hq_G_3 hv, hG_G_4 hv, hG_G_5 hv, hg_G_6 hv, hq_G_6 hv, hg_G_7 hv, hq_G_7 hv, hG_G_8 hv, hG_G_9 hv, ha_G_1 hv, hs_G_1 hv, hl_G_1 hv, ha_G_2 hv, hs_G_2 hv, hl_G_2 hv, ha_G_3 hv, hs_G_3 hv, hl_G_3 hv, ha_G_4 hv, hl_G_4 hv, ha_G_5 hv, hs_G_5 hv, hl_G_5 hv, Option.bind_some, nm_eq, sm_inl, sm_inr, zo_0, zo_1, rg_ok, if_pos, if_neg, if_true, if_false, Int.toNat_natCast, e3, h3.2.1]
  · right
    have hq : ((ps.length : Int) * 5 + (l.length : Int)).toNat = 5 * ps.length + l.length := by omega
    have e5 : gx_u J (v + 2) (5 * ps.length + l.length) (x : Int) (v + 3) ps.length = (l.length : Int) := by rw [gu_ne (by omega)]; exact h3.2.1
    refine ⟨by omega, gx_u (gx_u J (v + 2) (5 * ps.length + l.length) (x : Int)) (v + 3) ps.length ((l.length + 1 : Nat) : Int), ?_, ⟨?_, ?_, fun p hp => ?_⟩, (Fr.rf.wr (by simp)).wr (by simp), fun k hk => ?_⟩
    · simp (disch := omega) only [f_X4_extend, hi_G hv, hG_G_0 hv, hG_G_1 hv, hG_G_2 hv, hg_G_3 hv, hq_G_3 hv, hG_G_4 hv, hG_G_5 hv, hg_G_6 hv, hq_G_6 hv, hg_G_7 hv, hq_G_7 hv, hG_G_8 hv, hG_G_9 hv, ha_G_1 hv, hs_G_1 hv, hl_G_1 hv, ha_G_2 hv, hs_G_2 hv, hl_G_2 hv, ha_G_3 hv, hs_G_3 hv, hl_G_3 hv, ha_G_4 hv, hl_G_4 hv, ha_G_5 hv, hs_G_5 hv, hl_G_5 hv, Option.bind_some, nm_eq, sm_inl, sm_inr, zo_0, zo_1, rg_ok, if_pos, if_neg, if_true, if_false, Int.toNat_natCast, e3, h3.2.1, hq, e5]
      rfl
    · refine ⟨?_, ?_, ?_, fun k => ?_, fun k => ?_, fun k => ?_⟩
      · rw [gu_ne (by omega), gu_ne (by omega)]; exact w.1
      · rw [gu_ne (by omega), gu_ne (by omega)]; exact w.2.1
      · rw [gu_ne (by omega), gu_ne (by omega)]; exact w.2.2.1
      · rw [gu_at, gu_ne (by omega)]; have := w.2.2.2.1 k; split <;> omega
      · rw [gu_ne (by omega), gu_ne (by omega)]; exact w.2.2.2.2.1 k
      · rw [gu_ne (by omega), gu_at]; have := w.2.2.2.2.2 k; split <;> omega
    · rw [gu_ne (by omega), gu_ne (by omega), h1]; simp
    · simp only [List.length_append, List.length_singleton] at hp
      by_cases e : p = ps.length
      · rw [e, gD_m, gu_ne (by omega), gu_ne (by omega), gu_at_eq rfl, gu_ne (by omega)]
        refine ⟨h3.1, by simp, fun k hk => ?_⟩
        simp only [List.length_append, List.length_singleton] at hk
        by_cases ek : k = l.length
        · rw [ek, gD_m, gu_at_eq rfl]
        · rw [gD_l (by omega), gu_at_ne (by omega)]; exact h3.2.2 k (by omega)
      · have hp' : p < ps.length := by omega
        have h4 := h2 p (by omega)
        rw [gD_l hp'] at h4
        have hl := hpo.2 p (by omega)
        rw [gD_l hp'] at hl
        rw [gD_l hp', gu_ne (by omega), gu_ne (by omega), gu_at_ne e, gu_ne (by omega), gu_ne (by omega)]
        refine ⟨h4.1, h4.2.1, fun k hk => ?_⟩
        rw [gu_at_ne (by omega)]; exact h4.2.2 k hk
    · rw [gu_ne (by omega), gu_ne (by omega)]
end GA
