/-! ===== the reference: what the merged states hand on ===== -/
def rst (g : GT) (t : Nat) (J : Nat → Nat → Int) : AS := SR g 183 (ar g (146 * t)) J
def RVM (g : GT) (N : Nat → Prop) (F : Nat → Nat → Prop) (J : Nat → Nat → Int) : Prop :=
  (∀ t, t < Sn (FIN g N F true) → VR g 183 (ar g (146 * t)) J ∧ (∀ p k, rst g t J p k 9 ↔ CL g N F (SK (FIN g N F true) t) p k 9) ∧ sAS (rst g t J) (LBm g N F (FIN g N F true) t)) ∧
  rst g 0 J 24 0 8 ∧ ∀ s x, s < Sn (FIN g N F true) → x < 24 → J 184 (24 * s + x) = Sm (FIN g N F true) s x
noncomputable def mT (g : GT) (k : Nat) (J : Nat → Nat → Int) : Nat := cM (fun x => zif (vI g (x % 150 / 6) (x % 150 % 6)) (J 183 (ar g (146 * (x / 150)) (x % 150 / 6) (x % 150 % 6))) 0) (150 * k)
theorem mT_le {g : GT} {k : Nat} {J : Nat → Nat → Int} : mT g k J ≤ 150 * k * 32 := cM_le _ _
theorem mT_mono {g : GT} {k : Nat} {J J' : Nat → Nat → Int} (h : ∀ t, t < k → sAS (rst g t J) (rst g t J')) : mT g k J ≤ mT g k J' := by
  refine cB_mono _ (fun i hi hb => ?_)
  dsimp only at hb ⊢
  by_cases c : vI g (i / 32 % 150 / 6) (i / 32 % 150 % 6)
  · rw [zif_p c] at hb ⊢
    exact (h (i / 32 / 150) (by omega) _ _ _ ⟨c, hb⟩).2
  · rw [zif_n c, bt_zero] at hb; exact absurd hb (by decide)
theorem mT_lt {g : GT} (hg : GR g) {k : Nat} {J J' : Nat → Nat → Int} (h : ∀ t, t < k → sAS (rst g t J) (rst g t J')) {t p q y : Nat} (ht : t < k) (h1 : rst g t J' p q y) (hy : y < 32) (h2 : ¬ rst g t J p q y) : mT g k J < mT g k J' := by
  have hv := h1.1
  have h6 := vI_6 hg hv
  have e1 : (150 * t + (6 * p + q)) / 150 = t := by omega
  have e2 : (150 * t + (6 * p + q)) % 150 / 6 = p := by omega
  have e3 : (150 * t + (6 * p + q)) % 150 % 6 = q := by omega
  refine cM_lt (fun i hi b' _ hb => ?_) ⟨150 * t + (6 * p + q), by omega, y, hy, ?_, ?_⟩
  · by_cases c : vI g (i % 150 / 6) (i % 150 % 6)
    · rw [zif_p c] at hb ⊢
      exact (h (i / 150) (by omega) _ _ _ ⟨c, hb⟩).2
    · rw [zif_n c, bt_zero] at hb; exact absurd hb (by decide)
  · rw [e1, e2, e3, zif_p hv]; exact h1.2
  · rw [e1, e2, e3, zif_p hv]
    cases c : bt (J 183 (ar g (146 * t) p q)) y with
    | false => rfl
    | true => exact absurd ⟨hv, c⟩ h2
theorem ar_st {g : GT} (hg : GR g) {t t' p k p' k' : Nat} (h : vI g p k) (h' : vI g p' k') (e : ar g (146 * t) p k = ar g (146 * t') p' k') : t = t' ∧ p = p' ∧ k = k' := by
  have a := fo_rg hg h
  have a' := fo_rg hg h'
  have b : t = t' := by unfold ar at e; omega
  subst b
  exact ⟨rfl, ar_inj _ p k p' k' h h' e⟩
def EDG (g : GT) (N : Nat → Prop) (F : Nat → Nat → Prop) (t : Nat) (J : Nat → Nat → Int) (p k : Nat) : Prop := rst g t J p k 9 → k < Gl (gX g) p → ∀ t' : Nat, Sm (FIN g N F true) t (zix (Gs (gX g) p k)) = (t' : Int) → ∀ y, rst g t J p k y → rst g t' J p (k + 1) y
section SP_
variable {u : Nat} {n : Nat} {L : Nat → Nat → Int} {g : GT} {N : Nat → Prop} {F : Nat → Nat → Prop}
theorem fin_go (hg : GR g) (hb : Sb (FIN g N F true) = false) {s : Nat} (hs : s < Sn (FIN g N F true)) {p k : Nat} (h : CL g N F (SK (FIN g N F true) s) p k 9) (hk : k < Gl (gX g) p) : ∃ t : Nat, Sm (FIN g N F true) s (zix (Gs (gX g) p k)) = (t : Int) ∧ t < Sn (FIN g N F true) ∧ SK (FIN g N F true) t p (k + 1) 9 := by
  have hP := PB_bfi (N := N) (F := F) (b := true) hg 1920
  have hx := zix_lt (gX_sr hg hk)
  have hA : adv true g (CL g N F (SK (bfi g N F true 1920) s)) (zix (Gs (gX g) p k)) p (k + 1) 9 := ⟨fun _ => rfl, k, rfl, gX_pv hg hk, hk, rfl, h, h⟩
  have hs80 : s < 80 := Nat.lt_of_lt_of_le hs hP.2.1
  rcases hP.2.2.2.2.2.2.1 hb s (zix (Gs (gX g) p k)) hs hx (by omega) with ⟨-, w⟩ | ⟨t, w1, w2, w3, -⟩
  · exact absurd ⟨p, k + 1, hA⟩ w
  · exact ⟨t, w1, w2, by show SK (bfi g N F true 1920) t p (k + 1) 9; rw [w3]; exact hA⟩
/-- an item handed on -/
theorem wid_sp (hg : GR g) (hb : Sb (FIN g N F true) = false) {J : Nat → Nat → Int} (h : RVM g N F J) {t t' p k : Nat} (ht : t < Sn (FIN g N F true)) (ht' : t' < Sn (FIN g N F true)) (hk : k < Gl (gX g) p) (h9 : rst g t J p k 9) (hm : Sm (FIN g N F true) t (zix (Gs (gX g) p k)) = (t' : Int)) {c : Int} (hc : c = gi_or (J 183 (ar g (146 * t') p (k + 1))) (J 183 (ar g (146 * t) p k))) :
    RVM g N F (gx_u J 183 (ar g (146 * t') p (k + 1)) c) ∧ (∀ s, s < Sn (FIN g N F true) → sAS (rst g s J) (rst g s (gx_u J 183 (ar g (146 * t') p (k + 1)) c))) ∧
    ((c = J 183 (ar g (146 * t') p (k + 1)) ∧ EDG g N F t J p k) ∨ (c ≠ J 183 (ar g (146 * t') p (k + 1)) ∧ mT g (Sn (FIN g N F true)) J < mT g (Sn (FIN g N F true)) (gx_u J 183 (ar g (146 * t') p (k + 1)) c))) := by
  obtain ⟨h1, h2, h3⟩ := h
  have hv : vI g p k := h9.1
  have hv1 : vI g p (k + 1) := ⟨hv.1, hk⟩
  have hx := zix_lt (gX_sr hg hk)
  have hval : ∀ s p' k', vI g p' k' → gx_u J 183 (ar g (146 * t') p (k + 1)) c 183 (ar g (146 * s) p' k') = if s = t' ∧ p' = p ∧ k' = k + 1 then c else J 183 (ar g (146 * s) p' k') := fun s p' k' hv' => by
    by_cases e : s = t' ∧ p' = p ∧ k' = k + 1
    · rw [if_pos e, e.1, e.2.1, e.2.2, gu_at_eq rfl]
    · rw [if_neg e, gu_at_ne (fun z => e (ar_st hg hv' hv1 z))]
  have hto : ∀ s p' k' y, rst g s (gx_u J 183 (ar g (146 * t') p (k + 1)) c) p' k' y ↔ rst g s J p' k' y ∨ (s = t' ∧ p' = p ∧ k' = k + 1 ∧ rst g t J p k y) := fun s p' k' y => by
    unfold rst SR
    constructor
    · rintro ⟨z1, z2⟩
      rw [hval s p' k' z1] at z2
      split at z2
      · next e =>
        rw [hc, bt_or, Bool.or_eq_true] at z2
        rcases z2 with z2 | z2
        · left; rw [e.1, e.2.1, e.2.2]; exact ⟨hv1, z2⟩
        · right; exact ⟨e.1, e.2.1, e.2.2, hv, z2⟩
      · exact Or.inl ⟨z1, z2⟩
    · rintro (⟨z1, z2⟩ | ⟨e1, e2, e3, z1, z2⟩)
      · refine ⟨z1, ?_⟩
        rw [hval s p' k' z1]; split
        · next e => rw [hc, bt_or, Bool.or_eq_true, ← e.1, ← e.2.1, ← e.2.2]; exact Or.inl z2
        · exact z2
      · rw [e2, e3]
        refine ⟨hv1, ?_⟩
        rw [hval s p (k + 1) hv1, if_pos ⟨e1, rfl, rfl⟩, hc, bt_or, Bool.or_eq_true]; exact Or.inr z2
  have hgr : ∀ s, s < Sn (FIN g N F true) → sAS (rst g s J) (rst g s (gx_u J 183 (ar g (146 * t') p (k + 1)) c)) := fun s _ p' k' y z => (hto s p' k' y).mpr (Or.inl z)
  have hC9 : CL g N F (SK (FIN g N F true) t) p k 9 := ((h1 t ht).2.1 p k).mp h9
  have hT9 : rst g t' J p (k + 1) 9 := by
    obtain ⟨t0, w1, w2, w3⟩ := fin_go hg hb ht hC9 hk
    have : t0 = t' := by rw [hm] at w1; omega
    subst this
    exact ((h1 t0 ht').2.1 _ _).mpr (CL_sub _ _ _ w3)
  refine ⟨⟨fun s hs => ⟨fun p' k' hv' => ?_, fun p' k' => ?_, fun p' k' y z => ?_⟩, (hto 0 24 0 8).mpr (Or.inl h2), fun s x hs hx' => by rw [gu_ne (by decide)]; exact h3 s x hs hx'⟩, hgr, ?_⟩
  · rw [hval s p' k' hv']
    split
    · refine ⟨by rw [hc]; exact bt_ok_or _ _, fun y hy => ?_, Or.inr (by rw [hc, bt_or, Bool.or_eq_true]; exact Or.inl hT9.2)⟩
      rw [hc, bt_or, Bool.or_eq_true] at hy
      rcases hy with hy | hy
      · exact ((h1 t' ht').1 _ _ hv1).2.1 y hy
      · exact ((h1 t ht).1 _ _ hv).2.1 y hy
    · exact (h1 s hs).1 p' k' hv'
  · rw [hto, (h1 s hs).2.1]
    constructor
    · rintro (z | ⟨e1, e2, e3, -⟩)
      · exact z
      · rw [e1, e2, e3]; exact ((h1 t' ht').2.1 _ _).mp hT9
    · exact Or.inl
  · rcases (hto s p' k' y).mp z with z | ⟨e1, e2, e3, z⟩
    · exact (h1 s hs).2.2 p' k' y z
    · rw [e1, e2, e3]
      exact LBm_cl.2.2 t (zix (Gs (gX g) p k)) t' ht hx hm p (k + 1) y ⟨fun w => absurd w (by decide), k, rfl, hv.1, hk, rfl, (h1 t ht).2.2 p k 9 h9, (h1 t ht).2.2 p k y z⟩
  · by_cases e : c = J 183 (ar g (146 * t') p (k + 1))
    · left
      refine ⟨e, fun _ _ t2 hm2 y hy => ?_⟩
      have e2 : t2 = t' := by rw [hm] at hm2; omega
      rw [e2]
      refine ⟨hv1, ?_⟩
      rw [← e, hc, bt_or, Bool.or_eq_true]; exact Or.inr hy.2
    · right
      refine ⟨e, ?_⟩
      have hok := ((h1 t' ht').1 _ _ hv1).1
      have hne := mt (bt_or_left hok).mpr (by rw [← hc]; exact e)
      have : ∃ y, y < 32 ∧ bt (J 183 (ar g (146 * t) p k)) y = true ∧ bt (J 183 (ar g (146 * t') p (k + 1))) y = false := by
        apply Classical.byContradiction
        intro hno
        refine hne (fun y hy z => ?_)
        cases q : bt (J 183 (ar g (146 * t') p (k + 1))) y with
        | true => rfl
        | false => exact absurd ⟨y, hy, z, q⟩ hno
      obtain ⟨y, y1, y2, y3⟩ := this
      refine mT_lt hg hgr ht' (y := y) ((hto t' p (k + 1) y).mpr (Or.inr ⟨rfl, rfl, rfl, hv, y2⟩)) y1 (fun z => ?_)
      have := z.2
      rw [y3] at this; exact absurd this (by decide)
end SP_
