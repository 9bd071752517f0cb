/-! ===== the reference: what the merged states hand on ===== -/
theorem ar_st {g : GT} (hg : GR g) {t t' p k p' k' : Nat} (h : vI g p k) (h' : vI g p' k') (e : ar g (146 * t) p k = ar g (146 * t') p' k') : t = t' ∧ p = p' ∧ k = k' := by
  have a := fo_rg hg h
  have a' := fo_rg hg h'
  have b : t = t' := by unfold ar at e; omega
  subst b
  exact ⟨rfl, ar_inj _ p k p' k' h h' e⟩
section SP_
variable {u : Nat} {n : Nat} {L : Nat → Nat → Int} {g : GT} {N : Nat → Prop} {F : Nat → Nat → Prop}
theorem fin_go (hg : GR g) (hb : Sb (FIN g N F true) = false) {s : Nat} (hs : s < Sn (FIN g N F true)) {p k : Nat} (h : CL g N F (SK (FIN g N F true) s) p k 9) (hk : k < Gl (gX g) p) : ∃ t : Nat, Sm (FIN g N F true) s (zix (Gs (gX g) p k)) = (t : Int) ∧ t < Sn (FIN g N F true) ∧ SK (FIN g N F true) t p (k + 1) 9 := by
  have hP := PB_bfi (N := N) (F := F) (b := true) hg 1920
  have hx := zix_lt (gX_sr hg hk)
  have hA : adv true g (CL g N F (SK (bfi g N F true 1920) s)) (zix (Gs (gX g) p k)) p (k + 1) 9 := ⟨fun _ => rfl, k, rfl, gX_pv hg hk, hk, rfl, h, h⟩
  have hs80 : s < 80 := Nat.lt_of_lt_of_le hs hP.2.1
  rcases hP.2.2.2.2.2.2.1 hb s (zix (Gs (gX g) p k)) hs hx (by omega) with ⟨-, w⟩ | ⟨t, w1, w2, w3, -⟩
  · exact absurd ⟨p, k + 1, hA⟩ w
  · exact ⟨t, w1, w2, by show SK (bfi g N F true 1920) t p (k + 1) 9; rw [w3]; exact hA⟩
end SP_
