/-! ===== the state after a change ===== -/
theorem CST.eq' {u : Nat} {g : GT} {J J' L L' : Nat → Nat → Int} (h : CST u g J L) (w' : GW (gU u) J') (hg' : cG J' (gU u) = g) (e : ∀ a, 64 ≤ a → a ≤ 86 → J' a = J a) (e2 : ∀ a, a ∈ [148, 151, 154] → J' a 2 = J a 2) (eL : L' 69 = L 69) : CST u g J' L' := by
  obtain ⟨-, hF, hm, h1, h2⟩ := h
  refine ⟨⟨w', hg'⟩, ?_, ?_, ?_, ?_⟩
  · rcases hF with z | ⟨z1, z2⟩
    · exact Or.inl (by rw [e 64 (by omega) (by omega)]; exact z)
    · exact Or.inr ⟨by rw [e 64 (by omega) (by omega)]; exact z1, cF_fr (e 65 (by omega) (by omega)) (e 66 (by omega) (by omega)) (e 67 (by omega) (by omega)) (e 68 (by omega) (by omega)) (e 71 (by omega) (by omega)) (e 72 (by omega) (by omega)) (by rw [e 64 (by omega) (by omega)]) (by rw [e 64 (by omega) (by omega)]) (by rw [e 64 (by omega) (by omega)]) eL z2⟩
  · rw [e2 148 (by decide), e2 151 (by decide), e2 154 (by decide), e 73 (by omega) (by omega), e 79 (by omega) (by omega)]; exact hm
  · exact h1.fr (fun k _ => by rw [e (va true) (by decide) (by decide)]) (e _ (by decide) (by decide)) (e _ (by decide) (by decide))
  · exact h2.fr (fun k _ => by rw [e (va false) (by decide) (by decide)]) (e _ (by decide) (by decide)) (e _ (by decide) (by decide))
theorem CG.cst {v : Nat} {J : Nat → Nat → Int} {ps : List (Nat × List Nat)} {rs : List (Nat × List Int)} {tp : Nat} (h : CG v J ps rs) (ht : J v 7 = (tp : Int)) : GW v J ∧ cG J v = gtp ps tp := by
  refine ⟨h.1.1, ?_⟩
  rw [h.1.gt, ht, Int.toNat_natCast]
