/-! ===== the reference: spreads ===== -/
section SQ_
variable {u : Nat} {n : Nat} {L : Nat → Nat → Int} {g : GT} {N : Nat → Prop} {F : Nat → Nat → Prop}
theorem fin_rg (hg : GR g) (hb : Sb (FIN g N F true) = false) {s x : Nat} (hs : s < Sn (FIN g N F true)) (hx : x < 24) : -1 ≤ Sm (FIN g N F true) s x ∧ Sm (FIN g N F true) s x < 80 := by
  have hP := PB_bfi (N := N) (F := F) (b := true) hg 1920
  have hs80 : s < 80 := Nat.lt_of_lt_of_le hs hP.2.1
  have h80 : Sn (FIN g N F true) ≤ 80 := hP.2.1
  rcases hP.2.2.2.2.2.2.1 hb s x hs hx (by omega) with ⟨w, -⟩ | ⟨t, w1, w2, -⟩
  · have e : Sm (FIN g N F true) s x = -1 := w
    omega
  · have e : Sm (FIN g N F true) s x = (t : Int) := w1
    have e2 : t < Sn (FIN g N F true) := w2
    omega
def pz (g : GT) (q : Nat) : Nat := if q = Gn g then 24 else q
theorem pz_v {g : GT} {q : Nat} (h : q ≤ Gn g) : pv g (pz g q) := by
  unfold pz; split
  · exact Or.inr rfl
  · exact Or.inl (by omega)
theorem pz_s {g : GT} (hg : GR g) {p : Nat} (h : pv g p) : ∃ q, q ≤ Gn g ∧ pz g q = p := by
  by_cases e : p = 24
  · exact ⟨Gn g, Nat.le_refl _, by rw [e]; exact if_pos rfl⟩
  · have hp : p < Gn g := h.elim id (fun z => absurd z e)
    exact ⟨p, by omega, if_neg (by omega)⟩
end SQ_
