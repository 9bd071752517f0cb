/-! ===== the reference takes productions ===== -/
/-- nothing has changed but the grammar w, the row -/
def FQ (w : Nat) (J K : Nat → Nat → Int) : Prop := Fr [162, 163, 164, 165, 174, 161] J K ∧ (∀ k, k ≠ 15 → K 161 k = J 161 k) ∧ (∀ k, k ≠ w → K 165 k = J 165 k) ∧ (∀ k, k < 24 * w ∨ 24 * w + 24 ≤ k → K 162 k = J 162 k ∧ K 163 k = J 163 k) ∧ ∀ k, k < 120 * w ∨ 120 * w + 120 ≤ k → K 164 k = J 164 k
theorem FQ.rf {w : Nat} {J : Nat → Nat → Int} : FQ w J J := ⟨Fr.rf, fun _ _ => rfl, fun _ _ => rfl, fun _ _ => ⟨rfl, rfl⟩, fun _ _ => rfl⟩
theorem FQ.tr {w : Nat} {I J K : Nat → Nat → Int} (h : FQ w I J) (q : FQ w J K) : FQ w I K := ⟨h.1.tr q.1, fun k hk => (q.2.1 k hk).trans (h.2.1 k hk), fun k hk => (q.2.2.1 k hk).trans (h.2.2.1 k hk), fun k hk => ⟨(q.2.2.2.1 k hk).1.trans (h.2.2.2.1 k hk).1, (q.2.2.2.1 k hk).2.trans (h.2.2.2.1 k hk).2⟩, fun k hk => (q.2.2.2.2 k hk).trans (h.2.2.2.2 k hk)⟩
