/-! ===== calls: a rule is entered ===== -/
theorem vld_of {t : List Int} {J : Nat → Nat → Int} (hT : TL 1 J t) : tf (J (1 + 1)) (J 1 1).toNat (J 1 1).toNat 0 0 0 = -1 ↔ vld t := by
  unfold vld
  rw [hT.1, Int.toNat_natCast]
  have e : tf (J (1 + 1)) t.length t.length 0 0 0 = tf (tl t) t.length t.length 0 0 0 := tf_congr _ _ _ _ (fun j _ hj => hT.2.1 j (by omega))
  rw [e]
