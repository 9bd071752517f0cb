/-! ===== calls: what is used, the shortest sentence ===== -/
def US (g : GT) (x : Int) : Prop := gi_ok x ∧ (∀ i, bt x i = true → i < 16) ∧ bt x (Gt g) = true ∧ ∀ R', cl3 g R' → ∀ i, bt x i = true → R' i
def Ule (x y : Int) : Prop := ∀ i, bt x i = true → bt y i = true
def UC (g : GT) (x : Int) (p k : Nat) : Prop := bt x (Go g p) = true → ∀ j, k ≤ j → j < Gl g p → 16 ≤ Gs g p j → bt x (Gs g p j - 16) = true
theorem Ule.rf {x : Int} : Ule x x := fun _ h => h
theorem Ule.tr {x y z : Int} (h : Ule x y) (h2 : Ule y z) : Ule x z := fun i q => h2 i (h i q)
theorem Ule.anti {x y : Int} (hx : gi_ok x) (hy : gi_ok y) (h : Ule x y) (h2 : Ule y x) : x = y := bt_ext hx hy (fun i _ => by
  cases b1 : bt x i with
  | true => exact (h i b1).symm
  | false =>
    cases b2 : bt y i with
    | true => rw [h2 i b2] at b1; exact absurd b1 (by decide)
    | false => rfl)
theorem us_or0 {g : GT} {x : Int} (h : US g x) : gi_or x 0 = x := bt_ext (bt_ok_or _ _) h.1 (fun i _ => by rw [bt_or, bt_zero, Bool.or_false])
theorem us_wr {g : GT} {x : Int} (hg : GR g) (h : US g x) {p k : Nat} (hp1 : p < Gn g) (hk : k < Gl g p) (hs : 16 ≤ Gs g p k) (ho : bt x (Go g p) = true) : US g (gi_or x (gi_shl 1 ((Gs g p k : Int) - 16))) ∧ Ule x (gi_or x (gi_shl 1 ((Gs g p k : Int) - 16))) ∧ bt (gi_or x (gi_shl 1 ((Gs g p k : Int) - 16))) (Gs g p k - 16) = true := by
  have hs2 := hg.2.2.2.2.2 p k hk
  have e : (Gs g p k : Int) - 16 = ((Gs g p k - 16 : Nat) : Int) := by omega
  have hb : ∀ i, bt (gi_or x (gi_shl 1 ((Gs g p k : Int) - 16))) i = (bt x i || decide (i = Gs g p k - 16)) := fun i => by rw [bt_or, e, bt_shl1 (by omega)]
  refine ⟨⟨bt_ok_or _ _, fun i hi => ?_, ?_, fun R' hR i hi => ?_⟩, fun i hi => ?_, ?_⟩
  · rw [hb, Bool.or_eq_true] at hi
    rcases hi with hi | hi
    · exact h.2.1 i hi
    · have := of_decide_eq_true hi; omega
  · rw [hb, h.2.2.1, Bool.true_or]
  · rw [hb, Bool.or_eq_true] at hi
    rcases hi with hi | hi
    · exact h.2.2.2 R' hR i hi
    · rw [of_decide_eq_true hi]; exact hR.2 p hp1 (h.2.2.2 R' hR _ ho) k hk hs
  · rw [hb, hi, Bool.true_or]
  · rw [hb, decide_eq_true rfl, Bool.or_true]
