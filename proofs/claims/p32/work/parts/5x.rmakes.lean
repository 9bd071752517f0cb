/-! ===== the reference: all states made ===== -/
theorem and1023 {a c : Int} (ha : ∀ t, bt a t = true → t < 10) (hc : ∀ t, bt c t = true → t < 10) : gi_and a 1023 = gi_and c 1023 ↔ ∀ y, bt a y = true ↔ bt c y = true := by
  have e : ∀ {z : Int}, (∀ t, bt z t = true → t < 10) → ∀ y, bt (gi_and z 1023) y = bt z y := fun {z} hz y => by
    rw [bt_and, bt_1023]
    cases h : bt z y with
    | false => rfl
    | true => rw [Bool.true_and, decide_eq_true_eq]; exact hz y h
  constructor
  · intro h y
    rw [← e ha y, ← e hc y, h]
  · intro h
    refine bt_ext (bt_ok_and _ _) (bt_ok_and _ _) (fun y _ => ?_)
    rw [e ha, e hc]
    have := h y
    cases h1 : bt a y <;> cases h2 : bt c y <;> simp_all
theorem and512 {a c : Int} : gi_and a 512 = gi_and c 512 ↔ (bt a 9 = true ↔ bt c 9 = true) := by
  have e : ∀ (z : Int) y, bt (gi_and z 512) y = (bt z y && decide (y = 9)) := fun z y => by rw [bt_and, bt_512]
  constructor
  · intro h
    have h1 := e a 9
    have h2 := e c 9
    rw [h] at h1
    rw [h1] at h2
    simp at h2
    rw [h2]
  · intro h
    refine bt_ext (bt_ok_and _ _) (bt_ok_and _ _) (fun y _ => ?_)
    rw [e, e]
    by_cases hy : y = 9
    · subst hy
      cases h1 : bt a 9 <;> cases h2 : bt c 9 <;> simp_all
    · simp [hy]
section RP_
variable {u : Nat} {n : Nat} {L : Nat → Nat → Int} {g : GT} {N : Nat → Prop} {F : Nat → Nat → Prop} {b : Bool}
def EQt (b : Bool) (R R' : AS) : Prop := ∀ p k y, (b = true → y = 9) → (R p k y ↔ R' p k y)
/-- a kernel and its closure -/
theorem EQ_iff {K C : AS} (hg : GR g) (hK : ∀ p k y, K p k y → (1 ≤ k ∨ (p = 24 ∧ k = 0)) ∧ (b = true → y = 9)) (hC : ∀ p k y, C p k y → 1 ≤ k ∧ (b = true → y = 9)) {R R' : AS} (h1 : ROK b R (CL g N F K)) (h2 : ROK b R' (CL g N F C)) : EQt b R R' ↔ K = C := by
  have hRC : ∀ {R K : AS}, ROK b R (CL g N F K) → ∀ p k y, (b = true → y = 9) → (R p k y ↔ CL g N F K p k y) := fun {R K} h p k y hy => by
    cases b with
    | false => rw [h.1 rfl]
    | true => rw [hy rfl]; exact h.2 rfl p k
  constructor
  · intro h
    have h' : ∀ p k y, (b = true → y = 9) → (CL g N F K p k y ↔ CL g N F C p k y) := fun p k y hy => by rw [← hRC h1 p k y hy, ← hRC h2 p k y hy]; exact h p k y hy
    funext p k y
    apply propext
    constructor
    · intro z
      obtain ⟨z1, z2⟩ := hK p k y z
      have z3 := (h' p k y z2).mp (CL_sub p k y z)
      exact (CL_kern hg (by rcases z1 with w | ⟨w, -⟩ <;> omega)).mp z3
    · intro z
      obtain ⟨z1, z2⟩ := hC p k y z
      have z3 := (h' p k y z2).mpr (CL_sub p k y z)
      exact (CL_kern hg (Or.inl z1)).mp z3
  · intro h p k y hy
    rw [hRC h1 p k y hy, hRC h2 p k y hy, h]
end RP_
