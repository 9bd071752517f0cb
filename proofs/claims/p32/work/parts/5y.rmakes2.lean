/-! ===== the reference: makes ===== -/
section RQ_
variable {u : Nat} {n : Nat} {L : Nat → Nat → Int} {g : GT} {N : Nat → Prop} {F : Nat → Nat → Prop} {b : Bool}
theorem ROK_cl {R C : AS} (h : ROK b R C) {x : Nat} : ROK b (CL g N F (adv false g R x)) (CL g N F (adv b g C x)) := by
  refine ⟨fun hb => ?_, fun hb p k => ⟨fun z => CL_9 (fun p k w => (advR h).mpr ⟨fun _ => rfl, w⟩) z, fun z => CL_9 (fun p k w => ((advR h).mp w).2) z⟩⟩
  have : adv false g R x = adv b g C x := by
    funext p k y
    exact propext ⟨fun z => (advR h).mpr ⟨fun w => by rw [hb] at w; exact absurd w (by decide), z⟩, fun z => ((advR h).mp z).2⟩
  rw [this]
end RQ_
