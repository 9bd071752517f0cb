/-! ===== the least sets by name; the reference: states ===== -/
def zN (g : GT) : Nat → Prop := fun a => ∀ N' F', cl1 g N' F' → N' a
def zF (g : GT) : Nat → Nat → Prop := fun a t => ∀ N' F', cl1 g N' F' → F' a t
def zB (g : GT) : Nat → Nat → Prop := fun a t => ∀ B', cl2 g (zN g) (zF g) B' → B' a t
theorem zN_of {g : GT} {N : Nat → Prop} {F : Nat → Nat → Prop} (h : ls1 g N F) : N = zN g ∧ F = zF g :=
  ⟨by funext a; exact propext ⟨fun z N' F' c => (h.2 N' F' c).1 a z, fun z => z N F h.1⟩, by funext a t; exact propext ⟨fun z N' F' c => (h.2 N' F' c).2 a t z, fun z => z N F h.1⟩⟩
theorem zB_of {g : GT} {B : Nat → Nat → Prop} (h : ls2 g (zN g) (zF g) B) : B = zB g := by
  funext a t; exact propext ⟨fun z B' c => h.2 B' c a t z, fun z => z B h.1⟩
theorem zB_of' {g : GT} {N : Nat → Prop} {F B : Nat → Nat → Prop} (h1 : ls1 g N F) (h : ls2 g N F B) : N = zN g ∧ F = zF g ∧ B = zB g := by
  obtain ⟨rfl, rfl⟩ := zN_of h1
  exact ⟨rfl, rfl, zB_of h⟩
noncomputable def zS (g : GT) (b : Bool) : BS := FIN g (zN g) (zF g) b
/-- a state's row, as a set -/
noncomputable def zR (g : GT) (b : Bool) (t : Nat) : AS := if b then LBm g (zN g) (zF g) (zS g b) t else CL g (zN g) (zF g) (SK (zS g b) t)
