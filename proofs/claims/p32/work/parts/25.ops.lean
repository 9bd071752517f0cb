/-! ===== what the methods are, as functions: partial operations on the abstract heap; and how a function's value is taken apart ===== -/
def gx_gI (h : gx_H) (b ci k : Nat) : Option Int32 := if b < gx_sz h ∧ gx_S h b = (0, ci) then some (gx_I h b k) else none
def gx_gR (h : gx_H) (b ci k : Nat) : Option Nat := if b < gx_sz h ∧ gx_S h b = (0, ci) then gx_R h b k else none
def gx_pI (h : gx_H) (b ci k : Nat) (x : Int32) : Option gx_H := if b < gx_sz h ∧ gx_S h b = (0, ci) then some (gx_wI h b k x) else none
def gx_pZ (h : gx_H) (b ci k : Nat) (x : Int32) : Option gx_H := if (b < gx_sz h ∧ gx_S h b = (0, ci)) ∧ (x = 0 ∨ x = 1) then some (gx_wI h b k x) else none
def gx_pR (h : gx_H) (b ci k t : Nat) : Option gx_H := if b < gx_sz h ∧ gx_S h b = (0, ci) then some (gx_wR h b k (some t)) else none
def gx_ia (h : gx_H) (kd a : Nat) (i : Int32) : Prop := a < gx_sz h ∧ (gx_S h a).1 = kd ∧ ¬ (i < 0 ∨ (gx_S h a).2 ≤ i.toNatClampNeg)
def gx_aI (h : gx_H) (kd a : Nat) (i : Int32) : Option Int32 := if a < gx_sz h ∧ (gx_S h a).1 = kd ∧ ¬ (i < 0 ∨ (gx_S h a).2 ≤ i.toNatClampNeg) then some (gx_I h a i.toNatClampNeg) else none
def gx_aL (h : gx_H) (a : Nat) (i : Int32) : Option Int64 := if a < gx_sz h ∧ (gx_S h a).1 = 2 ∧ ¬ (i < 0 ∨ (gx_S h a).2 ≤ i.toNatClampNeg) then some (gx_L h a i.toNatClampNeg) else none
def gx_aR (h : gx_H) (a : Nat) (i : Int32) : Option (Option Nat) := if a < gx_sz h ∧ (gx_S h a).1 = 5 ∧ ¬ (i < 0 ∨ (gx_S h a).2 ≤ i.toNatClampNeg) then some (gx_R h a i.toNatClampNeg) else none
def gx_s1 (h : gx_H) (a : Nat) (i x : Int32) : Option gx_H := if a < gx_sz h ∧ (gx_S h a).1 = 1 ∧ ¬ (i < 0 ∨ (gx_S h a).2 ≤ i.toNatClampNeg) then some (gx_wI h a i.toNatClampNeg x) else none
def gx_s2 (h : gx_H) (a : Nat) (i : Int32) (x : Int64) : Option gx_H := if a < gx_sz h ∧ (gx_S h a).1 = 2 ∧ ¬ (i < 0 ∨ (gx_S h a).2 ≤ i.toNatClampNeg) then some (gx_wL h a i.toNatClampNeg x) else none
def gx_s3 (h : gx_H) (a : Nat) (i x : Int32) : Option gx_H := if a < gx_sz h ∧ (gx_S h a).1 = 3 ∧ ¬ (i < 0 ∨ (gx_S h a).2 ≤ i.toNatClampNeg) then some (gx_wI h a i.toNatClampNeg (vp_nar .char x)) else none
def gx_s4 (h : gx_H) (a : Nat) (i x : Int32) : Option gx_H := if a < gx_sz h ∧ (gx_S h a).1 = 4 ∧ ¬ (i < 0 ∨ (gx_S h a).2 ≤ i.toNatClampNeg) then some (gx_wI h a i.toNatClampNeg (vp_nar .boolean x)) else none
def gx_s5 (h : gx_H) (a : Nat) (i : Int32) (t : Nat) : Option gx_H := if (a < gx_sz h ∧ (gx_S h a).1 = 5 ∧ ¬ (i < 0 ∨ (gx_S h a).2 ≤ i.toNatClampNeg)) ∧ t < gx_sz h ∧ gx_S h t = (0, 7) then some (gx_wR h a i.toNatClampNeg (some t)) else none
def gx_ln (h : gx_H) (a : Nat) : Option Int32 := if a < gx_sz h ∧ 1 ≤ (gx_S h a).1 ∧ (gx_S h a).1 ≤ 5 then some (nI (gx_S h a).2) else none
def gx_is (h : gx_H) (b ci : Nat) : Option Unit := if b < gx_sz h ∧ gx_S h b = (0, ci) then some () else none
def gx_nz (y : Int32) : Option Unit := if y = 0 then none else some ()
def gx_zo (x : Int32) : Option Unit := if x = 0 ∨ x = 1 then some () else none
def gx_mk (h : gx_H) : Option Unit := if gx_sz h < 100000 then some () else none
def gx_nm {α β : Type} (a : α) (k : α → Option β) : Option β := k a
theorem gx_bE {α β : Type} {a : Option α} {k : α → Option β} {r : β} {P : Prop} (e : Option.bind a k = some r) (f : ∀ x, a = some x → k x = some r → P) : P := by
  cases a with
  | none => cases e
  | some x => exact f x rfl e
theorem gx_iE {β : Type} {c : Prop} [Decidable c] {A B : Option β} {r : β} {P : Prop} (e : (if c then A else B) = some r) (f : c → A = some r → P) (g : ¬ c → B = some r → P) : P := by
  by_cases h : c
  · rw [if_pos h] at e; exact f h e
  · rw [if_neg h] at e; exact g h e
theorem gx_nE {α β : Type} {a : α} {k : α → Option β} {r : β} {P : Prop} (e : gx_nm a k = some r) (f : ∀ x, a = x → k x = some r → P) : P := f a rfl e
theorem gx_0E {β : Type} {r : β} {P : Prop} (e : (none : Option β) = some r) : P := by cases e
theorem gx_if1 {α : Type} {c : Prop} [Decidable c] {a x : α} (e : (if c then some a else none) = some x) : c ∧ a = x := by
  by_cases h : c
  · rw [if_pos h] at e; exact ⟨h, Option.some.inj e⟩
  · rw [if_neg h] at e; cases e
theorem gx_if2 {α : Type} {c : Prop} [Decidable c] {a : Option α} {x : α} (e : (if c then a else none) = some x) : c ∧ a = some x := by
  by_cases h : c
  · rw [if_pos h] at e; exact ⟨h, e⟩
  · rw [if_neg h] at e; cases e
theorem gx_eqI {M : gx_M} {al af : Bool} {kc ks pc : Nat} {ls : List (Nat × Value)} {st : List Value} {h : gx_H} {o : gx_O} {h1 : gx_H} {a b : Int32} (e : a = b) (k : gx_Z M al af kc ks pc ls (.int b :: st) h o h1) : gx_Z M al af kc ks pc ls (.int a :: st) h o h1 := by rw [e]; exact k
theorem gx_eqL {M : gx_M} {al af : Bool} {kc ks pc : Nat} {ls : List (Nat × Value)} {st : List Value} {h : gx_H} {o : gx_O} {h1 : gx_H} {a b : Int64} (e : a = b) (k : gx_Z M al af kc ks pc ls (.long b :: st) h o h1) : gx_Z M al af kc ks pc ls (.long a :: st) h o h1 := by rw [e]; exact k
theorem gx_eqV {M : gx_M} {al af : Bool} {kc ks pc : Nat} {ls : List (Nat × Value)} {st : List Value} {h : gx_H} {o : gx_O} {h1 : gx_H} {a b : Value} (e : a = b) (k : gx_Z M al af kc ks pc ls (b :: st) h o h1) : gx_Z M al af kc ks pc ls (a :: st) h o h1 := by rw [e]; exact k
theorem gx_kup {M : gx_M} {al af : Bool} {kc ks pc : Nat} {ls : List (Nat × Value)} {st : List Value} {h : gx_H} {o : gx_O} {h1 : gx_H} {kc2 ks2 : Nat} (a : kc ≤ kc2) (b : ks ≤ ks2) (k : gx_Z M al af kc2 ks2 pc ls st h o h1) : gx_Z M al af kc ks pc ls st h o h1 := fun p l e s m args below meth c H locs la D adr K sz0 C hl hR => W.widen a b (k p l e s m args below meth c H locs la D adr K sz0 C hl hR)
section OPS
variable {M : gx_M} {al af : Bool} {kc ks pc : Nat} {ls : List (Nat × Value)} {st : List Value} {h : gx_H} {o : gx_O} {h1 : gx_H}
theorem gx_fI {b ci k idx : Nat} {x : Int32} (e : gx_gI h b ci k = some x) (hd : decode (gx_b M) pc = .ok (.getfield idx, 3)) (hw : gx_fl0 (gx_y M).cls idx ci k ∈ gx_tb) (hci : ci < 10) (hkN : k < (gx_c ci).2.2) (hr : gx_isR (gx_ft ci k) = false) (kk : gx_Z M al af kc ks (pc + 3) ls (.int x :: st) h o h1) : gx_Z M al af kc ks pc ls (.ref b :: st) h o h1 := by
  obtain ⟨a, rfl⟩ := gx_if1 e
  exact gx_getI hd hw hci hkN hr a kk
theorem gx_fR {b ci k idx t : Nat} (e : gx_gR h b ci k = some t) (hd : decode (gx_b M) pc = .ok (.getfield idx, 3)) (hw : gx_fl0 (gx_y M).cls idx ci k ∈ gx_tb) (hci : ci < 10) (hkN : k < (gx_c ci).2.2) (hr : gx_isR (gx_ft ci k) = true) (kk : gx_Z M al af kc ks (pc + 3) ls (.ref t :: st) h o h1) : gx_Z M al af kc ks pc ls (.ref b :: st) h o h1 := by
  obtain ⟨a, a2⟩ := gx_if2 e
  exact gx_getR hd hw hci hkN hr a a2 kk
def gx_fin (M : gx_M) (ci k : Nat) : Prop := ((gx_c ci).2.1 k).2.2.2 = false ∨ (((gx_c ci).2.1 k).2.2.2 = true ∧ (gx_y M).name = "<init>" ∧ ((gx_c ci).2.1 k).1 = (gx_y M).cls)
theorem gx_qI {b ci k idx : Nat} {x : Int32} {h2 : gx_H} (e : gx_pI h b ci k x = some h2) (hd : decode (gx_b M) pc = .ok (.putfield idx, 3)) (hw : gx_fl0 (gx_y M).cls idx ci k ∈ gx_tb) (hci : ci < 10) (hkN : k < (gx_c ci).2.2) (hr : gx_ft ci k = .int) (hfin : gx_fin M ci k) (kk : gx_Z M al af kc ks (pc + 3) ls st h2 o h1) : gx_Z M al af kc ks pc ls (.int x :: .ref b :: st) h o h1 := by
  obtain ⟨a, rfl⟩ := gx_if1 e
  exact gx_putI hd hw hci hkN (by rw [hr]; rfl) hfin (by rw [hr]; exact ⟨rfl, rfl⟩) a kk
theorem gx_qZ {b ci k idx : Nat} {x : Int32} {h2 : gx_H} (e : gx_pZ h b ci k x = some h2) (hd : decode (gx_b M) pc = .ok (.putfield idx, 3)) (hw : gx_fl0 (gx_y M).cls idx ci k ∈ gx_tb) (hci : ci < 10) (hkN : k < (gx_c ci).2.2) (hr : gx_ft ci k = .boolean) (hfin : gx_fin M ci k) (kk : gx_Z M al af kc ks (pc + 3) ls st h2 o h1) : gx_Z M al af kc ks pc ls (.int x :: .ref b :: st) h o h1 := by
  obtain ⟨⟨a, a2⟩, rfl⟩ := gx_if1 e
  exact gx_putI hd hw hci hkN (by rw [hr]; rfl) hfin (by rw [hr]; rcases a2 with rfl | rfl <;> exact ⟨rfl, rfl⟩) a kk
theorem gx_qR {b ci k idx t : Nat} {h2 : gx_H} (e : gx_pR h b ci k t = some h2) (hd : decode (gx_b M) pc = .ok (.putfield idx, 3)) (hw : gx_fl0 (gx_y M).cls idx ci k ∈ gx_tb) (hci : ci < 10) (hkN : k < (gx_c ci).2.2) (hr : gx_isR (gx_ft ci k) = true) (hfin : gx_fin M ci k) (kk : gx_Z M al af kc ks (pc + 3) ls st h2 o h1) : gx_Z M al af kc ks pc ls (.ref t :: .ref b :: st) h o h1 := by
  obtain ⟨a, rfl⟩ := gx_if1 e
  exact gx_putR hd hw hci hkN hr hfin a kk
theorem gx_pr {α β : Type} {p : α × β} {a : α} (h : p.1 = a) : p = (a, p.2) := by cases p; cases h; rfl
theorem gx_l1 {a : Nat} {i x : Int32} (e : gx_aI h 1 a i = some x) (hd : decode (gx_b M) pc = .ok (.iaload, 1)) (kk : gx_Z M al af kc ks (pc + 1) ls (.int x :: st) h o h1) : gx_Z M al af kc ks pc ls (.int i :: .ref a :: st) h o h1 := by
  obtain ⟨⟨a1, a2, a3⟩, rfl⟩ := gx_if1 e
  exact gx_ald1 hd ⟨a1, gx_pr a2⟩ a3 kk
theorem gx_l3 {a : Nat} {i x : Int32} (e : gx_aI h 3 a i = some x) (hd : decode (gx_b M) pc = .ok (.caload, 1)) (kk : gx_Z M al af kc ks (pc + 1) ls (.int x :: st) h o h1) : gx_Z M al af kc ks pc ls (.int i :: .ref a :: st) h o h1 := by
  obtain ⟨⟨a1, a2, a3⟩, rfl⟩ := gx_if1 e
  exact gx_ald3 hd ⟨a1, gx_pr a2⟩ a3 kk
theorem gx_l4 {a : Nat} {i x : Int32} (e : gx_aI h 4 a i = some x) (hd : decode (gx_b M) pc = .ok (.baload, 1)) (kk : gx_Z M al af kc ks (pc + 1) ls (.int x :: st) h o h1) : gx_Z M al af kc ks pc ls (.int i :: .ref a :: st) h o h1 := by
  obtain ⟨⟨a1, a2, a3⟩, rfl⟩ := gx_if1 e
  exact gx_ald4 hd ⟨a1, gx_pr a2⟩ a3 kk
theorem gx_l2 {a : Nat} {i : Int32} {x : Int64} (e : gx_aL h a i = some x) (hd : decode (gx_b M) pc = .ok (.laload, 1)) (kk : gx_Z M al af kc ks (pc + 1) ls (.long x :: st) h o h1) : gx_Z M al af kc ks pc ls (.int i :: .ref a :: st) h o h1 := by
  obtain ⟨⟨a1, a2, a3⟩, rfl⟩ := gx_if1 e
  exact gx_ald2 hd ⟨a1, gx_pr a2⟩ a3 kk
theorem gx_l5 {a : Nat} {i : Int32} {x : Option Nat} (e : gx_aR h a i = some x) (hd : decode (gx_b M) pc = .ok (.aaload, 1)) (kk : gx_Z M al af kc ks (pc + 1) ls (va_rf x :: st) h o h1) : gx_Z M al af kc ks pc ls (.int i :: .ref a :: st) h o h1 := by
  obtain ⟨⟨a1, a2, a3⟩, rfl⟩ := gx_if1 e
  exact gx_ald5 hd ⟨a1, gx_pr a2⟩ a3 kk
theorem gx_t1 {a : Nat} {i x : Int32} {h2 : gx_H} (e : gx_s1 h a i x = some h2) (hd : decode (gx_b M) pc = .ok (.iastore, 1)) (kk : gx_Z M al af kc ks (pc + 1) ls st h2 o h1) : gx_Z M al af kc ks pc ls (.int x :: .int i :: .ref a :: st) h o h1 := by
  obtain ⟨⟨a1, a2, a3⟩, rfl⟩ := gx_if1 e
  exact gx_ast1 hd ⟨a1, gx_pr a2⟩ a3 kk
theorem gx_t2 {a : Nat} {i : Int32} {x : Int64} {h2 : gx_H} (e : gx_s2 h a i x = some h2) (hd : decode (gx_b M) pc = .ok (.lastore, 1)) (kk : gx_Z M al af kc ks (pc + 1) ls st h2 o h1) : gx_Z M al af kc ks pc ls (.long x :: .int i :: .ref a :: st) h o h1 := by
  obtain ⟨⟨a1, a2, a3⟩, rfl⟩ := gx_if1 e
  exact gx_ast2 hd ⟨a1, gx_pr a2⟩ a3 kk
theorem gx_t3 {a : Nat} {i x : Int32} {h2 : gx_H} (e : gx_s3 h a i x = some h2) (hd : decode (gx_b M) pc = .ok (.castore, 1)) (kk : gx_Z M al af kc ks (pc + 1) ls st h2 o h1) : gx_Z M al af kc ks pc ls (.int x :: .int i :: .ref a :: st) h o h1 := by
  obtain ⟨⟨a1, a2, a3⟩, rfl⟩ := gx_if1 e
  exact gx_ast3 hd ⟨a1, gx_pr a2⟩ a3 kk
theorem gx_t4 {a : Nat} {i x : Int32} {h2 : gx_H} (e : gx_s4 h a i x = some h2) (hd : decode (gx_b M) pc = .ok (.bastore, 1)) (kk : gx_Z M al af kc ks (pc + 1) ls st h2 o h1) : gx_Z M al af kc ks pc ls (.int x :: .int i :: .ref a :: st) h o h1 := by
  obtain ⟨⟨a1, a2, a3⟩, rfl⟩ := gx_if1 e
  exact gx_ast4 hd ⟨a1, gx_pr a2⟩ a3 kk
theorem gx_t5 {a t : Nat} {i : Int32} {h2 : gx_H} (e : gx_s5 h a i t = some h2) (hd : decode (gx_b M) pc = .ok (.aastore, 1)) (kk : gx_Z M al af kc ks (pc + 1) ls st h2 o h1) : gx_Z M al af kc ks pc ls (.ref t :: .int i :: .ref a :: st) h o h1 := by
  obtain ⟨⟨⟨a1, a2, a3⟩, a4⟩, rfl⟩ := gx_if1 e
  exact gx_ast5 hd ⟨a1, gx_pr a2⟩ a3 a4 kk
theorem gx_al0 {a : Nat} {x : Int32} (e : gx_ln h a = some x) (hd : decode (gx_b M) pc = .ok (.arraylength, 1)) (kk : gx_Z M al af kc ks (pc + 1) ls (.int x :: st) h o h1) : gx_Z M al af kc ks pc ls (.ref a :: st) h o h1 := by
  obtain ⟨⟨a1, a2⟩, rfl⟩ := gx_if1 e
  exact gx_alen hd a2 ⟨a1, rfl⟩ kk
theorem gx_dv {x y : Int32} {u : Unit} (e : gx_nz y = some u) (hd : decode (gx_b M) pc = .ok (.idiv, 1)) (kk : gx_Z M al af kc ks (pc + 1) ls (.int (x / y) :: st) h o h1) : gx_Z M al af kc ks pc ls (.int y :: .int x :: st) h o h1 := by
  refine gx_idiv hd (fun z => ?_) kk
  rw [gx_nz, if_pos z] at e; cases e
theorem gx_rm0 {x y : Int32} {u : Unit} (e : gx_nz y = some u) (hd : decode (gx_b M) pc = .ok (.irem, 1)) (kk : gx_Z M al af kc ks (pc + 1) ls (.int (x - x / y * y) :: st) h o h1) : gx_Z M al af kc ks pc ls (.int y :: .int x :: st) h o h1 := by
  refine gx_irem hd (fun z => ?_) kk
  rw [gx_nz, if_pos z] at e; cases e
theorem gx_isS {b ci : Nat} {u : Unit} (e : gx_is h b ci = some u) : b < gx_sz h ∧ gx_S h b = (0, ci) := (gx_if1 e).1
theorem gx_zoS {x : Int32} {u : Unit} (e : gx_zo x = some u) : x = 0 ∨ x = 1 := (gx_if1 e).1
theorem gx_mkS {u : Unit} (e : gx_mk h = some u) : gx_sz h < 100000 := (gx_if1 e).1
end OPS
