/-! ===== Math.min ===== -/
def gi_min (x y : Int) : Int := if y < x then y else x
theorem gw_min : Cond.code Lib.Math.min.name Lib.Math.min.code 2 (some .int) ∈ gx_tb := gx_ok (List.mem_of_getElem? (i := 488) (by decide +kernel)) (by decide +kernel)
theorem gw_min2 : Cond.static Lib.Math.min.name ∈ gx_tb := gx_ok (by decide +kernel) (by decide +kernel)
theorem gw_min3 : Cond.initialized "java/lang/Math" ∈ gx_tb := gx_ok (by decide +kernel) (by decide +kernel)
theorem gi_minE {x y : Int} (hx : gi_ok x) (hy : gi_ok y) : (if gI y < gI x then gI y else gI x) = gI (gi_min x y) := by
  unfold gi_min
  by_cases h : y < x
  · rw [if_pos h, if_pos ((gI_lt hy hx).mpr h)]
  · rw [if_neg h, if_neg (fun q => h ((gI_lt hy hx).mp q))]
theorem gy_mmin {M : gx_M} {al af : Bool} {kc ks pc : Nat} {ls : List (Nat × Value)} {st : List Value} {h : gx_H} {o : gx_O} {h1 : gx_H} {idx : Nat} {x y : Int} (hx : gi_ok x) (hy : gi_ok y) (hd : decode (gx_b M) pc = .ok (.invokestatic idx, 3)) (hw1 : Cond.methodLink (gx_y M).cls idx Lib.Math.min.name ∈ gx_tb) (hf : 1 ≤ (gx_rm M).frames) (hlo : (st.map fun v => v.category).sum + 13 ≤ (gx_rm M).locals) (hcs : kc ≤ (gx_rm M).cells ∧ ks ≤ (gx_rm M).slots) (k : gx_Z M al af kc ks (pc + 3) ls (.int (gI (gi_min x y)) :: st) h o h1) : gx_Z M al af kc ks pc ls (.int (gI y) :: .int (gI x) :: st) h o h1 := by
  refine gx_lift (fun p l e s m args below meth c H locs la adr Q C hl kk => ?_) k
  have wd : ∀ w, w ∈ gx_tb → w.before args s = true := fun w hw => C.2.2.2.2.1 w (List.mem_cons_of_mem _ hw)
  have k2 := kk la hl
  rw [← gi_minE hx hy] at k2
  exact va_mmin C.1 C.2.1 (by rw [C.2.2.1]; exact hl.1.symm) C.2.2.2.1 (wd _ hw1) (wd _ gw_min2) (wd _ gw_min3) (wd _ gw_min) hf (by rw [gx_cats]; exact hlo) hcs.1 hcs.2 hd k2
