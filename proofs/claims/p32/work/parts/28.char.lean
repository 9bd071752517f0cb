/-! ===== a char that is returned ===== -/
def gi_ch (x : Int) : Option Unit := if 0 ≤ x ∧ x ≤ 65535 then some () else none
theorem gy_cret {M : gx_M} {al af : Bool} {kc ks pc : Nat} {ls : List (Nat × Value)} {h : gx_H} {x : Int} {u : Unit} (e9 : gi_ch x = some u) (hd : decode (gx_b M) pc = .ok (.ireturn, 1)) (hr : gx_r M = some .char) (hcs : kc ≤ (gx_rm M).cells ∧ ks ≤ (gx_rm M).slots) (haf : af = true → al = true) : gx_Z M al af kc ks pc ls [.int (gI x)] h (.inl (some (.int (gI x)))) h := by
  intro p l e s m args below meth c H locs la D adr K sz0 C hl hR
  obtain ⟨⟨a1, a2⟩, -⟩ := gx_if1 e9
  have hn : narrow .char (.int (gI x)) = .int (gI x) := by
    have := gi_narC a1 a2
    unfold vp_nar at this
    show Value.int (((gI x).toUInt32 % 65536).toInt32) = _
    rw [gi_i2c, show x % 65536 = x by omega]
  refine W.widen hcs.1 hcs.2 (vx_ret (W.zret (ty := .char) C.1 C.2.1 (C.2.2.2.2.2.1.trans hr) hn (fun t ht hW => ⟨⟨_, rfl, rfl⟩, ⟨by rw [ht]; exact hR.1, va_K.moved hW.alike hR.2.1, hR.2.2.1, by rw [ht]; exact fun z => hR.2.2.2.2.1 (haf z)⟩, va_S.F hR.2.2.2.1 ht⟩) hR.2.2.2.1.2.2 hd (hlocks := C.2.2.2.2.2.2.1)))
section NULLS
variable {M : gx_M} {al af : Bool} {kc ks pc : Nat} {ls : List (Nat × Value)} {st : List Value} {h : gx_H} {o : gx_O} {h1 : gx_H}
theorem gx_null (hd : decode (gx_b M) pc = .ok (.aconst_null, 1)) (k : gx_Z M al af kc ks (pc + 1) ls (va_rf none :: st) h o h1) : gx_Z M al af kc ks pc ls st h o h1 := gx_lift (fun p l e s m args below meth c H locs la adr Q C hl kk => lv_null C.1 C.2.1 hd (kk la hl)) k
theorem gx_ifnonnull {x : Option Nat} {off : Int} {tgt : Nat} (hd : decode (gx_b M) pc = .ok (.ifnonnull off, 3)) (ht : (pc : Int) + off = (tgt : Int)) (kt : ¬ x = none → gx_Z M al af kc ks tgt ls st h o h1) (kf : x = none → gx_Z M al af kc ks (pc + 3) ls st h o h1) : gx_Z M al af kc ks pc ls (va_rf x :: st) h o h1 := by
  cases x with
  | none => exact gx_lift (fun p l e s m args below meth c H locs la adr Q C hl kk => lv_ifnonnullN C.1 C.2.1 hd (kk la hl)) (kf rfl)
  | some y => exact gx_lift (fun p l e s m args below meth c H locs la adr Q C hl kk => lv_ifnonnull C.1 C.2.1 hd ht (kk la hl)) (kt (by simp))
end NULLS
