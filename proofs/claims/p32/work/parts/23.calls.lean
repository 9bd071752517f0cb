/-! ===== makings ===== -/
theorem gx_nw_S {h : gx_H} {sh : Nat × Nat} : gx_S (gx_nw h sh) (gx_sz h) = sh := by simp [gx_S, gx_nw, gx_sz]
theorem gx_w_nw {adr : Nat → Nat} {K : Nat → ClassId} {h : gx_H} {sh : Nat × Nat} : gx_w adr K (gx_nw h sh) = gx_w adr K h ++ [(adr (gx_sz h), gx_cell adr K (gx_nw h sh) (gx_sz h))] := by
  show (List.range (h.1 + 1)).map _ = (List.range h.1).map _ ++ _
  rw [List.range_succ, List.map_append]
  congr 1
  apply List.map_congr_left
  intro j hj
  have hj : j ≠ h.1 := Nat.ne_of_lt (List.mem_range.mp hj)
  congr 1
  exact gx_cell_ext (by simp [gx_S, gx_nw, hj]) (by simp [gx_I, gx_nw, hj]) (by simp [gx_L, gx_nw, hj]) (by simp [gx_R, gx_nw, hj])
theorem gx_made {D : va_G} {adr : Nat → Nat} {K : Nat → ClassId} {al : Bool} {sz0 : Nat} {h : gx_H} {s : State} {H H1 : Heap} {locs : List Loc} {sh : Nat × Nat} (hR : gx_Rl D adr K al sz0 h s H locs) (hal : al = true) (hsz : gx_sz h < 100000) (z : H1.size = H.size + 1) (o1 : ∀ q, q < H.size → H1[q]? = H[q]?) (hE : va_at D vwCl (H.size, gx_cell adr K (gx_nw h sh) (gx_sz h)) H1) : adr (gx_sz h) = H.size ∧ gx_Rl D adr K al sz0 (gx_nw h sh) s H1 locs := by
  obtain ⟨hP, hK, hD, hSs, hT, hX⟩ := hR
  have ha : adr (gx_sz h) = H.size := hT hal 0 hsz
  have hk : ∀ (k : Nat) (x : Nat × va_E), (gx_w adr K h)[k]? = some x → H1[x.1]? = H[x.1]? := fun k x hx => o1 x.1 ((hP k x hx).lt)
  refine ⟨ha, ?_, hK, ?_, ⟨Nat.le_trans hSs.1 (by omega), fun x a1 a2 => (o1 x (Nat.lt_of_lt_of_le a1 hSs.1)).trans (hSs.2.1 x a1 a2), hSs.2.2⟩, fun hal i hi => ?_, hX⟩
  · rw [gx_w_nw]
    refine (hP.kept hk).app (fun k x hx => ?_)
    have hz : k < 1 := (List.getElem?_eq_some_iff.mp hx).1
    rw [show k = 0 by omega] at hx
    cases hx
    rw [ha]
    exact hE
  · rw [gx_w_nw]
    exact hD.push hP ha (by rw [ha]; exact Or.inr hSs.1)
  · have e := hT hal (i + 1) (by have : gx_sz (gx_nw h sh) = gx_sz h + 1 := rfl; omega)
    show adr (gx_sz h + 1 + i) = H1.size + i
    rw [show gx_sz h + 1 + i = gx_sz h + (i + 1) by omega, e, z]; omega
theorem gx_dflt : ∀ ci, ci < 10 → ∀ k, k < (gx_c ci).2.2 → defaultValue (gx_ft ci k) = if gx_isR (gx_ft ci k) = true then .null else .int 0 := by decide +kernel
theorem gx_new {M : gx_M} {al af : Bool} {kc ks pc : Nat} {ls : List (Nat × Value)} {st : List Value} {h : gx_H} {o : gx_O} {h1 : gx_H} {ci idx : Nat} (hd : decode (gx_b M) pc = .ok (.new idx, 3)) (hci : ci < 10) (hwl : Cond.classLink (gx_y M).cls idx (gx_c ci).1 ∈ gx_tb) (hwi : Cond.instantiable (gx_c ci).1 (gx_c ci).2.2 ∈ gx_tb) (hwn : Cond.initialized (gx_c ci).1 ∈ gx_tb) (hal : al = true) (hsz : gx_sz h < 100000) (hcs : kc + 1 ≤ (gx_rm M).cells ∧ ks + (gx_c ci).2.2 ≤ (gx_rm M).slots) (kk : gx_Z M al af (kc + 1) (ks + (gx_c ci).2.2) (pc + 3) ls (.ref (gx_sz h) :: st) (gx_nw h (0, ci)) o h1) : gx_Z M al af kc ks pc ls st h o h1 := by
  intro p l e s m args below meth c H locs la D adr K sz0 C hl hR
  obtain ⟨hc, hin0, hty, hnm⟩ := gx_cls ci hci
  have hin : ∀ w ∈ u_ws (gx_c ci).1 (gx_c ci).2.1 (gx_c ci).2.2, w ∈ gx_cw M :: gx_tb := fun w hw => List.mem_cons_of_mem _ (hin0 w hw)
  have wd : ∀ w, w ∈ gx_tb → w.before args s = true := fun w hw => C.2.2.2.2.1 w (List.mem_cons_of_mem _ hw)
  have hKn := hR.2.1.1 ci _ hc
  refine W.newcK C.1 C.2.1 C.2.2.2.1 (wd _ hwl) (wd _ hwi) (wd _ hwn) rfl hd hcs.1 hcs.2 hKn.2.1 rfl fun H1 kC hkC e1 z1 o1 => ?_
  have hm := gx_made (sh := (0, ci)) hR hal hsz z1 o1 (by
    rw [gx_cell_o gx_nw_S]
    refine ⟨_, hc, (u_born (gx_ft ci) C.2.2.2.2.1 hin hKn hkC e1 hty).to (fun j hj => ?_)⟩
    rw [gx_dflt ci hci j hj, vp_V, List.getD_eq_getElem?_getD, List.getElem?_map, List.getElem?_range hj]
    simp only [Option.map_some, Option.getD_some, gx_fv]
    split
    · simp [gx_R, gx_nw, gx_sz, va_rf]
    · simp [gx_I, gx_nw, gx_sz])
  have k2 := kk p l e s m args below meth c H1 locs la D adr K sz0 C hl hm.2
  rw [List.map_cons, show gx_cv adr (.ref (gx_sz h)) = .ref H.size by rw [gx_cv, hm.1]] at k2
  exact k2
theorem gx_newa1 {M : gx_M} {al af : Bool} {kc ks pc : Nat} {ls : List (Nat × Value)} {st : List Value} {h : gx_H} {o : gx_O} {h1 : gx_H} {n : Int32} {N : Nat} (hd : decode (gx_b M) pc = .ok (.newarray .int, 2)) (hw : Cond.arrayClass .int ∈ gx_tb) (hn : ¬ n < 0) (hN : n.toNatClampNeg = N) (hby : N * componentBytes .int ≤ 536870912) (hal : al = true) (hsz : gx_sz h < 100000) (hcs : kc + 1 ≤ (gx_rm M).cells ∧ ks + N ≤ (gx_rm M).slots) (kk : gx_Z M al af (kc + 1) (ks + N) (pc + 2) ls (.ref (gx_sz h) :: st) (gx_nw h (1, N)) o h1) : gx_Z M al af kc ks pc ls (.int n :: st) h o h1 := by
  intro p l e s m args below meth c H locs la D adr K sz0 C hl hR
  refine va_newaK (atype := .int) C.1 C.2.1 (C.2.2.2.2.1 _ (List.mem_cons_of_mem _ hw)) rfl hd rfl hn hN hby hcs.1 hcs.2 rfl fun H1 cA e1 z1 o1 hAr hNm => ?_
  have hcA : K 1 = cA := by
    have h2 : s.vm.findClass ("[" ++ (FieldType.int).toString) = some (K 1) := (hR.2.1.2 0 (K 1, .int) rfl).2
    exact Option.some.inj (h2.symm.trans hNm)
  have hm := gx_made (sh := (1, N)) hR hal hsz z1 o1 (by
    rw [gx_cell_i gx_nw_S (by decide) (by decide) (by decide), hcA]
    show H1[H.size]? = some (vp_cell cA _)
    rw [e1]
    simp only [gx_I, gx_L, gx_nw, gx_sz, if_true]
    rfl)
  have k2 := kk p l e s m args below meth c H1 locs la D adr K sz0 C hl hm.2
  rw [List.map_cons, show gx_cv adr (.ref (gx_sz h)) = .ref H.size by rw [gx_cv, hm.1]] at k2
  exact k2
theorem gx_newa2 {M : gx_M} {al af : Bool} {kc ks pc : Nat} {ls : List (Nat × Value)} {st : List Value} {h : gx_H} {o : gx_O} {h1 : gx_H} {n : Int32} {N : Nat} (hd : decode (gx_b M) pc = .ok (.newarray .long, 2)) (hw : Cond.arrayClass .long ∈ gx_tb) (hn : ¬ n < 0) (hN : n.toNatClampNeg = N) (hby : N * componentBytes .long ≤ 536870912) (hal : al = true) (hsz : gx_sz h < 100000) (hcs : kc + 1 ≤ (gx_rm M).cells ∧ ks + N ≤ (gx_rm M).slots) (kk : gx_Z M al af (kc + 1) (ks + N) (pc + 2) ls (.ref (gx_sz h) :: st) (gx_nw h (2, N)) o h1) : gx_Z M al af kc ks pc ls (.int n :: st) h o h1 := by
  intro p l e s m args below meth c H locs la D adr K sz0 C hl hR
  refine va_newaK (atype := .long) C.1 C.2.1 (C.2.2.2.2.1 _ (List.mem_cons_of_mem _ hw)) rfl hd rfl hn hN hby hcs.1 hcs.2 rfl fun H1 cA e1 z1 o1 hAr hNm => ?_
  have hcA : K 2 = cA := by
    have h2 : s.vm.findClass ("[" ++ (FieldType.long).toString) = some (K 2) := (hR.2.1.2 1 (K 2, .long) rfl).2
    exact Option.some.inj (h2.symm.trans hNm)
  have hm := gx_made (sh := (2, N)) hR hal hsz z1 o1 (by
    rw [gx_cell_l gx_nw_S, hcA]
    show H1[H.size]? = some (vp_cell cA _)
    rw [e1]
    simp only [gx_I, gx_L, gx_nw, gx_sz, if_true]
    rfl)
  have k2 := kk p l e s m args below meth c H1 locs la D adr K sz0 C hl hm.2
  rw [List.map_cons, show gx_cv adr (.ref (gx_sz h)) = .ref H.size by rw [gx_cv, hm.1]] at k2
  exact k2
theorem gx_newa3 {M : gx_M} {al af : Bool} {kc ks pc : Nat} {ls : List (Nat × Value)} {st : List Value} {h : gx_H} {o : gx_O} {h1 : gx_H} {n : Int32} {N : Nat} (hd : decode (gx_b M) pc = .ok (.newarray .char, 2)) (hw : Cond.arrayClass .char ∈ gx_tb) (hn : ¬ n < 0) (hN : n.toNatClampNeg = N) (hby : N * componentBytes .char ≤ 536870912) (hal : al = true) (hsz : gx_sz h < 100000) (hcs : kc + 1 ≤ (gx_rm M).cells ∧ ks + N ≤ (gx_rm M).slots) (kk : gx_Z M al af (kc + 1) (ks + N) (pc + 2) ls (.ref (gx_sz h) :: st) (gx_nw h (3, N)) o h1) : gx_Z M al af kc ks pc ls (.int n :: st) h o h1 := by
  intro p l e s m args below meth c H locs la D adr K sz0 C hl hR
  refine va_newaK (atype := .char) C.1 C.2.1 (C.2.2.2.2.1 _ (List.mem_cons_of_mem _ hw)) rfl hd rfl hn hN hby hcs.1 hcs.2 rfl fun H1 cA e1 z1 o1 hAr hNm => ?_
  have hcA : K 3 = cA := by
    have h2 : s.vm.findClass ("[" ++ (FieldType.char).toString) = some (K 3) := (hR.2.1.2 2 (K 3, .char) rfl).2
    exact Option.some.inj (h2.symm.trans hNm)
  have hm := gx_made (sh := (3, N)) hR hal hsz z1 o1 (by
    rw [gx_cell_i gx_nw_S (by decide) (by decide) (by decide), hcA]
    show H1[H.size]? = some (vp_cell cA _)
    rw [e1]
    simp only [gx_I, gx_L, gx_nw, gx_sz, if_true]
    rfl)
  have k2 := kk p l e s m args below meth c H1 locs la D adr K sz0 C hl hm.2
  rw [List.map_cons, show gx_cv adr (.ref (gx_sz h)) = .ref H.size by rw [gx_cv, hm.1]] at k2
  exact k2
theorem gx_newa4 {M : gx_M} {al af : Bool} {kc ks pc : Nat} {ls : List (Nat × Value)} {st : List Value} {h : gx_H} {o : gx_O} {h1 : gx_H} {n : Int32} {N : Nat} (hd : decode (gx_b M) pc = .ok (.newarray .boolean, 2)) (hw : Cond.arrayClass .boolean ∈ gx_tb) (hn : ¬ n < 0) (hN : n.toNatClampNeg = N) (hby : N * componentBytes .boolean ≤ 536870912) (hal : al = true) (hsz : gx_sz h < 100000) (hcs : kc + 1 ≤ (gx_rm M).cells ∧ ks + N ≤ (gx_rm M).slots) (kk : gx_Z M al af (kc + 1) (ks + N) (pc + 2) ls (.ref (gx_sz h) :: st) (gx_nw h (4, N)) o h1) : gx_Z M al af kc ks pc ls (.int n :: st) h o h1 := by
  intro p l e s m args below meth c H locs la D adr K sz0 C hl hR
  refine va_newaK (atype := .boolean) C.1 C.2.1 (C.2.2.2.2.1 _ (List.mem_cons_of_mem _ hw)) rfl hd rfl hn hN hby hcs.1 hcs.2 rfl fun H1 cA e1 z1 o1 hAr hNm => ?_
  have hcA : K 4 = cA := by
    have h2 : s.vm.findClass ("[" ++ (FieldType.boolean).toString) = some (K 4) := (hR.2.1.2 3 (K 4, .boolean) rfl).2
    exact Option.some.inj (h2.symm.trans hNm)
  have hm := gx_made (sh := (4, N)) hR hal hsz z1 o1 (by
    rw [gx_cell_i gx_nw_S (by decide) (by decide) (by decide), hcA]
    show H1[H.size]? = some (vp_cell cA _)
    rw [e1]
    simp only [gx_I, gx_L, gx_nw, gx_sz, if_true]
    rfl)
  have k2 := kk p l e s m args below meth c H1 locs la D adr K sz0 C hl hm.2
  rw [List.map_cons, show gx_cv adr (.ref (gx_sz h)) = .ref H.size by rw [gx_cv, hm.1]] at k2
  exact k2
theorem gx_newa5 {M : gx_M} {al af : Bool} {kc ks pc : Nat} {ls : List (Nat × Value)} {st : List Value} {h : gx_H} {o : gx_O} {h1 : gx_H} {idx : Nat} {n : Int32} {N : Nat} (hd : decode (gx_b M) pc = .ok (.anewarray idx, 3)) (hw : Cond.classLink (gx_y M).cls idx RX8 ∈ gx_tb) (hn : ¬ n < 0) (hN : n.toNatClampNeg = N) (hby : N * 4 ≤ 536870912) (hal : al = true) (hsz : gx_sz h < 100000) (hcs : kc + 1 ≤ (gx_rm M).cells ∧ ks + N ≤ (gx_rm M).slots) (kk : gx_Z M al af (kc + 1) (ks + N) (pc + 3) ls (.ref (gx_sz h) :: st) (gx_nw h (5, N)) o h1) : gx_Z M al af kc ks pc ls (.int n :: st) h o h1 := by
  subst hN
  intro p l e s m args below meth c H locs la D adr K sz0 C hl hR
  refine W.anew C.1 C.2.1 C.2.2.2.1 (C.2.2.2.2.1 _ (List.mem_cons_of_mem _ hw)) (va_AO.use hR.2.2.2.2.2.2.2.2.2.1) rfl hd rfl hn hby hcs.1 hcs.2 fun cA kA comp f1 f2 f3 f4 => ?_
  generalize hH1 : H.push ({ cls := cA, slots := Array.replicate n.toNatClampNeg .null, vm := .none } : Cell) = H1
  have z1 : H1.size = H.size + 1 := by rw [← hH1, Array.size_push]
  have e1 : H1[H.size]? = some (arrV cA n.toNatClampNeg (fun _ => .null)) := by rw [← hH1, Array.getElem?_push_size, ← arrV_new]
  have o1 : ∀ q : Nat, q < H.size → H1[q]? = H[q]? := fun q hq => by rw [← hH1, Array.getElem?_push, if_neg (Nat.ne_of_lt hq)]
  have hcA : K 5 = cA := by
    obtain ⟨kA2, comp2, k1, k2, k3, k4⟩ : va_RA s (K 5) (.object RX8) := (hR.2.1.2 4 (K 5, .object RX8) rfl).2
    exact Option.some.inj (k4.symm.trans f1)
  have hm := gx_made (sh := (5, n.toNatClampNeg)) hR hal hsz z1 o1 (by
    rw [gx_cell_q gx_nw_S, hcA]
    show H1[H.size]? = some (vp_cell cA _)
    rw [e1]
    simp only [gx_R, gx_nw, gx_sz, if_true]
    rfl)
  have k2 := kk p l e s m args below meth c H1 locs la D adr K sz0 C hl hm.2
  rw [List.map_cons, show gx_cv adr (.ref (gx_sz h)) = .ref H.size by rw [gx_cv, hm.1]] at k2
  exact k2
/-! ===== ends ===== -/
theorem gx_iret {M : gx_M} {al af : Bool} {kc ks pc : Nat} {ls : List (Nat × Value)} {h : gx_H} {x : Int32} (hd : decode (gx_b M) pc = .ok (.ireturn, 1)) (hr : gx_r M = some .int) (hcs : kc ≤ (gx_rm M).cells ∧ ks ≤ (gx_rm M).slots) (haf : af = true → al = true) : gx_Z M al af kc ks pc ls [.int x] h (.inl (some (.int x))) h := by
  intro p l e s m args below meth c H locs la D adr K sz0 C hl hR
  refine W.widen hcs.1 hcs.2 (vx_ret (W.iret C.1 C.2.1 (C.2.2.2.2.2.1.trans hr) (fun t ht hW => ⟨⟨_, rfl, rfl⟩, ⟨by rw [ht]; exact hR.1, va_K.moved hW.alike hR.2.1, hR.2.2.1, by rw [ht]; exact fun z => hR.2.2.2.2.1 (haf z)⟩, va_S.F hR.2.2.2.1 ht⟩) hR.2.2.2.1.2.2 hd (hlocks := C.2.2.2.2.2.2.1)))
theorem gx_zret {M : gx_M} {al af : Bool} {kc ks pc : Nat} {ls : List (Nat × Value)} {h : gx_H} {x : Int32} (hn : x = 0 ∨ x = 1) (hd : decode (gx_b M) pc = .ok (.ireturn, 1)) (hr : gx_r M = some .boolean) (hcs : kc ≤ (gx_rm M).cells ∧ ks ≤ (gx_rm M).slots) (haf : af = true → al = true) : gx_Z M al af kc ks pc ls [.int x] h (.inl (some (.int x))) h := by
  intro p l e s m args below meth c H locs la D adr K sz0 C hl hR
  refine W.widen hcs.1 hcs.2 (vx_ret (W.zret (ty := .boolean) C.1 C.2.1 (C.2.2.2.2.2.1.trans hr) (by rcases hn with rfl | rfl <;> rfl) (fun t ht hW => ⟨⟨_, rfl, rfl⟩, ⟨by rw [ht]; exact hR.1, va_K.moved hW.alike hR.2.1, hR.2.2.1, by rw [ht]; exact fun z => hR.2.2.2.2.1 (haf z)⟩, va_S.F hR.2.2.2.1 ht⟩) hR.2.2.2.1.2.2 hd (hlocks := C.2.2.2.2.2.2.1)))
theorem gx_lret {M : gx_M} {al af : Bool} {kc ks pc : Nat} {ls : List (Nat × Value)} {h : gx_H} {x : Int64} (hd : decode (gx_b M) pc = .ok (.lreturn, 1)) (hr : gx_r M = some .long) (hcs : kc ≤ (gx_rm M).cells ∧ ks ≤ (gx_rm M).slots) (haf : af = true → al = true) : gx_Z M al af kc ks pc ls [.long x] h (.inl (some (.long x))) h := by
  intro p l e s m args below meth c H locs la D adr K sz0 C hl hR
  refine W.widen hcs.1 hcs.2 (vx_ret (W.lret C.1 C.2.1 (C.2.2.2.2.2.1.trans hr) (fun t ht hW => ⟨⟨_, rfl, rfl⟩, ⟨by rw [ht]; exact hR.1, va_K.moved hW.alike hR.2.1, hR.2.2.1, by rw [ht]; exact fun z => hR.2.2.2.2.1 (haf z)⟩, va_S.F hR.2.2.2.1 ht⟩) hR.2.2.2.1.2.2 hd (hlocks := C.2.2.2.2.2.2.1)))
theorem gx_vret {M : gx_M} {al af : Bool} {kc ks pc : Nat} {ls : List (Nat × Value)} {h : gx_H}  (hd : decode (gx_b M) pc = .ok (.return_, 1)) (hr : gx_r M = none) (hcs : kc ≤ (gx_rm M).cells ∧ ks ≤ (gx_rm M).slots) (haf : af = true → al = true) : gx_Z M al af kc ks pc ls [] h (.inl none) h := by
  intro p l e s m args below meth c H locs la D adr K sz0 C hl hR
  refine W.widen hcs.1 hcs.2 (vx_ret (W.vret C.1 C.2.1 (C.2.2.2.2.2.1.trans hr) (fun t ht hW => ⟨⟨_, rfl, rfl⟩, ⟨by rw [ht]; exact hR.1, va_K.moved hW.alike hR.2.1, hR.2.2.1, by rw [ht]; exact fun z => hR.2.2.2.2.1 (haf z)⟩, va_S.F hR.2.2.2.1 ht⟩) hR.2.2.2.1.2.2 hd (hlocks := C.2.2.2.2.2.2.1)))
theorem gx_aret {M : gx_M} {al af : Bool} {kc ks pc : Nat} {ls : List (Nat × Value)} {h : gx_H} {x : Nat} {C0 : String} (hd : decode (gx_b M) pc = .ok (.areturn, 1)) (hr : gx_r M = some (.object C0)) (hcs : kc ≤ (gx_rm M).cells ∧ ks ≤ (gx_rm M).slots) (haf : af = true → al = true) : gx_Z M al af kc ks pc ls [.ref x] h (.inl (some (.ref x))) h := by
  intro p l e s m args below meth c H locs la D adr K sz0 C hl hR
  refine W.widen hcs.1 hcs.2 (vx_ret (W.aret (rt := .object C0) C.1 C.2.1 (C.2.2.2.2.2.1.trans hr) (Or.inl ⟨_, rfl⟩) (Or.inr ⟨_, rfl⟩) (fun t ht hW => ⟨⟨_, rfl, rfl⟩, ⟨by rw [ht]; exact hR.1, va_K.moved hW.alike hR.2.1, hR.2.2.1, by rw [ht]; exact fun z => hR.2.2.2.2.1 (haf z)⟩, va_S.F hR.2.2.2.1 ht⟩) hR.2.2.2.1.2.2 hd (hlocks := C.2.2.2.2.2.2.1)))
/-! ===== calls ===== -/
theorem gx_blind {D : va_G} {adr : Nat → Nat} {K : Nat → ClassId} {al : Bool} {h : gx_H} {as : List Value} {n : Nat} : FrameBlind (va_Pc as (fun U => U.heap.size = n ∧ gx_Pr D adr K al h U)) := by
  intro a U g mk q
  obtain ⟨q0, q1, qP, qK, qD, qT, qX, qY, qV⟩ := q
  exact ⟨q0, q1, qP, va_K.moved (u := U) (U := U.calling g mk a) (Vm.Alike.refl U.vm) qK, qD, qT, vx_Zq.moved (u := U) (U := U.calling g mk a) (Vm.Alike.refl U.vm) qX, vx_Zq.moved (u := U) (U := U.calling g mk a) (Vm.Alike.refl U.vm) qY, gx_V.warm (s := U) (U := U.calling g mk a) (State.WarmedH.refl U) qV⟩
theorem gx_AA {D : va_G} {adr : Nat → Nat} {K : Nat → ClassId} {al : Bool} {sz0 : Nat} {h : gx_H} {s : State} {H : Heap} {locs : List Loc} (hR : gx_Rl D adr K al sz0 h s H locs) : ∀ q, gx_A adr (gx_sz h) H.size q → gx_A adr sz0 s.heap.size q := by
  intro q hq
  rcases hq with ⟨i, hi, rfl⟩ | hq
  · exact hR.2.2.1.2 i _ (gx_w_at hi)
  · exact Or.inr (Nat.le_trans hR.2.2.2.1.1 hq)
theorem gx_pre {D : va_G} {adr : Nat → Nat} {K : Nat → ClassId} {al : Bool} {sz0 : Nat} {h : gx_H} {s : State} {H : Heap} {locs : List Loc} (hR : gx_Rl D adr K al sz0 h s H locs) (as : List Value) : ∀ U : State, U.heap = H → s.WarmedH U.vm → va_Pc (as.map (gx_cv adr)) (fun U => U.heap.size = H.size ∧ gx_Pr D adr K al h U) (as.map (gx_cv adr)).toArray U := by
  intro U hU hW
  have hA := gx_AA hR
  obtain ⟨hP, hK, hD, hSs, hT, hX, hY, hV⟩ := hR
  refine ⟨rfl, by rw [hU], by rw [hU]; exact hP, va_K.moved hW.alike hK, hD.weaken (fun _ _ _ _ => trivial), by rw [hU]; exact hT, ?_, ?_, gx_V.warm hW hV⟩
  · rw [hU]; exact gx_Zq_own hW.alike hX hSs.2.1 hA
  · rw [hU]; exact gx_Zq_own hW.alike hY hSs.2.1 hA
/-- an exception of class E has come to the row pc -/
def gx_ZX (M : gx_M) (al af : Bool) (kc ks pc : Nat) (ls : List (Nat × Value)) (st : List Value) (E : String) (h : gx_H) (o : gx_O) (h1 : gx_H) : Prop :=
  ∀ (p : Program) (l : Launch) (e : Env) (s : State) (m : MethodId) (args : Array Value) (below : List Frame) (meth : Method) (c : Code) (H : Heap) (locs : List Loc) (la : Array Slot) (D : va_G) (adr : Nat → Nat) (K : Nat → ClassId) (sz0 : Nat) (q : Addr) (ce : Cell),
    gx_Cx M adr p l s m args meth c → lv_has la (gx_n M) (gx_lv adr ls) → gx_Rl D adr K al (gx_s0 M sz0) h s H locs → H[q]? = some ce → ce.vm = .none → s.vm.findClass E = some ce.cls →
    vx_W p l e (gx_rm M) s m args below meth c H locs kc ks (vx_MQ below (gx_Qc D adr K af (gx_s0 M sz0) o h1) (gx_XC D adr K af (gx_s0 M sz0) o h1) args s (gx_rm M).cells (gx_rm M).slots (gx_A adr (gx_s0 M sz0) s.heap.size)) (F0 m pc la (st.map (gx_cv adr))) q
theorem gx_out {M : gx_M} {al af : Bool} {kc ks pc : Nat} {ls : List (Nat × Value)} {st : List Value} {h : gx_H} {E : String} (hh : gx_hh M = []) (hcs : kc ≤ (gx_rm M).cells ∧ ks ≤ (gx_rm M).slots) (haf : af = true → al = true) : gx_ZX M al af kc ks pc ls st E h (.inr E) h := by
  intro p l e s m args below meth c H locs la D adr K sz0 q ce C hl hR hq hv hcl
  refine vx_out (fun x hx => ?_) C.2.2.2.2.2.2.1 hq hv hcl (fun t ht hW => ⟨rfl, ⟨by rw [ht]; exact hR.1, va_K.moved hW hR.2.1, hR.2.2.1, by rw [ht]; exact fun z => hR.2.2.2.2.1 (haf z)⟩, va_S.F hR.2.2.2.1 ht⟩) hR.2.2.2.1.2.2 hcs.1 hcs.2
  rw [C.2.2.2.2.2.2.2.2.1, hh] at hx
  cases hx
theorem gx_aft {M N : gx_M} {al af : Bool} {kc ks pc : Nat} {ls : List (Nat × Value)} {st st0 : List Value} {h h' : gx_H} {o ov : gx_O} {h1 : gx_H} (kr : ∀ v, ov = .inl v → gx_Z M al af (kc + (gx_rm N).cells) (ks + (gx_rm N).slots) (pc + 3) ls (v.toList ++ st) h' o h1) (kx : ∀ E, ov = .inr E → gx_ZX M al af (kc + (gx_rm N).cells) (ks + (gx_rm N).slots) pc ls st E h' o h1)
    {p : Program} {l : Launch} {e : Env} {s : State} {m : MethodId} {args : Array Value} {below : List Frame} {meth : Method} {c : Code} {H : Heap} {locs : List Loc} {la : Array Slot} {D : va_G} {adr : Nat → Nat} {K : Nat → ClassId} {sz0 : Nat} {a : Array Value} (C : gx_Cx M adr p l s m args meth c) (hl : lv_has la (gx_n M) (gx_lv adr ls)) (hR : gx_Rl D adr K al (gx_s0 M sz0) h s H locs)
    (hr : vx_Run p l e (gx_rm M) s m args below meth c H locs kc ks (gx_rm N).cells (gx_rm N).slots (F0 m pc la st0) (st.map (gx_cv adr)) (gx_Qc D adr K al (gx_sz h) ov h' a) (gx_XC D adr K al (gx_sz h) ov h') (gx_A adr (gx_sz h) H.size)) :
    W p l e (gx_rm M) s m args below meth c H locs kc ks (vx_MQ below (gx_Qc D adr K af (gx_s0 M sz0) o h1) (gx_XC D adr K af (gx_s0 M sz0) o h1) args s (gx_rm M).cells (gx_rm M).slots (gx_A adr (gx_s0 M sz0) s.heap.size)) (F0 m pc la st0) := by
  have hA := gx_AA hR
  obtain ⟨hP, hK, hD, hSs, hT, hX⟩ := hR
  intro T hTT X
  rcases hr T hTT X with ⟨v, st₀, t, T', L, g0, X', hL, e1, e2, ⟨⟨v0, hv0, hv1⟩, ⟨pP, pK, pD, pT⟩, hF⟩, sg⟩ | ⟨q, st₀, t, T', L, E, ce, g0, X', hL, e1, e2, ⟨hE, ⟨pP, pK, pD, pT⟩, hF⟩, hce, hcv, hcl, sg⟩
  · cases hv1
    have hAq : ∀ q, gx_A adr (gx_sz h) st₀.heap.size q → gx_A adr (gx_s0 M sz0) s.heap.size q := by rw [g0]; exact hA
    obtain ⟨k1, k2, k3⟩ := vx_keep (A1 := gx_A adr (gx_sz h) st₀.heap.size) g0 e1 hSs (fun q _ z => hAq q z) hA hL hF
    have hal : s.vm.Alike t.vm := by rw [← e2]; exact X'.warmed.alike
    obtain ⟨t2, a1, b1⟩ := kr v0 hv0 p l e s m args below meth c T'.heap (locs ++ L) la D adr K sz0 C hl ⟨by rw [e1]; exact pP, va_K.moved hal.symm pK, pD.weaken (fun _ q _ z => hAq q.1 z), k3, by rw [e1]; exact pT, hX⟩ T' rfl X'
    refine ⟨t2, sg t2 ?_, b1⟩
    have e9 : (v0.map (gx_cv adr)).toList ++ st.map (gx_cv adr) = (v0.toList ++ st).map (gx_cv adr) := by cases v0 <;> simp
    rw [e9]
    exact a1
  · have hAq : ∀ q, gx_A adr (gx_sz h) st₀.heap.size q → gx_A adr (gx_s0 M sz0) s.heap.size q := by rw [g0]; exact hA
    obtain ⟨k1, k2, k3⟩ := vx_keep (A1 := gx_A adr (gx_sz h) st₀.heap.size) g0 e1 hSs (fun q _ z => hAq q z) hA hL hF
    have hal : s.vm.Alike t.vm := by rw [← e2]; exact X'.warmed.alike
    obtain ⟨t2, a1, b1⟩ := kx E hE p l e s m args below meth c T'.heap (locs ++ L) la D adr K sz0 q ce C hl ⟨by rw [e1]; exact pP, va_K.moved hal.symm pK, pD.weaken (fun _ q _ z => hAq q.1 z), k3, by rw [e1]; exact pT, hX⟩ (by rw [e1]; exact hce) hcv hcl T' rfl X'
    exact ⟨t2, sg.trans a1, b1⟩
/-- what is known of a callee beside its contract -/
def gx_ci (M N : gx_M) (n : Nat) : Prop := gx_hh N = [] ∧ gx_cw N ∈ gx_tb ∧ Cond.initialized (gx_y N).cls ∈ gx_tb ∧ ((gx_y N).cls ≠ "java/lang/invoke/MethodHandle" ∧ (gx_y N).cls ≠ "java/lang/invoke/VarHandle" ∧ (parseMethodDescriptor (gx_y N).desc).map (fun d => d.parameters.length) = some n) ∧ ((gx_rm N).frames + 1 ≤ (gx_rm M).frames ∧ 8 + (gx_n N + 11) + (gx_rm N).locals ≤ (gx_rm M).locals)
theorem gx_cwe {N : gx_M} (hh : gx_hh N = []) : gx_cw N :: gx_tb = Cond.code (gx_y N) (gx_b N) (gx_n N) (gx_r N) :: gx_tb := by rw [gx_cw, if_pos hh]
theorem gx_gd {M N : gx_M} (hc : gx_cw N ∈ gx_tb) : GoodIn (gx_cw M :: gx_tb) (gx_cw N :: gx_tb) := gx_goodIn (fun w hw => (List.mem_cons.mp hw).elim (fun z => by rw [z]; exact hc) id)
theorem gx_callV {M : gx_M} {al af : Bool} {kc ks pc : Nat} {ls : List (Nat × Value)} {st : List Value} {h : gx_H} {o : gx_O} {h1 : gx_H} {N : gx_M} {h' : gx_H} {ov : gx_O} {As : List Value} {idx n : Nat} {ci : Nat} {b : Nat} (hd : decode (gx_b M) pc = .ok (.invokevirtual idx, 3)) (hcw : gx_Cw N al (.ref b :: As) h ov h') (hn : As.length = n) (hi : gx_ci M N n) (hS : b < gx_sz h ∧ gx_S h b = (0, ci)) (hci : ci < 10) (hw1 : Cond.methodLink (gx_y M).cls idx (gx_y N) ∈ gx_tb) (hw2 : Cond.instanceMethod (gx_y N) ∈ gx_tb) (hw3 : Cond.selects (gx_y N).cls (gx_y N) (gx_y N) ∈ gx_tb) (hC : (gx_c ci).1 = (gx_y N).cls) (hcs : kc + (gx_rm N).cells ≤ (gx_rm M).cells ∧ ks + (gx_rm N).slots ≤ (gx_rm M).slots) (hst : (st.map fun v => v.category).sum ≤ 8) (kr : ∀ v, ov = .inl v → gx_Z M al af (kc + (gx_rm N).cells) (ks + (gx_rm N).slots) (pc + 3) ls (v.toList ++ st) h' o h1) (kx : ∀ E, ov = .inr E → gx_ZX M al af (kc + (gx_rm N).cells) (ks + (gx_rm N).slots) pc ls st E h' o h1) : gx_Z M al af kc ks pc ls (As.reverse ++ .ref b :: st) h o h1 := by
  intro p l e s m args below meth c H locs la D adr K sz0 C hl hR
  obtain ⟨hh, hcN, hiN, hdN, hrN⟩ := hi
  have wd : ∀ w, w ∈ gx_tb → w.before args s = true := fun w hw => C.2.2.2.2.1 w (List.mem_cons_of_mem _ hw)
  have hbl : FrameBlind (va_Pc ((.ref b :: As).map (gx_cv adr)) (fun U => U.heap.size = H.size ∧ gx_Pr D adr K al h U)) := gx_blind
  have hpre := gx_pre hR (.ref b :: As)
  have hrec : ∃ cell : Cell, H[adr b]? = some cell ∧ cell.vm.isStatics = false ∧ s.vm.findClass (gx_c ci).1 = some cell.cls := va_recv hR.2.1 hR.1 (gx_cls ci hci).1 (by rw [gx_w_at hS.1, gx_cell_o hS.2])
  refine gx_aft kr kx C hl hR (a := ((.ref b :: As).map (gx_cv adr)).toArray) ?_
  have hst2 : 2 * (F0 m pc la ((As.reverse ++ .ref b :: st).map (gx_cv adr))).monitorRoom + ((st.map (gx_cv adr)).map fun v => v.category).sum ≤ 8 := by rw [gx_cats]; show 2 * 0 + _ ≤ 8; omega
  have hstk : (As.reverse ++ .ref b :: st).map (gx_cv adr) = (As.map (gx_cv adr)).reverse ++ .ref (adr b) :: st.map (gx_cv adr) := by simp [List.map_append, List.map_reverse, gx_cv]
  exact vx_runV (As := As.map (gx_cv adr)) (rest := st.map (gx_cv adr)) (g := F0 m pc la ((As.reverse ++ .ref b :: st).map (gx_cv adr))) ⟨C.1, C.2.1, C.2.2.1, C.2.2.2.1, C.2.2.2.2.1⟩ (hcw l D adr K H.size C.2.2.2.2.2.2.2.2.2) (cwV (ws := gx_cw N :: gx_tb) (ws' := gx_tb) (bytes := gx_b N) (ret := gx_r N) (C := (gx_c ci).1) n C.2.2.2.2.1 (goodIn_app (gx_goodIn (List.forall_mem_cons.mpr ⟨hw1, List.forall_mem_cons.mpr ⟨hw2, List.forall_mem_cons.mpr ⟨by rw [hC]; exact hw3, List.forall_mem_cons.mpr ⟨by rw [hC]; exact hiN, fun _ h => absurd h List.not_mem_nil⟩⟩⟩⟩)) (gx_gd hcN)) (gx_cwe hh) rfl rfl ⟨hC.symm, hdN⟩ hrN) ⟨hbl, hrec, hpre⟩ rfl (by rw [List.length_map]; exact hn) hl.1 hstk hst2 hd hcs
theorem gx_callS {M : gx_M} {al af : Bool} {kc ks pc : Nat} {ls : List (Nat × Value)} {st : List Value} {h : gx_H} {o : gx_O} {h1 : gx_H} {N : gx_M} {h' : gx_H} {ov : gx_O} {As : List Value} {idx n : Nat} (hd : decode (gx_b M) pc = .ok (.invokestatic idx, 3)) (hcw : gx_Cw N al As h ov h') (hn : As.length = n) (hi : gx_ci M N n) (hw1 : Cond.methodLink (gx_y M).cls idx (gx_y N) ∈ gx_tb) (hw2 : Cond.static (gx_y N) ∈ gx_tb) (hcs : kc + (gx_rm N).cells ≤ (gx_rm M).cells ∧ ks + (gx_rm N).slots ≤ (gx_rm M).slots) (hst : (st.map fun v => v.category).sum ≤ 8) (kr : ∀ v, ov = .inl v → gx_Z M al af (kc + (gx_rm N).cells) (ks + (gx_rm N).slots) (pc + 3) ls (v.toList ++ st) h' o h1) (kx : ∀ E, ov = .inr E → gx_ZX M al af (kc + (gx_rm N).cells) (ks + (gx_rm N).slots) pc ls st E h' o h1) : gx_Z M al af kc ks pc ls (As.reverse ++ st) h o h1 := by
  intro p l e s m args below meth c H locs la D adr K sz0 C hl hR
  obtain ⟨hh, hcN, hiN, hdN, hrN⟩ := hi
  have wd : ∀ w, w ∈ gx_tb → w.before args s = true := fun w hw => C.2.2.2.2.1 w (List.mem_cons_of_mem _ hw)
  have hbl : FrameBlind (va_Pc (As.map (gx_cv adr)) (fun U => U.heap.size = H.size ∧ gx_Pr D adr K al h U)) := gx_blind
  have hpre := gx_pre hR As
  refine gx_aft kr kx C hl hR (a := (As.map (gx_cv adr)).toArray) ?_
  have hst2 : 2 * (F0 m pc la ((As.reverse ++ st).map (gx_cv adr))).monitorRoom + ((st.map (gx_cv adr)).map fun v => v.category).sum ≤ 8 := by rw [gx_cats]; show 2 * 0 + _ ≤ 8; omega
  have hstk : (As.reverse ++ st).map (gx_cv adr) = (As.map (gx_cv adr)).reverse ++ st.map (gx_cv adr) := by simp [List.map_append, List.map_reverse, gx_cv]
  exact vx_runS (As := As.map (gx_cv adr)) (rest := st.map (gx_cv adr)) (g := F0 m pc la ((As.reverse ++ st).map (gx_cv adr))) ⟨C.1, C.2.1, C.2.2.1, C.2.2.2.1, C.2.2.2.2.1⟩ (hcw l D adr K H.size C.2.2.2.2.2.2.2.2.2) (va_cwS (ws := gx_cw N :: gx_tb) (ws' := gx_tb) (bytes := gx_b N) (ret := gx_r N) n C.2.2.2.2.1 (goodIn_app (gx_goodIn (List.forall_mem_cons.mpr ⟨hw1, List.forall_mem_cons.mpr ⟨hw2, List.forall_mem_cons.mpr ⟨hiN, fun _ h => absurd h List.not_mem_nil⟩⟩⟩)) (gx_gd hcN)) (gx_cwe hh) rfl rfl hdN hrN) ⟨hbl, hpre⟩ rfl (by rw [List.length_map]; exact hn) hl.1 hstk hst2 hd hcs
theorem gx_callI {M : gx_M} {al af : Bool} {kc ks pc : Nat} {ls : List (Nat × Value)} {st : List Value} {h : gx_H} {o : gx_O} {h1 : gx_H} {N : gx_M} {h' : gx_H} {ov : gx_O} {As : List Value} {idx n : Nat} {b : Nat} (hd : decode (gx_b M) pc = .ok (.invokespecial idx, 3)) (hcw : gx_Cw N al (.ref b :: As) h ov h') (hn : As.length = n) (hi : gx_ci M N n) (hw1 : Cond.methodLink (gx_y M).cls idx (gx_y N) ∈ gx_tb) (hw2 : Cond.instanceMethod (gx_y N) ∈ gx_tb) (hrn : gx_r N = none) (hnm : (gx_y N).name = "<init>") (hcs : kc + (gx_rm N).cells ≤ (gx_rm M).cells ∧ ks + (gx_rm N).slots ≤ (gx_rm M).slots) (hst : (st.map fun v => v.category).sum ≤ 8) (kr : ∀ v, ov = .inl v → gx_Z M al af (kc + (gx_rm N).cells) (ks + (gx_rm N).slots) (pc + 3) ls (v.toList ++ st) h' o h1) (kx : ∀ E, ov = .inr E → gx_ZX M al af (kc + (gx_rm N).cells) (ks + (gx_rm N).slots) pc ls st E h' o h1) : gx_Z M al af kc ks pc ls (As.reverse ++ .ref b :: st) h o h1 := by
  intro p l e s m args below meth c H locs la D adr K sz0 C hl hR
  obtain ⟨hh, hcN, hiN, hdN, hrN⟩ := hi
  have wd : ∀ w, w ∈ gx_tb → w.before args s = true := fun w hw => C.2.2.2.2.1 w (List.mem_cons_of_mem _ hw)
  have hbl : FrameBlind (va_Pc ((.ref b :: As).map (gx_cv adr)) (fun U => U.heap.size = H.size ∧ gx_Pr D adr K al h U)) := gx_blind
  have hpre := gx_pre hR (.ref b :: As)
  refine gx_aft kr kx C hl hR (a := ((.ref b :: As).map (gx_cv adr)).toArray) ?_
  have hst2 : 2 * (F0 m pc la ((As.reverse ++ .ref b :: st).map (gx_cv adr))).monitorRoom + ((st.map (gx_cv adr)).map fun v => v.category).sum ≤ 8 := by rw [gx_cats]; show 2 * 0 + _ ≤ 8; omega
  have hstk : (As.reverse ++ .ref b :: st).map (gx_cv adr) = (As.map (gx_cv adr)).reverse ++ .ref (adr b) :: st.map (gx_cv adr) := by simp [List.map_append, List.map_reverse, gx_cv]
  exact vx_runI (As := As.map (gx_cv adr)) (rest := st.map (gx_cv adr)) (g := F0 m pc la ((As.reverse ++ .ref b :: st).map (gx_cv adr))) ⟨C.1, C.2.1, C.2.2.1, C.2.2.2.1, C.2.2.2.2.1⟩ (hcw l D adr K H.size C.2.2.2.2.2.2.2.2.2) (cwI (ws := gx_cw N :: gx_tb) (ws' := gx_tb) (bytes := gx_b N) n C.2.2.2.2.1 (gx_gd hcN) (by rw [gx_cwe hh, hrn]) rfl rfl (wd _ hiN) (wd _ hw1) (wd _ hw2) hnm hdN hrN) ⟨hbl, hpre⟩ rfl (by rw [List.length_map]; exact hn) hl.1 hstk hst2 hd hcs
theorem gx_callIN {M : gx_M} {al af : Bool} {kc ks pc : Nat} {ls : List (Nat × Value)} {st : List Value} {h : gx_H} {o : gx_O} {h1 : gx_H} {N : gx_M} {h' : gx_H} {ov : gx_O} {As : List Value} {idx n : Nat} {b : Nat} {host : String} (hd : decode (gx_b M) pc = .ok (.invokespecial idx, 3)) (hcw : gx_Cw N al (.ref b :: As) h ov h') (hn : As.length = n) (hi : gx_ci M N n) (hw1 : ((gx_y M).cls, idx, gx_y N, host) ∈ gx_nests) (hw2 : Cond.instanceMethod (gx_y N) ∈ gx_tb) (hrn : gx_r N = none) (hnm : (gx_y N).name = "<init>") (hcs : kc + (gx_rm N).cells ≤ (gx_rm M).cells ∧ ks + (gx_rm N).slots ≤ (gx_rm M).slots) (hst : (st.map fun v => v.category).sum ≤ 8) (kr : ∀ v, ov = .inl v → gx_Z M al af (kc + (gx_rm N).cells) (ks + (gx_rm N).slots) (pc + 3) ls (v.toList ++ st) h' o h1) (kx : ∀ E, ov = .inr E → gx_ZX M al af (kc + (gx_rm N).cells) (ks + (gx_rm N).slots) pc ls st E h' o h1) : gx_Z M al af kc ks pc ls (As.reverse ++ .ref b :: st) h o h1 := by
  intro p l e s m args below meth c H locs la D adr K sz0 C hl hR
  obtain ⟨hh, hcN, hiN, hdN, hrN⟩ := hi
  have wd : ∀ w, w ∈ gx_tb → w.before args s = true := fun w hw => C.2.2.2.2.1 w (List.mem_cons_of_mem _ hw)
  have hbl : FrameBlind (va_Pc ((.ref b :: As).map (gx_cv adr)) (fun U => U.heap.size = H.size ∧ gx_Pr D adr K al h U)) := gx_blind
  have hpre := gx_pre hR (.ref b :: As)
  refine gx_aft kr kx C hl hR (a := ((.ref b :: As).map (gx_cv adr)).toArray) ?_
  have hst2 : 2 * (F0 m pc la ((As.reverse ++ .ref b :: st).map (gx_cv adr))).monitorRoom + ((st.map (gx_cv adr)).map fun v => v.category).sum ≤ 8 := by rw [gx_cats]; show 2 * 0 + _ ≤ 8; omega
  have hstk : (As.reverse ++ .ref b :: st).map (gx_cv adr) = (As.map (gx_cv adr)).reverse ++ .ref (adr b) :: st.map (gx_cv adr) := by simp [List.map_append, List.map_reverse, gx_cv]
  exact vx_runIN (As := As.map (gx_cv adr)) (rest := st.map (gx_cv adr)) (g := F0 m pc la ((As.reverse ++ .ref b :: st).map (gx_cv adr))) ⟨C.1, C.2.1, C.2.2.1, C.2.2.2.1, C.2.2.2.2.1⟩ (hcw l D adr K H.size C.2.2.2.2.2.2.2.2.2) (⟨va_cnB (ws := gx_cw N :: gx_tb) (ws' := gx_tb) (bytes := gx_b N) (host := host) n C.2.2.2.2.1 (gx_gd hcN) (by rw [gx_cwe hh, hrn]) rfl rfl (hR.2.2.2.2.2.2.2.2.1 _ hw1) (wd _ hiN) hdN hrN, hnm, wd _ hw2⟩) ⟨hbl, hpre⟩ rfl (by rw [List.length_map]; exact hn) hl.1 hstk hst2 hd hcs
theorem gx_callSN {M : gx_M} {al af : Bool} {kc ks pc : Nat} {ls : List (Nat × Value)} {st : List Value} {h : gx_H} {o : gx_O} {h1 : gx_H} {N : gx_M} {h' : gx_H} {ov : gx_O} {As : List Value} {idx n : Nat} {host : String} (hd : decode (gx_b M) pc = .ok (.invokestatic idx, 3)) (hcw : gx_Cw N al As h ov h') (hn : As.length = n) (hi : gx_ci M N n) (hw1 : ((gx_y M).cls, idx, gx_y N, host) ∈ gx_nests) (hw2 : Cond.static (gx_y N) ∈ gx_tb) (hcs : kc + (gx_rm N).cells ≤ (gx_rm M).cells ∧ ks + (gx_rm N).slots ≤ (gx_rm M).slots) (hst : (st.map fun v => v.category).sum ≤ 8) (kr : ∀ v, ov = .inl v → gx_Z M al af (kc + (gx_rm N).cells) (ks + (gx_rm N).slots) (pc + 3) ls (v.toList ++ st) h' o h1) (kx : ∀ E, ov = .inr E → gx_ZX M al af (kc + (gx_rm N).cells) (ks + (gx_rm N).slots) pc ls st E h' o h1) : gx_Z M al af kc ks pc ls (As.reverse ++ st) h o h1 := by
  intro p l e s m args below meth c H locs la D adr K sz0 C hl hR
  obtain ⟨hh, hcN, hiN, hdN, hrN⟩ := hi
  have wd : ∀ w, w ∈ gx_tb → w.before args s = true := fun w hw => C.2.2.2.2.1 w (List.mem_cons_of_mem _ hw)
  have hbl : FrameBlind (va_Pc (As.map (gx_cv adr)) (fun U => U.heap.size = H.size ∧ gx_Pr D adr K al h U)) := gx_blind
  have hpre := gx_pre hR As
  refine gx_aft kr kx C hl hR (a := (As.map (gx_cv adr)).toArray) ?_
  have hst2 : 2 * (F0 m pc la ((As.reverse ++ st).map (gx_cv adr))).monitorRoom + ((st.map (gx_cv adr)).map fun v => v.category).sum ≤ 8 := by rw [gx_cats]; show 2 * 0 + _ ≤ 8; omega
  have hstk : (As.reverse ++ st).map (gx_cv adr) = (As.map (gx_cv adr)).reverse ++ st.map (gx_cv adr) := by simp [List.map_append, List.map_reverse, gx_cv]
  exact vx_runSN (As := As.map (gx_cv adr)) (rest := st.map (gx_cv adr)) (g := F0 m pc la ((As.reverse ++ st).map (gx_cv adr))) ⟨C.1, C.2.1, C.2.2.1, C.2.2.2.1, C.2.2.2.2.1⟩ (hcw l D adr K H.size C.2.2.2.2.2.2.2.2.2) (⟨va_cnB (ws := gx_cw N :: gx_tb) (ws' := gx_tb) (bytes := gx_b N) (ret := gx_r N) (host := host) n C.2.2.2.2.1 (gx_gd hcN) (gx_cwe hh) rfl rfl (hR.2.2.2.2.2.2.2.2.1 _ hw1) (wd _ hiN) hdN hrN, wd _ hw2, trivial⟩) ⟨hbl, hpre⟩ rfl (by rw [List.length_map]; exact hn) hl.1 hstk hst2 hd hcs
theorem gx_callVN {M : gx_M} {al af : Bool} {kc ks pc : Nat} {ls : List (Nat × Value)} {st : List Value} {h : gx_H} {o : gx_O} {h1 : gx_H} {N : gx_M} {h' : gx_H} {ov : gx_O} {As : List Value} {idx n : Nat} {ci : Nat} {b : Nat} {host : String} (hd : decode (gx_b M) pc = .ok (.invokevirtual idx, 3)) (hcw : gx_Cw N al (.ref b :: As) h ov h') (hn : As.length = n) (hi : gx_ci M N n) (hS : b < gx_sz h ∧ gx_S h b = (0, ci)) (hci : ci < 10) (hw1 : ((gx_y M).cls, idx, gx_y N, host) ∈ gx_nests) (hw2 : Cond.instanceMethod (gx_y N) ∈ gx_tb) (hw3 : Cond.selects (gx_y N).cls (gx_y N) (gx_y N) ∈ gx_tb) (hC : (gx_c ci).1 = (gx_y N).cls) (hcs : kc + (gx_rm N).cells ≤ (gx_rm M).cells ∧ ks + (gx_rm N).slots ≤ (gx_rm M).slots) (hst : (st.map fun v => v.category).sum ≤ 8) (kr : ∀ v, ov = .inl v → gx_Z M al af (kc + (gx_rm N).cells) (ks + (gx_rm N).slots) (pc + 3) ls (v.toList ++ st) h' o h1) (kx : ∀ E, ov = .inr E → gx_ZX M al af (kc + (gx_rm N).cells) (ks + (gx_rm N).slots) pc ls st E h' o h1) : gx_Z M al af kc ks pc ls (As.reverse ++ .ref b :: st) h o h1 := by
  intro p l e s m args below meth c H locs la D adr K sz0 C hl hR
  obtain ⟨hh, hcN, hiN, hdN, hrN⟩ := hi
  have wd : ∀ w, w ∈ gx_tb → w.before args s = true := fun w hw => C.2.2.2.2.1 w (List.mem_cons_of_mem _ hw)
  have hbl : FrameBlind (va_Pc ((.ref b :: As).map (gx_cv adr)) (fun U => U.heap.size = H.size ∧ gx_Pr D adr K al h U)) := gx_blind
  have hpre := gx_pre hR (.ref b :: As)
  have hrec : ∃ cell : Cell, H[adr b]? = some cell ∧ cell.vm.isStatics = false ∧ s.vm.findClass (gx_c ci).1 = some cell.cls := va_recv hR.2.1 hR.1 (gx_cls ci hci).1 (by rw [gx_w_at hS.1, gx_cell_o hS.2])
  refine gx_aft kr kx C hl hR (a := ((.ref b :: As).map (gx_cv adr)).toArray) ?_
  have hst2 : 2 * (F0 m pc la ((As.reverse ++ .ref b :: st).map (gx_cv adr))).monitorRoom + ((st.map (gx_cv adr)).map fun v => v.category).sum ≤ 8 := by rw [gx_cats]; show 2 * 0 + _ ≤ 8; omega
  have hstk : (As.reverse ++ .ref b :: st).map (gx_cv adr) = (As.map (gx_cv adr)).reverse ++ .ref (adr b) :: st.map (gx_cv adr) := by simp [List.map_append, List.map_reverse, gx_cv]
  exact vx_runVN (C := (gx_c ci).1) (As := As.map (gx_cv adr)) (rest := st.map (gx_cv adr)) (g := F0 m pc la ((As.reverse ++ .ref b :: st).map (gx_cv adr))) ⟨C.1, C.2.1, C.2.2.1, C.2.2.2.1, C.2.2.2.2.1⟩ (hcw l D adr K H.size C.2.2.2.2.2.2.2.2.2) (⟨va_cnB (ws := gx_cw N :: gx_tb) (ws' := gx_tb) (bytes := gx_b N) (ret := gx_r N) (host := host) n C.2.2.2.2.1 (gx_gd hcN) (gx_cwe hh) rfl rfl (hR.2.2.2.2.2.2.2.2.1 _ hw1) (wd _ hiN) hdN hrN, wd _ hw2, by rw [hC]; exact wd _ hw3⟩) ⟨hbl, hrec, hpre⟩ rfl (by rw [List.length_map]; exact hn) hl.1 hstk hst2 hd hcs
theorem gx_callU {M : gx_M} {al af : Bool} {kc ks pc : Nat} {ls : List (Nat × Value)} {st : List Value} {h : gx_H} {o : gx_O} {h1 : gx_H} {N : gx_M} {h' : gx_H} {ov : gx_O} {As : List Value} {idx n : Nat} {ci : Nat} {b : Nat} {x : MethodName} {owner : String} (hd : decode (gx_b M) pc = .ok (.invokevirtual idx, 3)) (hcw : gx_Cw N al (.ref b :: As) h ov h') (hn : As.length = n) (hi : gx_ci M N n) (hS : b < gx_sz h ∧ gx_S h b = (0, ci)) (hci : ci < 10) (hw1 : Cond.methodLink (gx_y M).cls idx x ∈ gx_tb) (hw4 : Cond.sameMethod x.cls owner x.name x.desc ∈ gx_tb) (hw3 : Cond.selects (gx_c ci).1 x (gx_y N) ∈ gx_tb) (hw2 : Cond.instanceMethod (gx_y N) ∈ gx_tb) (hyx : gx_y N = ⟨owner, x.name, x.desc⟩) (how : owner ≠ "java/lang/invoke/MethodHandle" ∧ owner ≠ "java/lang/invoke/VarHandle" ∧ (parseMethodDescriptor x.desc).map (fun d => d.parameters.length) = some n) (hcs : kc + (gx_rm N).cells ≤ (gx_rm M).cells ∧ ks + (gx_rm N).slots ≤ (gx_rm M).slots) (hst : (st.map fun v => v.category).sum ≤ 8) (kr : ∀ v, ov = .inl v → gx_Z M al af (kc + (gx_rm N).cells) (ks + (gx_rm N).slots) (pc + 3) ls (v.toList ++ st) h' o h1) (kx : ∀ E, ov = .inr E → gx_ZX M al af (kc + (gx_rm N).cells) (ks + (gx_rm N).slots) pc ls st E h' o h1) : gx_Z M al af kc ks pc ls (As.reverse ++ .ref b :: st) h o h1 := by
  intro p l e s m args below meth c H locs la D adr K sz0 C hl hR
  obtain ⟨hh, hcN, hiN, hdN, hrN⟩ := hi
  have wd : ∀ w, w ∈ gx_tb → w.before args s = true := fun w hw => C.2.2.2.2.1 w (List.mem_cons_of_mem _ hw)
  have hbl : FrameBlind (va_Pc ((.ref b :: As).map (gx_cv adr)) (fun U => U.heap.size = H.size ∧ gx_Pr D adr K al h U)) := gx_blind
  have hpre := gx_pre hR (.ref b :: As)
  have hrec : ∃ cell : Cell, H[adr b]? = some cell ∧ cell.vm.isStatics = false ∧ s.vm.findClass (gx_c ci).1 = some cell.cls := va_recv hR.2.1 hR.1 (gx_cls ci hci).1 (by rw [gx_w_at hS.1, gx_cell_o hS.2])
  refine gx_aft kr kx C hl hR (a := ((.ref b :: As).map (gx_cv adr)).toArray) ?_
  have hst2 : 2 * (F0 m pc la ((As.reverse ++ .ref b :: st).map (gx_cv adr))).monitorRoom + ((st.map (gx_cv adr)).map fun v => v.category).sum ≤ 8 := by rw [gx_cats]; show 2 * 0 + _ ≤ 8; omega
  have hstk : (As.reverse ++ .ref b :: st).map (gx_cv adr) = (As.map (gx_cv adr)).reverse ++ .ref (adr b) :: st.map (gx_cv adr) := by simp [List.map_append, List.map_reverse, gx_cv]
  exact vx_runU (x := x) (owner := owner) (C := (gx_c ci).1) (As := As.map (gx_cv adr)) (rest := st.map (gx_cv adr)) (g := F0 m pc la ((As.reverse ++ .ref b :: st).map (gx_cv adr))) ⟨C.1, C.2.1, C.2.2.1, C.2.2.2.1, C.2.2.2.2.1⟩ (hcw l D adr K H.size C.2.2.2.2.2.2.2.2.2) (va_cwU (ws := gx_cw N :: gx_tb) (ws' := gx_tb) (bytes := gx_b N) (ret := gx_r N) (C := (gx_c ci).1) (owner := owner) (x := x) n C.2.2.2.2.1 (goodIn_app (gx_goodIn (List.forall_mem_cons.mpr ⟨hw1, List.forall_mem_cons.mpr ⟨hw4, List.forall_mem_cons.mpr ⟨hw3, List.forall_mem_cons.mpr ⟨hw2, List.forall_mem_cons.mpr ⟨hiN, fun _ h => absurd h List.not_mem_nil⟩⟩⟩⟩⟩)) (gx_gd hcN)) (gx_cwe hh) rfl rfl hyx how hrN) ⟨hbl, hrec, hpre⟩ rfl (by rw [List.length_map]; exact hn) hl.1 hstk hst2 hd hcs
theorem gx_callA {M : gx_M} {al af : Bool} {kc ks pc : Nat} {ls : List (Nat × Value)} {st : List Value} {h : gx_H} {o : gx_O} {h1 : gx_H} {N : gx_M} {h' : gx_H} {ov : gx_O} {As : List Value} {idx n : Nat} {ci : Nat} {b : Nat} {x : MethodName} {owner : String} (hd : decode (gx_b M) pc = .ok (.invokevirtual idx, 3)) (hcw : gx_Cw N al (.ref b :: As) h ov h') (hn : As.length = n) (hi : gx_ci M N n) (hS : b < gx_sz h ∧ gx_S h b = (0, ci)) (hci : ci < 10) (hw1 : Cond.methodLink (gx_y M).cls idx x ∈ gx_tb) (hw4 : Cond.sameMethod x.cls owner x.name x.desc ∈ gx_tb) (hw3 : Cond.selects (gx_c ci).1 x (gx_y N) ∈ gx_tb) (hw2 : Cond.instanceMethod (gx_y N) ∈ gx_tb) (hyx : (⟨owner, x.name, x.desc⟩ : MethodName) ∈ gx_decls) (how : owner ≠ "java/lang/invoke/MethodHandle" ∧ owner ≠ "java/lang/invoke/VarHandle" ∧ (parseMethodDescriptor x.desc).map (fun d => d.parameters.length) = some n) (hcs : kc + (gx_rm N).cells ≤ (gx_rm M).cells ∧ ks + (gx_rm N).slots ≤ (gx_rm M).slots) (hst : (st.map fun v => v.category).sum ≤ 8) (kr : ∀ v, ov = .inl v → gx_Z M al af (kc + (gx_rm N).cells) (ks + (gx_rm N).slots) (pc + 3) ls (v.toList ++ st) h' o h1) (kx : ∀ E, ov = .inr E → gx_ZX M al af (kc + (gx_rm N).cells) (ks + (gx_rm N).slots) pc ls st E h' o h1) : gx_Z M al af kc ks pc ls (As.reverse ++ .ref b :: st) h o h1 := by
  intro p l e s m args below meth c H locs la D adr K sz0 C hl hR
  obtain ⟨hh, hcN, hiN, hdN, hrN⟩ := hi
  have wd : ∀ w, w ∈ gx_tb → w.before args s = true := fun w hw => C.2.2.2.2.1 w (List.mem_cons_of_mem _ hw)
  have hbl : FrameBlind (va_Pc ((.ref b :: As).map (gx_cv adr)) (fun U => U.heap.size = H.size ∧ gx_Pr D adr K al h U)) := gx_blind
  have hpre := gx_pre hR (.ref b :: As)
  have hrec : ∃ cell : Cell, H[adr b]? = some cell ∧ cell.vm.isStatics = false ∧ s.vm.findClass (gx_c ci).1 = some cell.cls := va_recv hR.2.1 hR.1 (gx_cls ci hci).1 (by rw [gx_w_at hS.1, gx_cell_o hS.2])
  refine gx_aft kr kx C hl hR (a := ((.ref b :: As).map (gx_cv adr)).toArray) ?_
  have hst2 : 2 * (F0 m pc la ((As.reverse ++ .ref b :: st).map (gx_cv adr))).monitorRoom + ((st.map (gx_cv adr)).map fun v => v.category).sum ≤ 8 := by rw [gx_cats]; show 2 * 0 + _ ≤ 8; omega
  have hstk : (As.reverse ++ .ref b :: st).map (gx_cv adr) = (As.map (gx_cv adr)).reverse ++ .ref (adr b) :: st.map (gx_cv adr) := by simp [List.map_append, List.map_reverse, gx_cv]
  exact vx_runU (x := x) (owner := owner) (C := (gx_c ci).1) (As := As.map (gx_cv adr)) (rest := st.map (gx_cv adr)) (g := F0 m pc la ((As.reverse ++ .ref b :: st).map (gx_cv adr))) ⟨C.1, C.2.1, C.2.2.1, C.2.2.2.1, C.2.2.2.2.1⟩ (hcw l D adr K H.size C.2.2.2.2.2.2.2.2.2) (va_cwA (ws := gx_cw N :: gx_tb) (ws' := gx_tb) (bytes := gx_b N) (ret := gx_r N) (C := (gx_c ci).1) (owner := owner) (x := x) n C.2.2.2.2.1 (goodIn_app (gx_goodIn (List.forall_mem_cons.mpr ⟨hw1, List.forall_mem_cons.mpr ⟨hw4, List.forall_mem_cons.mpr ⟨hw3, List.forall_mem_cons.mpr ⟨hw2, List.forall_mem_cons.mpr ⟨hiN, fun _ h => absurd h List.not_mem_nil⟩⟩⟩⟩⟩)) (gx_gd hcN)) (gx_cwe hh) rfl rfl (hR.2.2.2.2.2.2.2.2.2.2.2.2 _ hyx) how hrN) ⟨hbl, hrec, hpre⟩ rfl (by rw [List.length_map]; exact hn) hl.1 hstk hst2 hd hcs
/-- Object's constructor -/
theorem gx_obj {M : gx_M} {al af : Bool} {kc ks pc : Nat} {ls : List (Nat × Value)} {st : List Value} {h : gx_H} {o : gx_O} {h1 : gx_H} {b idx : Nat} (hd : decode (gx_b M) pc = .ok (.invokespecial idx, 3)) (hw1 : Cond.methodLink (gx_y M).cls idx Lib.objectInit ∈ gx_tb) (hw2 : Cond.instanceMethod Lib.objectInit ∈ gx_tb) (hw3 : Cond.code Lib.objectInit ⟨#[0xb1]⟩ 1 none ∈ gx_tb) (hf : 1 ≤ (gx_rm M).frames) (hlo : (st.map fun v => v.category).sum + 12 ≤ (gx_rm M).locals) (kk : gx_Z M al af kc ks (pc + 3) ls st h o h1) : gx_Z M al af kc ks pc ls (.ref b :: st) h o h1 := by
  intro p l e s m args below meth c H locs la D adr K sz0 C hl hR
  have wd : ∀ w, w ∈ gx_tb → w.before args s = true := fun w hw => C.2.2.2.2.1 w (List.mem_cons_of_mem _ hw)
  exact W.objInit (g := F0 m pc la ((Value.ref b :: st).map (gx_cv adr))) (rest := st.map (gx_cv adr)) (a := adr b) C.1 C.2.1 C.2.2.2.1 (wd _ hw1) (wd _ hw2) (wd _ hw3) rfl (by rw [C.2.2.1]; exact hl.1) rfl hd hf (by rw [gx_cats]; show 2 * 0 + _ + 12 ≤ _; omega) (kk p l e s m args below meth c H locs la D adr K sz0 C hl hR)
