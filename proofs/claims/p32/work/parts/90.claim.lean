/-! THE CLAIM OUT OF ONE WALK OF THE LAW'S BODY. Your part is whole_start (and what it stands on); all else here is the same for every law, but numbers. -/
def R_law : String := "GrammarsmithLaw"
def lw_P (b : Addr) (xs : List Int32) (args : Array Value) (s : State) : Prop := args = #[.ref b] ∧ s.IntsAt b xs ∧ xs.length ≤ 260 ∧ (Jvm.Cond.and given_1 narrow_1).before args s = true
def lw_Q (_ : Array Value) (s : State) (o : Outcome) (t : State) : Prop := o = .returned (some (.int 1)) ∧ Framed s o t [] 600130 7301080
def lw_Z (below : List Frame) (a : Array Value) (s : State) : State → Prop := fun t => ∃ o, t.status = .running ∧ Ended t below o ∧ lw_Q a s o t
/-- what holds at the law's entry: the machine, the code, the tables' words (any of lw_tbl by 'hts w (by decide +kernel)'), the script of L ints xs at the cell b, what the Statement gives of the start (any of its parts by flat_of_before) -/
def lw_At (p : Program) (s : State) (m : MethodId) (meth : Method) (c : Code) (b L : Nat) (xs : Nat → Int32) : Prop :=
  p.tables.exec = Jvm.exec ∧ c.code = code ∧ meth.sig.returnType = ret ∧ c.maxLocals = 14 ∧ s.vm.findClass R_law = some m.cls ∧ (∀ w ∈ lw_tbl, w.before #[Value.ref b] s = true) ∧ va_X b L xs s s.heap ∧ b < s.heap.size ∧ meth.locks = false ∧ (Jvm.Cond.and given_1 narrow_1).before #[Value.ref b] s = true ∧ (Jvm.Cond.code x code maxLocals ret).before #[Value.ref b] s = true ∧ meth.name = x.name ∧ (∀ z ∈ c.exceptionTable.toList, False)
-- ===== YOUR PART BEGINS =====
def gi_e : gi_H := (0, fun _ => (0, 0), fun _ _ => 0, fun _ _ => 0, fun _ _ => none)
theorem gx_kA {s : State} {args : Array Value} {t : FieldType} (hg : ∀ C, t ≠ .object C) (h : (Cond.arrayClass t).before args s = true) : ∃ cA, ArrOfT s cA t ∧ va_RA s cA t := by
  obtain ⟨cA, kA, comp, h1, h2, h3⟩ := Cond.arrayClass_spec h
  refine ⟨cA, fun n z => ⟨fun k h => (by cases h), kA, h2, comp, h3⟩, ?_⟩
  cases t with
  | object C => exact absurd rfl (hg C)
  | _ => exact h1
theorem gx_kO {s : State} {args : Array Value} {C : String} (h : (Cond.arrayOver (.object C)).before args s = true) : ∃ cA, ArrOfT s cA (.object C) ∧ va_RA s cA (.object C) := by
  obtain ⟨comp, cA, kA, h1, -, h3, h4, h5⟩ := Cond.arrayOver_spec h
  exact ⟨cA, fun n z => ⟨fun k h => (by cases h), kA, h3, comp, h4⟩, kA, comp, h3, h4, h1, h5⟩
theorem gx_same {s t : State} {L : List Loc} {k n : Nat} (h : s.sameButNew t L k n) (hL : ∀ q ∈ L, s.heap.size ≤ q.base) : s.sameButNew t [] k n := by
  obtain ⟨h1, h2, h3, h4, h5, h6⟩ := h
  refine ⟨h1, h2, h3, h4, h5, fun a c hc => ?_⟩
  obtain ⟨c', k1, k2, k3, k4⟩ := h6 a c hc
  refine ⟨c', k1, k2, k3, fun i _ => k4 i (fun hm => ?_)⟩
  have h7 := hL _ hm
  have h8 : a < s.heap.size := (Array.getElem?_eq_some_iff.mp hc).1
  exact absurd h8 (Nat.not_lt.mpr h7)
theorem gx_clsAt (n : Nat) {Q : Nat → Prop} (h : ∀ i, i < n → ∃ a, Q a) : True := trivial
set_option maxRecDepth 100000 in
set_option maxHeartbeats 4000000 in
theorem gx_flatIn : (∀ q ∈ gx_strs, Cond.exactly (.string q.1 q.2.1) "java/lang/String" ∈ flatC (Jvm.Cond.and given_1 narrow_1)) ∧ (∀ q ∈ gx_ncs, Cond.not (.castable q.1 q.2) ∈ flatC (Jvm.Cond.and given_1 narrow_1)) ∧ Cond.isRef (.static Bundle.tN "UNASSIGNED_STACK" Bundle.steD) ∈ flatC (Jvm.Cond.and given_1 narrow_1) ∧ Cond.isRef (.static Bundle.tN "SUPPRESSED_SENTINEL" Bundle.listD) ∈ flatC (Jvm.Cond.and given_1 narrow_1) := by decide +kernel
set_option maxRecDepth 100000 in
theorem gx_tabIn : (∀ q ∈ gx_strs, Cond.stringRef q.1 q.2.1 q.2.2 ∈ tables_1) ∧ (∀ q ∈ gx_nests, Cond.methodLinkNest q.1 q.2.1 q.2.2.1 q.2.2.2 ∈ tables_1) ∧ Cond.arrayOver (.object RX8) ∈ tables_1 ∧ (∀ E ∈ gx_exs, Cond.castable E E ∈ tables_1) ∧ (∀ x ∈ gx_decls, Cond.declares x ∈ tables_1) ∧ Cond.laysStatic Bundle.tN "UNASSIGNED_STACK" Bundle.steD ∈ tables_1 ∧ Cond.laysStatic Bundle.tN "SUPPRESSED_SENTINEL" Bundle.listD ∈ tables_1 ∧ Cond.initialized Bundle.tN ∈ tables_1 ∧ Cond.arrayClass .int ∈ tables_1 ∧ Cond.arrayClass .long ∈ tables_1 ∧ Cond.arrayClass .char ∈ tables_1 ∧ Cond.arrayClass .boolean ∈ tables_1 := by decide +kernel
set_option maxRecDepth 100000 in
theorem gx_insts : ∀ ci, ci < 10 → Cond.instantiable (gx_c ci).1 (gx_c ci).2.2 ∈ tables_1 := by decide +kernel
theorem whole_start {p : Program} {e : Env} {s : State} {m : MethodId} {below : List Frame} {meth : Method} {c : Code} (l : Launch) (hflags : l.flags = flags0) {b L : Nat} {xs : Nat → Int32} (hL : L ≤ 260) (C0 : lw_At p s m meth c b L xs) : W p l e room_1 s m #[Value.ref b] below meth c s.heap [] 0 0 (lw_Z below #[Value.ref b] s) (entryFrame m ([Value.ref b] : List Value).toArray 14) := by
  obtain ⟨hx, hb, hr, hml, hown, hts, hX, hbl, hlocks, hgv, hcode, hname, htab⟩ := id C0
  obtain ⟨n, h1, hpure⟩ := law_pure L (fun j => (xs j).toInt) hL (fun j => ⟨Int32.minValue_le_toInt (xs j), Int32.toInt_le (xs j)⟩)
  have hz := z_L_law (h := gi_e) hpure
  have hq := flat_of_before _ hgv
  obtain ⟨F1, F2, F3, F4⟩ := gx_flatIn
  obtain ⟨T1, T2, T3, T4, T5, T6, T7, T8, T9, T10, T11, T12⟩ := gx_tabIn
  have up : ∀ w ∈ tables_1, w.before #[Value.ref b] s = true := fun w hw => hts w (List.mem_append_right _ hw)
  -- the classes, the classes of arrays
  have hcl : ∀ ci, ci < 10 → ∃ (dC : ClassId) (dI : Nat → Nat), u_Kn s (gx_c ci).1 (gx_c ci).2.1 (gx_c ci).2.2 dC dI := by
    intro ci hci
    obtain ⟨hc, hin, hty, hnm⟩ := gx_cls ci hci
    exact u_known (n := (gx_c ci).2.2) (gx_tbS hts) hin (up _ (gx_insts ci hci))
  obtain ⟨K1, a1, r1⟩ := gx_kA (by intro C q; cases q) (up _ T9)
  obtain ⟨K2, a2, r2⟩ := gx_kA (by intro C q; cases q) (up _ T10)
  obtain ⟨K3, a3, r3⟩ := gx_kA (by intro C q; cases q) (up _ T11)
  obtain ⟨K4, a4, r4⟩ := gx_kA (by intro C q; cases q) (up _ T12)
  obtain ⟨K5, a5, r5⟩ := gx_kO (up _ T3)
  have hD : ∃ D : va_G, ∀ ci, ci < 10 → u_Kn s (gx_c ci).1 (gx_c ci).2.1 (gx_c ci).2.2 (D.1 ci) (D.2 ci) := by
    refine ⟨(fun ci => if h : ci < 10 then (hcl ci h).choose else 0, fun ci => if h : ci < 10 then (hcl ci h).choose_spec.choose else fun _ => 0), fun ci h => ?_⟩
    simp only [dif_pos h]
    exact (hcl ci h).choose_spec.choose_spec
  obtain ⟨D, hD⟩ := hD
  let adr : Nat → Nat := fun i => if i < 100000 then s.heap.size + i else b
  let K : Nat → ClassId := fun i => if i = 1 then K1 else if i = 2 then K2 else if i = 3 then K3 else if i = 4 then K4 else K5
  have hadr : adr 100000 = b := rfl
  have hK : va_K D vwCl (gx_tk K) s := by
    refine ⟨fun ci q hq0 => ?_, fun k q hk => ?_⟩
    · have hci : ci < 10 := (List.getElem?_eq_some_iff.mp hq0).1
      have h2 := (gx_cls ci hci).1
      rw [h2] at hq0
      cases hq0
      exact hD ci hci
    · match k, hk with
      | 0, hk => cases hk; exact ⟨a1, r1⟩
      | 1, hk => cases hk; exact ⟨a2, r2⟩
      | 2, hk => cases hk; exact ⟨a3, r3⟩
      | 3, hk => cases hk; exact ⟨a4, r4⟩
      | 4, hk => cases hk; exact ⟨a5, r5⟩
      | k + 5, hk => simp [gx_tk] at hk
  have hst : l.stackTraces = false := by unfold Launch.stackTraces; rw [hflags]; decide +kernel
  have hl := lv_entry ([.ref b]) (n := 14) (Nat.le_of_ble_eq_true rfl)
  rw [lg_entry_eq]
  generalize (lg_sl ([.ref b]) ++ List.replicate (14 - (lg_sl ([.ref b])).length) Slot.unset).toArray = la at hl ⊢
  have hl : lv_has la 14 (gx_lv adr [(0, .ref 100000)]) := hl
  have hA0 : ∀ q : Nat, q < s.heap.size → ¬ gx_A adr 0 s.heap.size q := by
    rintro q hq1 (⟨i, hi, -⟩ | z)
    · omega
    · omega
  have hV : gx_V s := by
    refine ⟨fun q hq0 => ?_, fun q hq0 => va_Nw.of rfl (up _ (T2 q hq0)), va_AO.of (up _ T3), fun E hE => va_Nw.of rfl (up _ (T4 E hE)), fun q hq0 => va_Nc.of (hq _ (F2 q hq0)), fun y hy => va_Nw.of rfl (up _ (T5 y hy))⟩
    obtain ⟨a, cc, cell, k, he, -⟩ := Cond.exactly_spec (hq _ (F1 q hq0))
    exact ⟨a, vk_R.of (up _ (T1 q hq0)) he⟩
  have hs0 : gx_s0 (mL_law L (fun j => (xs j).toInt)) 0 = 0 := rfl
  have hW := hz p l e s m #[Value.ref b] below meth c s.heap [] la D adr K 0 ⟨hx, hb, hml, hown, ?_, hr, hlocks, ⟨hname, ?_⟩, ?_, hst⟩ hl ?_
  · intro T hT X
    obtain ⟨t, g1, oc, g2, g3, g4⟩ := hW T hT X
    refine ⟨t, g1, oc, g2, g3, ?_⟩
    rcases g4 with ⟨⟨⟨v, hv, hoc⟩, -, -⟩, L9, hF, hL9⟩ | ⟨q, -, E, ce, L9, hX9, -⟩
    · cases hv
      refine ⟨by rw [hoc]; rfl, hF.1, hF.2.1, gx_same hF.2.2 (fun q hq9 => ?_)⟩
      have := hL9 q hq9
      rw [hs0] at this
      rcases this with ⟨i, hi, -⟩ | z
      · omega
      · exact z
    · cases hX9.1
  · exact List.forall_mem_cons.mpr ⟨hcode, gx_tbS hts⟩
  · intro q hq0
    cases hq0
    refine ⟨?_, hbl, fun i hi => by show (if i < 100000 then s.heap.size + i else b) ≠ b; rw [if_pos hi]; omega⟩
    have e9 : (fun j => gI ((xs j).toInt)) = xs := by funext j; exact gI_of (xs j)
    show va_X b L (fun j => gI ((xs j).toInt)) s s.heap
    rw [e9]; exact hX
  · show c.exceptionTable.toList = []
    cases h9 : c.exceptionTable.toList with
    | nil => rfl
    | cons z zs => exact (htab z (by rw [h9]; exact List.mem_cons_self)).elim
  · rw [hs0]
    refine ⟨fun k q h => ?_, hK, ⟨fun i j p q h => ?_, fun k q h => ?_⟩, va_S.rf, fun _ i hi => ?_, ?_, ?_, hV⟩
    · exact absurd h (by simp [gx_w, gx_sz, gi_cv, gi_e])
    · exact absurd h (by simp [gx_w, gx_sz, gi_cv, gi_e])
    · exact absurd h (by simp [gx_w, gx_sz, gi_cv, gi_e])
    · show (if 0 + i < 100000 then s.heap.size + (0 + i) else b) = s.heap.size + i
      have hi : 0 + i < 100000 := hi
      rw [if_pos hi]; omega
    · exact vx_Zqof (up _ T6) (up _ T8) (hq _ F3) hA0
    · exact vx_Zqof (up _ T7) (up _ T8) (hq _ F4) hA0
-- ===== YOUR PART ENDS =====
set_option maxHeartbeats 4000000 in
theorem lw_walk (l : Launch) (hflags : l.flags = flags0) (b : Addr) (xs : List Int32) : MetFree l x (headSpec (Jvm.Cond.code x code maxLocals ret :: tables_1) room_1) (lw_P b xs) (fun _ _ _ _ _ => True) lw_Q := by
  refine MetFree.of_bodyS (code := code) (maxLocals := maxLocals) (ret := ret) (by decide) ?_ ?_
  · intro args s m h hn
    obtain ⟨meth, c, h1, h2, h3, h4, h5, h6, -, -⟩ := Cond.code_spec hn (atoms_spec (ws := Jvm.Cond.code x code maxLocals ret :: tables_1) h _ List.mem_cons_self)
    exact ⟨meth, c, h1, h2, h3, h4, h5, h6⟩
  · intro p e s m args below meth c s₁ B hml0 hP _
    obtain ⟨rfl, hx, hbd, hgv⟩ := hP
    obtain ⟨scr, harrAt, hlist, hof, hsmall⟩ := hx
    obtain ⟨hcb, hkn, -, -⟩ := State.arrayAt?_spec harrAt
    have hown : s.vm.findClass R_law = some m.cls := findClass_of_methodNamed B.named
    have hts0 : ∀ c ∈ (Jvm.Cond.code x code maxLocals ret :: tables_1), c.before #[Value.ref b] s = true := atoms_spec (ws := Jvm.Cond.code x code maxLocals ret :: tables_1) B.pre
    have hts : ∀ w ∈ lw_tbl, w.before #[Value.ref b] s = true := k2_hts_sels lw_privs (fun w hw => hts0 w (List.mem_cons_of_mem _ hw)) lw_privs_ok
    have hml : c.maxLocals = 14 := B.maxLocals_eq (hts0 _ List.mem_cons_self)
    have X₀ : Stand p l e room_1 s m #[Value.ref b] below meth c s₁ [] 0 0 := Stand.of_body B
    have hh0 : s₁.heap = s.heap := by rw [B.state]; rfl
    have hsz : scr.slots.size = xs.length := by rw [← Array.length_toList, hlist, List.length_map]
    have hval : ∀ j : Nat, j < xs.length → scr.slots[j]? = some (.int (xs.getD j 0)) := fun j hj => by
      rw [← Array.getElem?_toList, hlist]
      simp [hj]
    have hbl : b < s.heap.size := (Array.getElem?_eq_some_iff.mp hcb).1
    have hX : va_X b xs.length (fun j => xs.getD j 0) s s.heap := ⟨scr, hcb, hof, hkn, hsz, hval⟩
    have K : W p l e room_1 s m #[Value.ref b] below meth c s₁.heap [] 0 0 (lw_Z below #[Value.ref b] s) (entryFrame m ([Value.ref b] : List Value).toArray 14) := by
      rw [hh0]
      have htab : ∀ z ∈ c.exceptionTable.toList, False := by
        obtain ⟨meth9, c9, g1, g2, -, -, -, -, g7, -⟩ := Cond.code_spec B.named (hts0 _ List.mem_cons_self)
        cases Option.some.inj (g1.symm.trans B.method)
        cases Option.some.inj (g2.symm.trans (Stand.of_body B).code)
        intro z hz
        rw [Array.isEmpty_iff.mp g7] at hz
        cases hz
      exact whole_start l hflags hbd ⟨B.exec, B.bytes, B.returns, hml, hown, hts, hX, hbl, B.notSynchronized, hgv, hts0 _ List.mem_cons_self, (name_of_methodNamed B.named B.method).1, htab⟩
    obtain ⟨t, a1, o, b1, b2, b3⟩ := K s₁ rfl X₀
    exact ⟨t, o, a1, b1, b2, b3⟩
theorem lw_pre_spec {args : Array Value} {s : State} (h : (Jvm.Cond.and given_1 narrow_1).before args s = true) (hr : rest_1_c.before args s = true) : ∃ (b : Addr) (xs : List Int32), lw_P b xs args s := by
  have hs := flat_of_before _ h
  have hq := flat_of_before _ hr
  have hc : (Cond.count 1).before args s = true := hs _ (by decide +kernel)
  have harr : (Cond.arrayOf (.arg 0) .int).before args s = true := hs _ (by decide +kernel)
  have hle : (Cond.le (.length (.arg 0)) (.int 260)).before args s = true := hs _ (by decide +kernel)
  have hlen : (Cond.isInt (.length (.arg 0))).before args s = true := hq _ (by decide +kernel)
  have hall : (Cond.all (.arg 0) (.isInt (.elem (.arg 0) (.index 0)))).before args s = true := hq _ (by decide +kernel)
  obtain ⟨b, xs, hb, hx⟩ := State.ints_of_pre rfl harr hlen hall
  have hsm : xs.length < 2 ^ 31 := hx.choose_spec.2.2.2
  have hev : (Term.length (.arg 0)).eval args s none [] s = some (.int xs.length.toInt32) := hx.length_eval hb
  have hv := Cond.le_ints hev (show (Term.int 260).eval args s none [] s = some (.int 260) from rfl)
  have hd : xs.length.toInt32 ≤ 260 := by
    simpa [Cond.before, Cond.holds, hv] using hle
  have hN : xs.length ≤ 260 := (Int32.ofNat_le_ofNat hsm (by decide)).mp (show Int32.ofNat xs.length ≤ Int32.ofNat 260 from hd)
  exact ⟨b, xs, Cond.one_arg hc (show args[0]? = some (.ref b) from hb), hx, hN, h⟩
theorem lw_comes (l : Launch) (hflags : l.flags = flags0) : Comes l x (Jvm.Cond.code x code maxLocals ret :: tables_1) room_1 (fun tb e args s => Calls_1 tb e args s ∧ rest_1 tb e args s ∧ Pre_1 tb e args s)
    (fun _ _ args s o t => lw_Q args s o t) := by
  intro p e ha hc hk s m args below hf hfit hheap happ hpre
  obtain ⟨b, xs, hP⟩ := lw_pre_spec hpre.2.2 hpre.2.1
  obtain ⟨k, o, h1, h2, h3, hQ⟩ := lw_walk l hflags b xs p e ha hc hk s m args below hf ((Spec.applies_iff_loose hf).mp happ).1 hP trivial
  exact ⟨k, o, h1, h2, h3, hQ⟩
theorem lw_frame {s t : State} {o : Outcome} {args : Array Value} (h : Framed s o t [] 600130 7301080) :
    Framed s o t (fieldLocs frame_1_writes args s ++ arrayLocs frame_1_arrays args s ++ staticLocs frame_1_statics s) 600130 7301080 := h
theorem lw_limb (L : Cond) (hL : ∀ (args : Array Value) (s t : State), L.after args s (.returned (some (.int 1))) t = true) :
    ArmFor flags0 classFile x code maxLocals ret World_1 tables_1 room_1 Calls_1 rest_1 Pre_1
      (fun tb e a s o t => postC L tb e a s o t ∧ Framed s o t (fieldLocs frame_1_writes a s ++ arrayLocs frame_1_arrays a s ++ staticLocs frame_1_statics s) 600130 7301080) := by
  intro l hflags _ _ p e ha hc hk s m args below hf hfit hheap happ hpre
  obtain ⟨k, o, h1, h2, h3, rfl, hF⟩ := lw_comes l hflags p e ha hc hk s m args below hf hfit hheap happ hpre
  exact ⟨k, _, h1, h2, h3, hL args s _, lw_frame hF⟩
theorem i_vc : Claimed_1_1 ∧ Claimed_1_2 := ⟨lw_limb limb_1_1 (fun args s t => by simp [limb_1_1, Cond.after, Cond.holds, Cond.value]), lw_limb limb_1_2 (fun args s t => Cond.after_iff.mpr (by
  first | (rw [show limb_1_2 = Cond.eq .result (.int 1) from rfl, Cond.eq_ints (x := 1) (y := 1) rfl rfl]; simp; done) | (simp [limb_1_2, Cond.value, Term.eval]; done)))⟩
