/-! ===== throws out of Grammarsmith's methods, and their catching by the law's ===== -/
def gx_nmE : List String := ["java/lang/RuntimeException", "java/lang/Exception"]
def gx_IAE : String := "java/lang/IllegalArgumentException"
def gx_ISE : String := "java/lang/IllegalStateException"
def gx_IOB : String := "java/lang/IndexOutOfBoundsException"
/-- the words of a throw: good ones of the tables, or among what the tables say beside -/
def gx_atok (w : Cond) : Bool := decide (w ∈ gx_tb) || decide (w ∈ gx_exs.map (fun E => Cond.castable E E)) || decide (w ∈ gx_decls.map Cond.declares)
theorem gx_atw {w : Cond} {s : State} {args : Array Value} (h : gx_atok w = true) (hts : ∀ w ∈ gx_tb, w.before args s = true) (hV : gx_V s) : w.before args s = true := by
  simp only [gx_atok, Bool.or_eq_true, decide_eq_true_eq] at h
  rcases h with (h | h) | h
  · exact hts w h
  · obtain ⟨E, hE, rfl⟩ := List.mem_map.mp h
    exact va_Nw.use rfl (hV.2.2.2.1 E hE)
  · obtain ⟨x, hx, rfl⟩ := List.mem_map.mp h
    exact va_Nw.use rfl (hV.2.2.2.2.2 x hx)
def gx_thok (ik is ic : Nat) (E tx : String) : Prop := Cond.classLink RX11 ik E ∈ gx_tb ∧ Cond.initialized E ∈ gx_tb ∧ (RX11, is, tx) ∈ gx_strs ∧ (vx_atS RX11 ic E gx_nmE).all gx_atok = true ∧ (Cond.classLink RX11 ik E :: Cond.initialized E :: vx_atS RX11 ic E gx_nmE).all vx_ot = true ∧ Bundle.fit E = true
theorem gx_XCof {D : va_G} {adr : Nat → Nat} {K : Nat → ClassId} {al : Bool} {sz0 : Nat} {h : gx_H} {s : State} {H : Heap} {locs : List Loc} (hR : gx_Rl D adr K al sz0 h s H locs) {E : String} {t : State} (hW : s.vm.Alike t.vm) (h1 : H.size ≤ t.heap.size) (h2 : ∀ q : Nat, q < H.size → t.heap[q]? = H[q]?) : gx_XC D adr K false sz0 (.inr E) h E s t := by
  obtain ⟨hP, hK, hD, hSs, hT, hX⟩ := hR
  exact ⟨rfl, ⟨hP.kept (fun k q hk => h2 q.1 (hP k q hk).lt), va_K.moved hW hK, hD, fun z => by cases z⟩, Nat.le_trans hSs.1 h1, fun q a1 a2 => (h2 q (Nat.lt_of_lt_of_le a1 hSs.1)).trans (hSs.2.1 q a1 a2)⟩
theorem gx_throw {M : gx_M} {al : Bool} {kc ks pc : Nat} {ls : List (Nat × Value)} {st : List Value} {h : gx_H} {ik is ic : Nat} {E tx : String} (hown : (gx_y M).cls = RX11) (hok : gx_thok ik is ic E tx) (hh : gx_hh M = [])
    (d0 : decode (gx_b M) pc = .ok (.new ik, 3)) (d3 : decode (gx_b M) (pc + 3) = .ok (.dup, 1)) (d4 : decode (gx_b M) (pc + 4) = .ok (.ldc is, 2)) (d6 : decode (gx_b M) (pc + 6) = .ok (.invokespecial ic, 3)) (d9 : decode (gx_b M) (pc + 9) = .ok (.athrow, 1))
    (hf : 5 < (gx_rm M).frames) (hlo : (st.map fun v => v.category).sum + 82 ≤ (gx_rm M).locals) (hcs : kc + 1 ≤ (gx_rm M).cells ∧ ks + 6 ≤ (gx_rm M).slots) : gx_Z M al false kc ks pc ls st h (.inr E) h := by
  intro p l e s m args below meth c H locs la D adr K sz0 C hl hR
  obtain ⟨hik, hini, hstr, hat, hgood, hfit⟩ := hok
  have wd : ∀ w, w ∈ gx_tb → w.before args s = true := fun w hw => C.2.2.2.2.1 w (List.mem_cons_of_mem _ hw)
  have hV := hR.2.2.2.2.2.2.2
  obtain ⟨sa, hsa⟩ := hV.1 _ hstr
  refine vx_throwS (own := RX11) (names := gx_nmE) (A := gx_A adr (gx_s0 M sz0) s.heap.size) C.1 C.2.1 C.2.2.2.2.2.2.2.2.2 (by rw [← hown]; exact C.2.2.2.1) hfit (by decide +kernel) (wd _ hik) (wd _ hini) hsa (fun w hw => gx_atw (List.all_eq_true.mp hat w hw) wd hV) (fun w hw => List.all_eq_true.mp hgood w hw) hR.2.2.2.2.2.1 hR.2.2.2.2.2.2.1 hR.2.2.2.1 (by rw [C.2.2.1]; exact hl.1) d0 d3 d4 d6 d9 (fun x hx => ?_) (by show 2 + 3 < _; omega) (by rw [gx_cats]; show _ + (13 * (2 + 1) + 43) ≤ _; omega) hcs.1 hcs.2 C.2.2.2.2.2.2.1 (fun t hW h1 h2 => gx_XCof hR hW h1 h2) hR.2.2.2.1.2.2 hcs.1 hcs.2
  rw [C.2.2.2.2.2.2.2.2.1, hh] at hx
  cases hx
theorem gx_throwW {M : gx_M} {al : Bool} {kc ks pc : Nat} {ls : List (Nat × Value)} {st : List Value} {h : gx_H} {ik is ic : Nat} {E tx : String} (hown : (gx_y M).cls = RX11) (hok : gx_thok ik is ic E tx) (hh : gx_hh M = [])
    (d0 : decode (gx_b M) pc = .ok (.new ik, 3)) (d3 : decode (gx_b M) (pc + 3) = .ok (.dup, 1)) (d4 : decode (gx_b M) (pc + 4) = .ok (.ldc_w is, 3)) (d6 : decode (gx_b M) (pc + 7) = .ok (.invokespecial ic, 3)) (d9 : decode (gx_b M) (pc + 10) = .ok (.athrow, 1))
    (hf : 5 < (gx_rm M).frames) (hlo : (st.map fun v => v.category).sum + 82 ≤ (gx_rm M).locals) (hcs : kc + 1 ≤ (gx_rm M).cells ∧ ks + 6 ≤ (gx_rm M).slots) : gx_Z M al false kc ks pc ls st h (.inr E) h := by
  intro p l e s m args below meth c H locs la D adr K sz0 C hl hR
  obtain ⟨hik, hini, hstr, hat, hgood, hfit⟩ := hok
  have wd : ∀ w, w ∈ gx_tb → w.before args s = true := fun w hw => C.2.2.2.2.1 w (List.mem_cons_of_mem _ hw)
  have hV := hR.2.2.2.2.2.2.2
  obtain ⟨sa, hsa⟩ := hV.1 _ hstr
  refine vx_throwSW (own := RX11) (names := gx_nmE) (A := gx_A adr (gx_s0 M sz0) s.heap.size) C.1 C.2.1 C.2.2.2.2.2.2.2.2.2 (by rw [← hown]; exact C.2.2.2.1) hfit (by decide +kernel) (wd _ hik) (wd _ hini) hsa (fun w hw => gx_atw (List.all_eq_true.mp hat w hw) wd hV) (fun w hw => List.all_eq_true.mp hgood w hw) hR.2.2.2.2.2.1 hR.2.2.2.2.2.2.1 hR.2.2.2.1 (by rw [C.2.2.1]; exact hl.1) d0 d3 d4 d6 d9 (fun x hx => ?_) (by show 2 + 3 < _; omega) (by rw [gx_cats]; show _ + (13 * (2 + 1) + 43) ≤ _; omega) hcs.1 hcs.2 C.2.2.2.2.2.2.1 (fun t hW h1 h2 => gx_XCof hR hW h1 h2) hR.2.2.2.1.2.2 hcs.1 hcs.2
  rw [C.2.2.2.2.2.2.2.2.1, hh] at hx
  cases hx
set_option maxRecDepth 100000 in
theorem gx_thIAE : (vx_atS RX11 109 gx_IAE gx_nmE).all gx_atok = true ∧ (vx_atS RX11 120 gx_ISE gx_nmE).all gx_atok = true ∧ (vx_atS RX11 155 gx_IOB gx_nmE).all gx_atok = true := by decide +kernel
/-- caught by the row x of the table, behind rows that don't take it; the exception goes into a local that is not looked at -/
theorem gx_catch {M : gx_M} {al af : Bool} {kc ks pc : Nat} {ls ls2 : List (Nat × Value)} {st : List Value} {h : gx_H} {o : gx_O} {h1 : gx_H} {E : String} (pre : List (Nat × Nat × Nat × Nat)) {x : Nat × Nat × Nat × Nat} {suf : List (Nat × Nat × Nat × Nat)} (hh : gx_hh M = pre ++ x :: suf)
    (hpre : ∀ z ∈ pre, z.2.2.2 ≠ 0 ∧ ∃ nm : String, Cond.classLink (gx_y M).cls z.2.2.2 nm ∈ gx_tb ∧ (E, nm) ∈ gx_ncs) (hcov : covers ⟨x.1, x.2.1, x.2.2.1, x.2.2.2⟩ pc = true) (hct : x.2.2.2 ≠ 0) (hlk : Cond.classLink (gx_y M).cls x.2.2.2 E ∈ gx_tb) (hE : E ∈ gx_exs) {i ln : Nat} (hn : i < gx_n M) (hd : (∃ kk0 : Fin 4, (kk0 : Nat) = i ∧ ln = 1 ∧ decode (gx_b M) x.2.2.1 = .ok (.astore_n kk0, 1)) ∨ (ln = 2 ∧ decode (gx_b M) x.2.2.1 = .ok (.astore i, 2)))
    (h2 : ls.filter (fun q => !(q.1 == i) && !(q.1 + 1 == i && q.2.category == 2)) = ls2) (kk : gx_Z M al af kc ks (x.2.2.1 + ln) ls2 [] h o h1) : gx_ZX M al af kc ks pc ls st E h o h1 := by
  intro p l e s m args below meth c H locs la D adr K sz0 q ce C hl hR hq hv hcl
  have wd : ∀ w, w ∈ gx_tb → w.before args s = true := fun w hw => C.2.2.2.2.1 w (List.mem_cons_of_mem _ hw)
  have hV := hR.2.2.2.2.2.2.2
  have hsp : c.exceptionTable.toList = tableOf pre ++ (⟨x.1, x.2.1, x.2.2.1, x.2.2.2⟩ : ExceptionTableEntry) :: tableOf suf := by
    rw [C.2.2.2.2.2.2.2.2.1, hh]
    simp [tableOf]
  refine vx_catch (name := E) C.2.2.2.1 (tableOf pre) _ (tableOf suf) hsp (fun z hz => ?_) hcov hct (wd _ hlk) (va_Nw.use rfl (hV.2.2.2.1 E hE)) hq hv hcl ?_
  · obtain ⟨z0, hz0, rfl⟩ := List.mem_map.mp hz
    obtain ⟨a1, nm, a2, a3⟩ := hpre z0 hz0
    exact Or.inr ⟨a1, nm, wd _ a2, hV.2.2.2.2.1 _ a3⟩
  · have go : ∀ la2 : Array Slot, lv_has la2 (gx_n M) ((i, Value.ref q) :: (gx_lv adr ls).filter (fun q => !(q.1 == i) && !(q.1 + 1 == i && q.2.category == 2))) → W p l e (gx_rm M) s m args below meth c H locs kc ks (vx_MQ below (gx_Qc D adr K af (gx_s0 M sz0) o h1) (gx_XC D adr K af (gx_s0 M sz0) o h1) args s (gx_rm M).cells (gx_rm M).slots (gx_A adr (gx_s0 M sz0) s.heap.size)) (F0 m (x.2.2.1 + ln) la2 []) := by
      intro la2 hl2
      refine kk p l e s m args below meth c H locs la2 D adr K sz0 C ⟨hl2.1, hl2.2.1, fun z hz => hl2.2.2 z ?_⟩ hR
      rw [gx_fl, h2]
      exact List.mem_cons_of_mem _ hz
    rcases hd with ⟨kk0, hi, rfl, hd⟩ | ⟨rfl, hd⟩
    · exact lv_astore_n C.1 C.2.1 hd hi hl hn rfl go
    · exact lv_astore C.1 C.2.1 hd hl hn rfl go
