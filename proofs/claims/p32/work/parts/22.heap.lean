/-! ===== rules of gx_Z over the heap ===== -/
theorem gx_cls : ∀ ci : Nat, ci < 10 → vwCl[ci]? = some ((gx_c ci).1, (gx_c ci).2.1, (gx_c ci).2.2) ∧ (∀ w ∈ u_ws (gx_c ci).1 (gx_c ci).2.1 (gx_c ci).2.2, w ∈ gx_tb) ∧ (∀ k, k < (gx_c ci).2.2 → parseFieldDescriptor ((gx_c ci).2.1 k).2.2.1 = some (gx_ft ci k)) ∧ (∀ a, a < (gx_c ci).2.2 → ∀ b, b < (gx_c ci).2.2 → a ≠ b → ((gx_c ci).2.1 a).2.1 ≠ ((gx_c ci).2.1 b).2.1) := by
  have key : ∀ ws : List Cond, ws.all (fun w => decide (w ∈ tables_1) && goodWord w) = true → ∀ w ∈ ws, w ∈ gx_tb := by
    intro ws h w hw
    have h1 := List.all_eq_true.mp h w hw
    simp only [Bool.and_eq_true, decide_eq_true_eq] at h1
    exact gx_ok h1.1 h1.2
  intro ci h
  match ci, h with
  | 0, _ => exact ⟨rfl, key (u_ws RX0 TX0 10) (by decide +kernel), tyX0_ok, nmX0⟩
  | 1, _ => exact ⟨rfl, key (u_ws RX2 TX2 5) (by decide +kernel), tyX2_ok, nmX2⟩
  | 2, _ => exact ⟨rfl, key (u_ws RX3 TX3 14) (by decide +kernel), tyX3_ok, nmX3⟩
  | 3, _ => exact ⟨rfl, key (u_ws RX4 TX4 10) (by decide +kernel), tyX4_ok, nmX4⟩
  | 4, _ => exact ⟨rfl, key (u_ws RX5 TX5 7) (by decide +kernel), tyX5_ok, nmX5⟩
  | 5, _ => exact ⟨rfl, key (u_ws RX6 TX6 5) (by decide +kernel), tyX6_ok, nmX6⟩
  | 6, _ => exact ⟨rfl, key (u_ws RX7 TX7 2) (by decide +kernel), tyX7_ok, nmX7⟩
  | 7, _ => exact ⟨rfl, key (u_ws RX8 TX8 2) (by decide +kernel), tyX8_ok, nmX8⟩
  | 8, _ => exact ⟨rfl, key (u_ws RX9 TX9 13) (by decide +kernel), tyX9_ok, nmX9⟩
  | 9, _ => exact ⟨rfl, key (u_ws RX11 TX11 17) (by decide +kernel), tyX11_ok, nmX11⟩
  | n + 10, h => exact absurd h (by omega)
/-- a field's word in the tables -/
def gx_fl0 (own : String) (idx ci k : Nat) : Cond := .fieldLink own idx ((gx_c ci).2.1 k).1 ((gx_c ci).2.1 k).2.1 ((gx_c ci).2.1 k).2.2.1
theorem gx_getV {M : gx_M} {al af : Bool} {kc ks pc : Nat} {ls : List (Nat × Value)} {st : List Value} {h : gx_H} {o : gx_O} {h1 : gx_H} {b ci k idx : Nat} {v : Value} (hd : decode (gx_b M) pc = .ok (.getfield idx, 3)) (hw : gx_fl0 (gx_y M).cls idx ci k ∈ gx_tb) (hci : ci < 10) (hkN : k < (gx_c ci).2.2) (hb : b < gx_sz h) (hS : gx_S h b = (0, ci)) (hv : ∀ adr, gx_fv adr h ci b k = gx_cv adr v) (kk : gx_Z M al af kc ks (pc + 3) ls (v :: st) h o h1) : gx_Z M al af kc ks pc ls (.ref b :: st) h o h1 := by
  intro p l e s m args below meth c H locs la D adr K sz0 C hl hR
  obtain ⟨hc, hin, hty, hnm⟩ := gx_cls ci hci
  have he : (gx_w adr K h)[b]? = some (adr b, .inr (ci, (List.range (gx_c ci).2.2).map (gx_fv adr h ci b))) := by rw [gx_w_at hb, gx_cell_o hS]
  refine va_get (C := (gx_c ci).1) (T := (gx_c ci).2.1) (N := (gx_c ci).2.2) (ci := ci) (ref := ((gx_c ci).2.1 k).1) C.1 C.2.1 C.2.2.2.2.1 (fun w hw => List.mem_cons_of_mem _ (hin w hw)) C.2.2.2.1 hR.2.1 hR.1 b he hc k hkN (C.2.2.2.2.1 _ (List.mem_cons_of_mem _ hw)) (fun x hx => hx) (v := gx_cv adr v) ?_ hd (kk p l e s m args below meth c H locs la D adr K sz0 C hl hR)
  rw [List.getElem?_map, List.getElem?_range hkN, ← hv adr]; rfl
theorem gx_getI {M : gx_M} {al af : Bool} {kc ks pc : Nat} {ls : List (Nat × Value)} {st : List Value} {h : gx_H} {o : gx_O} {h1 : gx_H} {b ci k idx : Nat} (hd : decode (gx_b M) pc = .ok (.getfield idx, 3)) (hw : gx_fl0 (gx_y M).cls idx ci k ∈ gx_tb) (hci : ci < 10) (hkN : k < (gx_c ci).2.2) (hr : gx_isR (gx_ft ci k) = false) (hS : b < gx_sz h ∧ gx_S h b = (0, ci)) (kk : gx_Z M al af kc ks (pc + 3) ls (.int (gx_I h b k) :: st) h o h1) : gx_Z M al af kc ks pc ls (.ref b :: st) h o h1 :=
  gx_getV hd hw hci hkN hS.1 hS.2 (fun adr => by rw [gx_fv, if_neg (by rw [hr]; decide)]; rfl) kk
theorem gx_getR {M : gx_M} {al af : Bool} {kc ks pc : Nat} {ls : List (Nat × Value)} {st : List Value} {h : gx_H} {o : gx_O} {h1 : gx_H} {b ci k idx t : Nat} (hd : decode (gx_b M) pc = .ok (.getfield idx, 3)) (hw : gx_fl0 (gx_y M).cls idx ci k ∈ gx_tb) (hci : ci < 10) (hkN : k < (gx_c ci).2.2) (hr : gx_isR (gx_ft ci k) = true) (hS : b < gx_sz h ∧ gx_S h b = (0, ci)) (ht : gx_R h b k = some t) (kk : gx_Z M al af kc ks (pc + 3) ls (.ref t :: st) h o h1) : gx_Z M al af kc ks pc ls (.ref b :: st) h o h1 :=
  gx_getV hd hw hci hkN hS.1 hS.2 (fun adr => by rw [gx_fv, if_pos hr, ht]; rfl) kk
theorem gx_putV {M : gx_M} {al af : Bool} {kc ks pc : Nat} {ls : List (Nat × Value)} {st : List Value} {h h' : gx_H} {o : gx_O} {h1 : gx_H} {b ci k idx : Nat} {v : Value} (hd : decode (gx_b M) pc = .ok (.putfield idx, 3)) (hw : gx_fl0 (gx_y M).cls idx ci k ∈ gx_tb) (hci : ci < 10) (hkN : k < (gx_c ci).2.2) (hb : b < gx_sz h) (hS : gx_S h b = (0, ci)) (hfin : ((gx_c ci).2.1 k).2.2.2 = false ∨ (((gx_c ci).2.1 k).2.2.2 = true ∧ (gx_y M).name = "<init>" ∧ ((gx_c ci).2.1 k).1 = (gx_y M).cls))
    (hsz : gx_sz h' = gx_sz h) (hS' : gx_S h' = gx_S h) (hv : ∀ adr, gx_fv adr h' ci b k = gx_cv adr v) (ho : ∀ adr j, j ≠ k → gx_fv adr h' ci b j = gx_fv adr h ci b j) (hoc : ∀ adr K j, j ≠ b → gx_cell adr K h' j = gx_cell adr K h j) (hn : ∀ adr, narrow (gx_ft ci k) (gx_cv adr v) = gx_cv adr v) (hf : ∀ adr, fits (gx_ft ci k) (gx_cv adr v) = true) (kk : gx_Z M al af kc ks (pc + 3) ls st h' o h1) : gx_Z M al af kc ks pc ls (v :: .ref b :: st) h o h1 := by
  intro p l e s m args below meth c H locs la D adr K sz0 C hl hR
  obtain ⟨hc, hin0, hty, hnm⟩ := gx_cls ci hci
  have hin : ∀ w ∈ u_ws (gx_c ci).1 (gx_c ci).2.1 (gx_c ci).2.2, w ∈ gx_cw M :: gx_tb := fun w hw => List.mem_cons_of_mem _ (hin0 w hw)
  have he : (gx_w adr K h)[b]? = some (adr b, .inr (ci, (List.range (gx_c ci).2.2).map (gx_fv adr h ci b))) := by rw [gx_w_at hb, gx_cell_o hS]
  obtain ⟨hP, hK, hD, hSs, hT, hX⟩ := hR
  have hset : (gx_w adr K h).set b (adr b, .inr (ci, ((List.range (gx_c ci).2.2).map (gx_fv adr h ci b)).set k (gx_cv adr v))) = gx_w adr K h' := gx_w_set hsz (by rw [gx_cell_o (by rw [hS']; exact hS), gx_fvs_set (hv adr) (ho adr)]) (fun j hj => hoc adr K j hj)
  have go : ∀ (H1 : Heap) (locs1 : List Loc), va_P D vwCl (gx_w adr K h') H1 → va_D (gx_A adr (gx_s0 M sz0) s.heap.size) (gx_w adr K h') → va_S (gx_A adr (gx_s0 M sz0) s.heap.size) s.heap H1 locs1 → H1.size = H.size → W p l e (gx_rm M) s m args below meth c H1 locs1 kc ks (vx_MQ below (gx_Qc D adr K af (gx_s0 M sz0) o h1) (gx_XC D adr K af (gx_s0 M sz0) o h1) args s (gx_rm M).cells (gx_rm M).slots (gx_A adr (gx_s0 M sz0) s.heap.size)) (F0 m (pc + 3) la (st.map (gx_cv adr))) := fun H1 locs1 a1 a2 a3 a4 => kk p l e s m args below meth c H1 locs1 la D adr K sz0 C hl ⟨a1, hK, a2, a3, by rw [hsz, a4]; exact hT, hX⟩
  have hap := va_apart (own := (gx_y M).cls) C.2.2.2.2.1 hin (gx_ft ci) hty hnm hK hc
  obtain ⟨r, h1', cell, q1, q2, q3, q4⟩ := hP b _ he
  have hr : r = ((gx_c ci).1, (gx_c ci).2.1, (gx_c ci).2.2) := Option.some.inj (h1'.symm.trans hc)
  subst hr
  obtain ⟨hSl, hfc, kC, hkC, hkind⟩ := hK.1 ci _ hc
  obtain ⟨cf, kf, fi, f, hi, hsl⟩ := hSl k hkN
  have hlay := C.2.2.2.2.1 _ (hin _ (u_in_lay hkN))
  have hst := (u_facts hfc hkC (u_lays C.2.2.2.2.1 hin hkN) hi).1
  have hlk := C.2.2.2.2.1 _ (List.mem_cons_of_mem _ hw)
  have hlen : k < ((List.range (gx_c ci).2.2).map (gx_fv adr h ci b)).length := by rw [List.length_map, List.length_range]; exact hkN
  unfold u_lay at hlay
  rcases hfin with hfin | ⟨hfin, hinit, hdecl⟩
  · rw [if_neg (by rw [hfin]; decide)] at hlay
    have h6 := u_store hfc hkC hkind hlay hi (hty k hkN) (hn adr) (hf adr)
    refine W.putK C.1 C.2.1 (f := f) ⟨C.2.2.2.1, hlk, ⟨_, _, _, hi⟩, hst⟩ (by rw [q2]; exact h6) q1 q3 (by rw [hsl]; exact k2_hasslot (q4 k hkN)) rfl rfl hd fun H' e1 e2 e3 => ?_
    rw [hsl] at e1 ⊢
    refine go H' _ ?_ ?_ (hSs.put e2 e3 (hD.2 b _ he)) e2
    · rw [← hset]; exact hP.set hD he ⟨_, hc, t_OB.to (V := updV (vp_V _) k (gx_cv adr v)) ⟨_, e1, q2, q3, t_set q4 hap hkN (gx_cv adr v)⟩ (fun j _ => vp_updV_set hlen (gx_cv adr v) j)⟩ e3
    · rw [← hset]; exact hD.set he
  · rw [if_pos hfin] at hlay
    have hcf : m.cls = cf := by
      obtain ⟨_, _, c', _, _, _, -, -, hf', -, -, -, hown2, -⟩ := Cond.laysFinal_spec hlay
      have e1 : c' = cf := by have := hi.symm.trans hf'; simp at this; exact this.1.symm
      rw [hdecl] at hown2
      rw [← e1]; exact Option.some.inj (C.2.2.2.1.symm.trans hown2)
    have h6 := u_fits hfc hkC hkind (Or.inr hlay) hi (hty k hkN) (hn adr) (hf adr)
    refine W.putFinK C.1 C.2.1 C.2.2.2.1 hlk hi hst hcf (C.2.2.2.2.2.2.2.1.1.trans hinit) (by rw [q2]; exact h6) q1 q3 (by rw [hsl]; exact k2_hasslot (q4 k hkN)) rfl rfl hd fun H' e1 e2 e3 => ?_
    rw [hsl] at e1 ⊢
    refine go H' _ ?_ ?_ (hSs.put e2 e3 (hD.2 b _ he)) e2
    · rw [← hset]; exact hP.set hD he ⟨_, hc, t_OB.to (V := updV (vp_V _) k (gx_cv adr v)) ⟨_, e1, q2, q3, t_set q4 hap hkN (gx_cv adr v)⟩ (fun j _ => vp_updV_set hlen (gx_cv adr v) j)⟩ e3
    · rw [← hset]; exact hD.set he
theorem gx_putI {M : gx_M} {al af : Bool} {kc ks pc : Nat} {ls : List (Nat × Value)} {st : List Value} {h : gx_H} {o : gx_O} {h1 : gx_H} {b ci k idx : Nat} {x : Int32} (hd : decode (gx_b M) pc = .ok (.putfield idx, 3)) (hw : gx_fl0 (gx_y M).cls idx ci k ∈ gx_tb) (hci : ci < 10) (hkN : k < (gx_c ci).2.2) (hr : gx_isR (gx_ft ci k) = false) (hfin : ((gx_c ci).2.1 k).2.2.2 = false ∨ (((gx_c ci).2.1 k).2.2.2 = true ∧ (gx_y M).name = "<init>" ∧ ((gx_c ci).2.1 k).1 = (gx_y M).cls)) (hn : narrow (gx_ft ci k) (.int x) = .int x ∧ fits (gx_ft ci k) (.int x) = true) (hS : b < gx_sz h ∧ gx_S h b = (0, ci)) (kk : gx_Z M al af kc ks (pc + 3) ls st (gx_wI h b k x) o h1) : gx_Z M al af kc ks pc ls (.int x :: .ref b :: st) h o h1 := by
  refine gx_putV (h' := gx_wI h b k x) hd hw hci hkN hS.1 hS.2 hfin rfl rfl (fun adr => ?_) (fun adr j hj => ?_) (fun adr K j hj => gx_cell_ext rfl (gx_row_ne hj) rfl rfl) (fun adr => hn.1) (fun adr => hn.2) kk
  · rw [gx_fv, if_neg (by rw [hr]; decide)]; simp [gx_wI, gx_I, gx_u, gx_cv]
  · simp [gx_fv, gx_wI, gx_I, gx_R, gx_u, hj]
theorem gx_fitsR {ty : FieldType} (h : gx_isR ty = true) (a : Nat) : narrow ty (.ref a) = .ref a ∧ fits ty (.ref a) = true := by cases ty <;> first | exact ⟨rfl, rfl⟩ | cases h
theorem gx_putR {M : gx_M} {al af : Bool} {kc ks pc : Nat} {ls : List (Nat × Value)} {st : List Value} {h : gx_H} {o : gx_O} {h1 : gx_H} {b ci k idx t : Nat} (hd : decode (gx_b M) pc = .ok (.putfield idx, 3)) (hw : gx_fl0 (gx_y M).cls idx ci k ∈ gx_tb) (hci : ci < 10) (hkN : k < (gx_c ci).2.2) (hr : gx_isR (gx_ft ci k) = true) (hfin : ((gx_c ci).2.1 k).2.2.2 = false ∨ (((gx_c ci).2.1 k).2.2.2 = true ∧ (gx_y M).name = "<init>" ∧ ((gx_c ci).2.1 k).1 = (gx_y M).cls)) (hS : b < gx_sz h ∧ gx_S h b = (0, ci)) (kk : gx_Z M al af kc ks (pc + 3) ls st (gx_wR h b k (some t)) o h1) : gx_Z M al af kc ks pc ls (.ref t :: .ref b :: st) h o h1 := by
  refine gx_putV (h' := gx_wR h b k (some t)) hd hw hci hkN hS.1 hS.2 hfin rfl rfl (fun adr => ?_) (fun adr j hj => ?_) (fun adr K j hj => gx_cell_ext rfl rfl rfl (gx_row_ne hj)) (fun adr => (gx_fitsR hr _).1) (fun adr => (gx_fitsR hr _).2) kk
  · rw [gx_fv, if_pos hr]; simp [gx_wR, gx_R, gx_u, gx_cv, va_rf]
  · simp [gx_fv, gx_wR, gx_I, gx_R, gx_u, hj]
/-! arrays -/
theorem gx_ald1 {M : gx_M} {al af : Bool} {kc ks pc : Nat} {ls : List (Nat × Value)} {st : List Value} {h : gx_H} {o : gx_O} {h1 : gx_H} {a n : Nat} {i : Int32} (hd : decode (gx_b M) pc = .ok (.iaload, 1)) (hS : a < gx_sz h ∧ gx_S h a = (1, n)) (hi : vp_in i n) (kk : gx_Z M al af kc ks (pc + 1) ls (.int (gx_I h a i.toNatClampNeg) :: st) h o h1) : gx_Z M al af kc ks pc ls (.int i :: .ref a :: st) h o h1 :=
  fun p l e s m args below meth c H locs la D adr K sz0 C hl hR => va_iald C.1 C.2.1 hR.2.1 hR.1 a 0 (by rw [gx_w_at hS.1, gx_cell_i hS.2 (by decide) (by decide) (by decide)]) rfl hi hd (kk p l e s m args below meth c H locs la D adr K sz0 C hl hR)
theorem gx_ald3 {M : gx_M} {al af : Bool} {kc ks pc : Nat} {ls : List (Nat × Value)} {st : List Value} {h : gx_H} {o : gx_O} {h1 : gx_H} {a n : Nat} {i : Int32} (hd : decode (gx_b M) pc = .ok (.caload, 1)) (hS : a < gx_sz h ∧ gx_S h a = (3, n)) (hi : vp_in i n) (kk : gx_Z M al af kc ks (pc + 1) ls (.int (gx_I h a i.toNatClampNeg) :: st) h o h1) : gx_Z M al af kc ks pc ls (.int i :: .ref a :: st) h o h1 :=
  fun p l e s m args below meth c H locs la D adr K sz0 C hl hR => va_cald C.1 C.2.1 hR.2.1 hR.1 a 2 (by rw [gx_w_at hS.1, gx_cell_i hS.2 (by decide) (by decide) (by decide)]) rfl hi hd (kk p l e s m args below meth c H locs la D adr K sz0 C hl hR)
theorem gx_ald4 {M : gx_M} {al af : Bool} {kc ks pc : Nat} {ls : List (Nat × Value)} {st : List Value} {h : gx_H} {o : gx_O} {h1 : gx_H} {a n : Nat} {i : Int32} (hd : decode (gx_b M) pc = .ok (.baload, 1)) (hS : a < gx_sz h ∧ gx_S h a = (4, n)) (hi : vp_in i n) (kk : gx_Z M al af kc ks (pc + 1) ls (.int (gx_I h a i.toNatClampNeg) :: st) h o h1) : gx_Z M al af kc ks pc ls (.int i :: .ref a :: st) h o h1 :=
  fun p l e s m args below meth c H locs la D adr K sz0 C hl hR => va_zald C.1 C.2.1 hR.2.1 hR.1 a 3 (by rw [gx_w_at hS.1, gx_cell_i hS.2 (by decide) (by decide) (by decide)]) rfl hi hd (kk p l e s m args below meth c H locs la D adr K sz0 C hl hR)
theorem gx_ald2 {M : gx_M} {al af : Bool} {kc ks pc : Nat} {ls : List (Nat × Value)} {st : List Value} {h : gx_H} {o : gx_O} {h1 : gx_H} {a n : Nat} {i : Int32} (hd : decode (gx_b M) pc = .ok (.laload, 1)) (hS : a < gx_sz h ∧ gx_S h a = (2, n)) (hi : vp_in i n) (kk : gx_Z M al af kc ks (pc + 1) ls (.long (gx_L h a i.toNatClampNeg) :: st) h o h1) : gx_Z M al af kc ks pc ls (.int i :: .ref a :: st) h o h1 :=
  fun p l e s m args below meth c H locs la D adr K sz0 C hl hR => va_lald C.1 C.2.1 hR.2.1 hR.1 a 1 (by rw [gx_w_at hS.1, gx_cell_l hS.2]) rfl hi hd (kk p l e s m args below meth c H locs la D adr K sz0 C hl hR)
theorem gx_ald5 {M : gx_M} {al af : Bool} {kc ks pc : Nat} {ls : List (Nat × Value)} {st : List Value} {h : gx_H} {o : gx_O} {h1 : gx_H} {a n : Nat} {i : Int32} (hd : decode (gx_b M) pc = .ok (.aaload, 1)) (hS : a < gx_sz h ∧ gx_S h a = (5, n)) (hi : vp_in i n) (kk : gx_Z M al af kc ks (pc + 1) ls (va_rf (gx_R h a i.toNatClampNeg) :: st) h o h1) : gx_Z M al af kc ks pc ls (.int i :: .ref a :: st) h o h1 := by
  intro p l e s m args below meth c H locs la D adr K sz0 C hl hR
  have k2 := kk p l e s m args below meth c H locs la D adr K sz0 C hl hR
  rw [List.map_cons, gx_cv_rf] at k2
  exact va_aldq (C := RX8) C.1 C.2.1 hR.2.1 hR.1 a 4 (by rw [gx_w_at hS.1, gx_cell_q hS.2]) rfl hi hd k2
theorem gx_alen {M : gx_M} {al af : Bool} {kc ks pc : Nat} {ls : List (Nat × Value)} {st : List Value} {h : gx_H} {o : gx_O} {h1 : gx_H} {a n kd : Nat} (hd : decode (gx_b M) pc = .ok (.arraylength, 1)) (hkd : 1 ≤ kd ∧ kd ≤ 5) (hS : a < gx_sz h ∧ gx_S h a = (kd, n)) (kk : gx_Z M al af kc ks (pc + 1) ls (.int (nI n) :: st) h o h1) : gx_Z M al af kc ks pc ls (.ref a :: st) h o h1 := by
  intro p l e s m args below meth c H locs la D adr K sz0 C hl hR
  have k2 := kk p l e s m args below meth c H locs la D adr K sz0 C hl hR
  have hx : ∃ y, (gx_w adr K h)[a]? = some (adr a, .inl (K kd, (n, y))) := by
    refine ⟨if kd = 2 then .inr (.inl (gx_L h a)) else if kd = 5 then .inr (.inr (.inr (.inr (fun j => (gx_R h a j).map adr)))) else .inl (gx_I h a), ?_⟩
    rw [gx_w_at hS.1, gx_cell, hS.2, if_neg (by simp; omega)]
  obtain ⟨y, hx2⟩ := hx
  have ht : ∃ (t0 : Nat) (ty : FieldType), (gx_tk K)[t0]? = some (K kd, ty) := by
    match kd, hkd with
    | 1, _ => exact ⟨0, _, rfl⟩
    | 2, _ => exact ⟨1, _, rfl⟩
    | 3, _ => exact ⟨2, _, rfl⟩
    | 4, _ => exact ⟨3, _, rfl⟩
    | 5, _ => exact ⟨4, _, rfl⟩
  obtain ⟨t0, ty, ht⟩ := ht
  exact va_alen C.1 C.2.1 hR.2.1 hR.1 a t0 hx2 ht rfl hd k2
/-- what a store into a cell leaves -/
theorem gx_stored {D : va_G} {adr : Nat → Nat} {K : Nat → ClassId} {al : Bool} {sz0 : Nat} {h h' : gx_H} {s : State} {H H1 : Heap} {locs : List Loc} {a k : Nat} {E : va_E} (hR : gx_Rl D adr K al sz0 h s H locs) (ha : a < gx_sz h) (hsz : gx_sz h' = gx_sz h) (hc : gx_cell adr K h' a = E) (hoc : ∀ j, j ≠ a → gx_cell adr K h' j = gx_cell adr K h j) (hE : va_at D vwCl (adr a, E) H1) (z : H1.size = H.size) (oq : ∀ q : Nat, q ≠ adr a → H1[q]? = H[q]?) : gx_Rl D adr K al sz0 h' s H1 (locs ++ [⟨adr a, k⟩]) := by
  obtain ⟨hP, hK, hD, hSs, hT, hX⟩ := hR
  have he := gx_w_at (adr := adr) (K := K) ha
  have hset : (gx_w adr K h).set a (adr a, E) = gx_w adr K h' := gx_w_set hsz hc hoc
  refine ⟨?_, hK, ?_, hSs.put z oq (hD.2 a _ he), by rw [hsz, z]; exact hT, hX⟩
  · rw [← hset]; exact hP.set hD he hE oq
  · rw [← hset]; exact hD.set he
theorem gx_ast1 {M : gx_M} {al af : Bool} {kc ks pc : Nat} {ls : List (Nat × Value)} {st : List Value} {h : gx_H} {o : gx_O} {h1 : gx_H} {a n : Nat} {i x : Int32} (hd : decode (gx_b M) pc = .ok (.iastore, 1)) (hS : a < gx_sz h ∧ gx_S h a = (1, n)) (hi : vp_in i n) (kk : gx_Z M al af kc ks (pc + 1) ls st (gx_wI h a i.toNatClampNeg x) o h1) : gx_Z M al af kc ks pc ls (.int x :: .int i :: .ref a :: st) h o h1 := by
  intro p l e s m args below meth c H locs la D adr K sz0 C hl hR
  have hP := hR.1 a _ (gx_w_at hS.1)
  rw [gx_cell_i hS.2 (by decide) (by decide) (by decide)] at hP
  refine W.iast C.1 C.2.1 hP ((hR.2.1.2 0 _ rfl).1 n (fun j => .int (gx_I h a j))) (fun q => by cases q) (by show ¬ (i < 0 ∨ (arrV _ _ _).slots.size ≤ _); rw [arrV_size]; exact hi) rfl rfl hd fun H1 e1 z oq => ?_
  refine kk p l e s m args below meth c H1 _ la D adr K sz0 C hl (gx_stored hR hS.1 rfl (gx_cell_i (h := gx_wI h a i.toNatClampNeg x) hS.2 (by decide) (by decide) (by decide)) (fun j hj => gx_cell_ext rfl (gx_row_ne hj) rfl rfl) ?_ z oq)
  show H1[adr a]? = some (vp_cell _ _)
  rw [e1, vp_cell_i, vp_cell_i, arrV_store]
  congr 2
  funext q
  by_cases hq : q = i.toNatClampNeg <;> simp [updV, gx_I, gx_wI, gx_u, hq]
theorem gx_ast4 {M : gx_M} {al af : Bool} {kc ks pc : Nat} {ls : List (Nat × Value)} {st : List Value} {h : gx_H} {o : gx_O} {h1 : gx_H} {a n : Nat} {i x : Int32} (hd : decode (gx_b M) pc = .ok (.bastore, 1)) (hS : a < gx_sz h ∧ gx_S h a = (4, n)) (hi : vp_in i n) (kk : gx_Z M al af kc ks (pc + 1) ls st (gx_wI h a i.toNatClampNeg (vp_nar .boolean x)) o h1) : gx_Z M al af kc ks pc ls (.int x :: .int i :: .ref a :: st) h o h1 := by
  intro p l e s m args below meth c H locs la D adr K sz0 C hl hR
  have hP := hR.1 a _ (gx_w_at hS.1)
  rw [gx_cell_i hS.2 (by decide) (by decide) (by decide)] at hP
  refine W.zast C.1 C.2.1 hP ((hR.2.1.2 3 _ rfl).1 n (fun j => .int (gx_I h a j))) (fun q => by cases q) (by show ¬ (i < 0 ∨ (arrV _ _ _).slots.size ≤ _); rw [arrV_size]; exact hi) rfl rfl hd fun H1 e1 z oq => ?_
  refine kk p l e s m args below meth c H1 _ la D adr K sz0 C hl (gx_stored hR hS.1 rfl (gx_cell_i (h := gx_wI h a i.toNatClampNeg (vp_nar .boolean x)) hS.2 (by decide) (by decide) (by decide)) (fun j hj => gx_cell_ext rfl (gx_row_ne hj) rfl rfl) ?_ z oq)
  show H1[adr a]? = some (vp_cell _ _)
  rw [e1, vp_cell_i, vp_cell_i, arrV_store]
  congr 2
  funext q
  by_cases hq : q = i.toNatClampNeg
  · subst hq
    simp [updV, gx_I, gx_wI, gx_u, vp_nar]
    try rfl
  · simp [updV, gx_I, gx_wI, gx_u, hq]
theorem gx_ast3 {M : gx_M} {al af : Bool} {kc ks pc : Nat} {ls : List (Nat × Value)} {st : List Value} {h : gx_H} {o : gx_O} {h1 : gx_H} {a n : Nat} {i x : Int32} (hd : decode (gx_b M) pc = .ok (.castore, 1)) (hS : a < gx_sz h ∧ gx_S h a = (3, n)) (hi : vp_in i n) (kk : gx_Z M al af kc ks (pc + 1) ls st (gx_wI h a i.toNatClampNeg (vp_nar .char x)) o h1) : gx_Z M al af kc ks pc ls (.int x :: .int i :: .ref a :: st) h o h1 := by
  intro p l e s m args below meth c H locs la D adr K sz0 C hl hR
  have hP := hR.1 a _ (gx_w_at hS.1)
  rw [gx_cell_i hS.2 (by decide) (by decide) (by decide)] at hP
  refine W.cast C.1 C.2.1 hP ((hR.2.1.2 2 _ rfl).1 n (fun j => .int (gx_I h a j))) (fun q => by cases q) (by show ¬ (i < 0 ∨ (arrV _ _ _).slots.size ≤ _); rw [arrV_size]; exact hi) rfl rfl hd fun H1 e1 z oq => ?_
  refine kk p l e s m args below meth c H1 _ la D adr K sz0 C hl (gx_stored hR hS.1 rfl (gx_cell_i (h := gx_wI h a i.toNatClampNeg (vp_nar .char x)) hS.2 (by decide) (by decide) (by decide)) (fun j hj => gx_cell_ext rfl (gx_row_ne hj) rfl rfl) ?_ z oq)
  show H1[adr a]? = some (vp_cell _ _)
  rw [e1, vp_cell_i, vp_cell_i, arrV_store]
  congr 2
  funext q
  by_cases hq : q = i.toNatClampNeg
  · subst hq
    simp [updV, gx_I, gx_wI, gx_u, vp_nar]
    try rfl
  · simp [updV, gx_I, gx_wI, gx_u, hq]
theorem gx_ast2 {M : gx_M} {al af : Bool} {kc ks pc : Nat} {ls : List (Nat × Value)} {st : List Value} {h : gx_H} {o : gx_O} {h1 : gx_H} {a n : Nat} {i : Int32} {x : Int64} (hd : decode (gx_b M) pc = .ok (.lastore, 1)) (hS : a < gx_sz h ∧ gx_S h a = (2, n)) (hi : vp_in i n) (kk : gx_Z M al af kc ks (pc + 1) ls st (gx_wL h a i.toNatClampNeg x) o h1) : gx_Z M al af kc ks pc ls (.long x :: .int i :: .ref a :: st) h o h1 := by
  intro p l e s m args below meth c H locs la D adr K sz0 C hl hR
  have hP := hR.1 a _ (gx_w_at hS.1)
  rw [gx_cell_l hS.2] at hP
  refine W.last C.1 C.2.1 hP ((hR.2.1.2 1 _ rfl).1 n (fun j => .long (gx_L h a j))) (fun q => by cases q) (by show ¬ (i < 0 ∨ (arrV _ _ _).slots.size ≤ _); rw [arrV_size]; exact hi) rfl rfl hd fun H1 e1 z oq => ?_
  refine kk p l e s m args below meth c H1 _ la D adr K sz0 C hl (gx_stored hR hS.1 rfl (gx_cell_l (h := gx_wL h a i.toNatClampNeg x) hS.2) (fun j hj => gx_cell_ext rfl rfl (gx_row_ne hj) rfl) ?_ z oq)
  show H1[adr a]? = some (vp_cell _ _)
  rw [e1, vp_cell_l, vp_cell_l, arrV_store]
  congr 2
  funext q
  by_cases hq : q = i.toNatClampNeg <;> simp [updV, gx_L, gx_wL, gx_u, hq]
/-- a RuleText into a row of these -/
theorem gx_ast5 {M : gx_M} {al af : Bool} {kc ks pc : Nat} {ls : List (Nat × Value)} {st : List Value} {h : gx_H} {o : gx_O} {h1 : gx_H} {a n t : Nat} {i : Int32} (hd : decode (gx_b M) pc = .ok (.aastore, 1)) (hS : a < gx_sz h ∧ gx_S h a = (5, n)) (hi : vp_in i n) (ht : t < gx_sz h ∧ gx_S h t = (0, 7)) (kk : gx_Z M al af kc ks (pc + 1) ls st (gx_wR h a i.toNatClampNeg (some t)) o h1) : gx_Z M al af kc ks pc ls (.ref t :: .int i :: .ref a :: st) h o h1 := by
  intro p l e s m args below meth c H locs la D adr K sz0 C hl hR
  have hP := hR.1 a _ (gx_w_at hS.1)
  rw [gx_cell_q hS.2] at hP
  have hlt : i.toNatClampNeg < n := Nat.not_le.mp fun q => hi (Or.inr q)
  have h0 : ¬ i < 0 := fun q => hi (Or.inl q)
  obtain ⟨r', hr', cellV, g1, g2, g3, -⟩ : va_at D vwCl (adr t, .inr (7, (List.range (gx_c 7).2.2).map (gx_fv adr h 7 t))) H := by
    have := hR.1 t _ (gx_w_at ht.1)
    rwa [gx_cell_o ht.2] at this
  have hcls := (hR.2.1.1 7 (RX8, TX8, 2) rfl).2
  obtain ⟨kA, comp, k1, k2, k3, -⟩ : va_RA s (K 5) (.object RX8) := (hR.2.1.2 4 (K 5, .object RX8) rfl).2
  have hcomp : comp = D.1 7 := Option.some.inj (k3.symm.trans hcls.1)
  subst hcomp
  obtain ⟨kC, hkC, -⟩ := hcls.2
  refine W.aast C.1 C.2.1 hP (fun q h => by cases h) (fun h => by cases h) k1 k2 rfl hkC ⟨h0, by show _ < (arrV _ _ _).slots.size; rw [arrV_size]; exact hlt⟩ g1 (fun q h => by rw [g3] at h; cases h) (by rw [g2]; exact hkC) (by rw [g2]; exact va_assign hcls) rfl rfl hd fun H1 e1 z oq => ?_
  refine kk p l e s m args below meth c H1 _ la D adr K sz0 C hl (gx_stored hR hS.1 rfl (gx_cell_q (h := gx_wR h a i.toNatClampNeg (some t)) hS.2) (fun j hj => gx_cell_ext rfl rfl rfl (gx_row_ne hj)) ?_ z oq)
  show H1[adr a]? = some (vp_cell _ _)
  rw [e1, vp_cell_q, vp_cell_q, arrV_store]
  congr 2
  funext q
  by_cases hq : q = i.toNatClampNeg <;> simp [updV, gx_R, gx_wR, gx_u, va_rf, hq]
