/-! X12_conflicts  -/
set_option maxRecDepth 100000 in
def f_X12_conflicts (n : Nat) (v0 : Nat) (v1 : Int) (h : gi_H) : Option (Int × gi_H) :=
  Option.bind (f_X12_isKind v1 h) fun q1 => Option.bind (gi_is h v0 10) fun _ => Option.bind (f_X12_goes v0 q1 (1 : Int) (1 : Int) h) fun q3 => Option.bind (gi_rg q3.1) fun _ => if q3.1 = 0 then (some ((0 : Int), q3.2)) else (Option.bind (gi_is q3.2 v0 10) fun _ => Option.bind (f_X12_counts n v0 v1 (0 : Int) q3.2) fun q7 => some (q7.1, q7.2))
set_option maxRecDepth 100000 in
theorem z_X12_conflicts {al : Bool} {n : Nat} {v0 : Nat} {v1 : Int} {h : gi_H} {res : Int} {h1 : gi_H} (e : f_X12_conflicts n v0 v1 h = some (res, h1)) : gx_Cw mX12_conflicts al [.ref v0, .int (gI v1)] (gi_cv h) (.inl (some (.int (gI res)))) (gi_cv h1) := by
  refine gx_enter (by decide +kernel) rfl (Nat.le_of_ble_eq_true rfl) ?_
  show gx_Z mX12_conflicts al al 0 0 0 [(0, .ref v0), (1, .int (gI v1))] [] (gi_cv h) (.inl (some (.int (gI res)))) (gi_cv h1)
  refine gx_aload_n dX12_conflicts_0 rfl 0 rfl ?_
  refine gx_iload_n dX12_conflicts_1 rfl 1 rfl ?_
  refine gx_bE e (fun q1 hq1 e => ?_)
  refine gx_callS (n := 1) (st := [.ref v0]) (As := [.int (gI v1)]) dX12_conflicts_2 (z_X12_isKind hq1) rfl ⟨rfl, gw_cw_X12_isKind, gw_14, gp_X12_isKind, ⟨Nat.le_of_ble_eq_true rfl, Nat.le_of_ble_eq_true rfl⟩⟩ gw_1649 gw_1650 ⟨Nat.le_of_ble_eq_true rfl, Nat.le_of_ble_eq_true rfl⟩ (Nat.le_of_ble_eq_true rfl) (gy_k1 (x := .int (gI q1)) (kc2 := 0) (ks2 := 0) ⟨rfl, rfl⟩ ?_) gy_kn
  refine gy_iconst dX12_conflicts_5 ?_
  refine gy_iconst dX12_conflicts_6 ?_
  refine gx_bE e (fun _ hu2 e => ?_)
  refine gx_bE e (fun q3 hq3 e => ?_)
  refine gx_callV (n := 3) (st := []) (As := [.int (gI q1), .int (gI (1 : Int)), .int (gI (1 : Int))]) (b := v0) dX12_conflicts_7 (z_X12_goes hq3) rfl ⟨rfl, gw_cw_X12_goes, gw_14, gp_X12_goes, ⟨Nat.le_of_ble_eq_true rfl, Nat.le_of_ble_eq_true rfl⟩⟩ (gi_isS hu2) (by decide) gw_1480 gw_1482 gs_58 rfl ⟨Nat.le_of_ble_eq_true rfl, Nat.le_of_ble_eq_true rfl⟩ (Nat.le_of_ble_eq_true rfl) (gy_k1 (x := .int (gI q3.1)) (kc2 := 0) (ks2 := 0) ⟨rfl, rfl⟩ ?_) gy_kn
  refine gx_bE e (fun _ g4 e => ?_)
  refine gx_iE e (fun c5 e => ?_) (fun c5 e => ?_)
  · refine gy_if_eq (tgt := 22) (gi_rgS g4) dX12_conflicts_10 (by decide) (fun _ => ?_) (fun z => absurd c5 z)
    refine gy_iconst dX12_conflicts_22 ?_
    cases e
    exact gx_iret dX12_conflicts_23 rfl ⟨Nat.le_of_ble_eq_true rfl, Nat.le_of_ble_eq_true rfl⟩ (fun z => z)
  · refine gy_if_eq (tgt := 22) (gi_rgS g4) dX12_conflicts_10 (by decide) (fun z => absurd z c5) (fun _ => ?_)
    refine gx_aload_n dX12_conflicts_13 rfl 0 rfl ?_
    refine gx_iload_n dX12_conflicts_14 rfl 1 rfl ?_
    refine gy_iconst dX12_conflicts_15 ?_
    refine gx_bE e (fun _ hu6 e => ?_)
    refine gx_bE e (fun q7 hq7 e => ?_)
    refine gx_callV (n := 2) (st := []) (As := [.int (gI v1), .int (gI (0 : Int))]) (b := v0) dX12_conflicts_16 (z_X12_counts hq7) rfl ⟨rfl, gw_cw_X12_counts, gw_14, gp_X12_counts, ⟨Nat.le_of_ble_eq_true rfl, Nat.le_of_ble_eq_true rfl⟩⟩ (gi_isS hu6) (by decide) gw_1707 gw_1709 gs_92 rfl ⟨Nat.le_of_ble_eq_true rfl, Nat.le_of_ble_eq_true rfl⟩ (Nat.le_of_ble_eq_true rfl) (gy_k1 (x := .int (gI q7.1)) (kc2 := 0) (ks2 := 0) ⟨rfl, rfl⟩ ?_) gy_kn
    refine gx_goto (tgt := 23) dX12_conflicts_19 (by decide) ?_
    cases e
    exact gx_iret dX12_conflicts_23 rfl ⟨Nat.le_of_ble_eq_true rfl, Nat.le_of_ble_eq_true rfl⟩ (fun z => z)
/-! X5_easedClashes  -/
set_option maxRecDepth 100000 in
def f_X5_easedClashes (v0 : Nat) (h : gi_H) : Option (Int) :=
  some (0 : Int)
set_option maxRecDepth 100000 in
theorem z_X5_easedClashes {al : Bool} {v0 : Nat} {h : gi_H} {res : Int} (e : f_X5_easedClashes v0 h = some res) : gx_Cw mX5_easedClashes al [.ref v0] (gi_cv h) (.inl (some (.int (gI res)))) (gi_cv h) := by
  refine gx_enter (by decide +kernel) rfl (Nat.le_of_ble_eq_true rfl) ?_
  show gx_Z mX5_easedClashes al al 0 0 0 [(0, .ref v0)] [] (gi_cv h) (.inl (some (.int (gI res)))) (gi_cv h)
  refine gy_iconst dX5_easedClashes_0 ?_
  cases e
  exact gx_iret dX5_easedClashes_1 rfl ⟨Nat.le_of_ble_eq_true rfl, Nat.le_of_ble_eq_true rfl⟩ (fun z => z)
/-! X9_easedClashes  -/
set_option maxRecDepth 100000 in
def f_X9_easedClashes (n : Nat) (v0 : Nat) (h : gi_H) : Option (Int × gi_H) :=
  Option.bind (gi_is h v0 8) fun _ => Option.bind (f_X9_cellsInConflict n v0 (1 : Int) h) fun q2 => some (q2.1, q2.2)
set_option maxRecDepth 100000 in
theorem z_X9_easedClashes {al : Bool} {n : Nat} {v0 : Nat} {h : gi_H} {res : Int} {h1 : gi_H} (e : f_X9_easedClashes n v0 h = some (res, h1)) : gx_Cw mX9_easedClashes al [.ref v0] (gi_cv h) (.inl (some (.int (gI res)))) (gi_cv h1) := by
  refine gx_enter (by decide +kernel) rfl (Nat.le_of_ble_eq_true rfl) ?_
  show gx_Z mX9_easedClashes al al 0 0 0 [(0, .ref v0)] [] (gi_cv h) (.inl (some (.int (gI res)))) (gi_cv h1)
  refine gx_aload_n dX9_easedClashes_0 rfl 0 rfl ?_
  refine gy_iconst dX9_easedClashes_1 ?_
  refine gx_bE e (fun _ hu1 e => ?_)
  refine gx_bE e (fun q2 hq2 e => ?_)
  refine gx_callV (n := 1) (st := []) (As := [.int (gI (1 : Int))]) (b := v0) dX9_easedClashes_2 (z_X9_cellsInConflict hq2) rfl ⟨rfl, gw_cw_X9_cellsInConflict, gw_10, gp_X9_cellsInConflict, ⟨Nat.le_of_ble_eq_true rfl, Nat.le_of_ble_eq_true rfl⟩⟩ (gi_isS hu1) (by decide) gw_632 gw_634 gs_33 rfl ⟨Nat.le_of_ble_eq_true rfl, Nat.le_of_ble_eq_true rfl⟩ (Nat.le_of_ble_eq_true rfl) (gy_k1 (x := .int (gI q2.1)) (kc2 := 0) (ks2 := 0) ⟨rfl, rfl⟩ ?_) gy_kn
  cases e
  exact gx_iret dX9_easedClashes_5 rfl ⟨Nat.le_of_ble_eq_true rfl, Nat.le_of_ble_eq_true rfl⟩ (fun z => z)
/-! X11_settled  -/
set_option maxRecDepth 100000 in
def f_X11_settled (n : Nat) (v0 : Nat) (v1 : Int) (h : gi_H) : Option ((Int ⊕ String) × gi_H) :=
  Option.bind (f_X11_requireKind v1 h) fun q1 => gx_sm q1.1 (fun t2 => Option.bind (gi_is q1.2 v0 9) fun _ => Option.bind (f_X11_table n v0 v1 q1.2) fun q4 => if gi_S q4.2 q4.1 = (0, 4) then (Option.bind (gi_is q4.2 q4.1 4) fun _ => Option.bind (f_X5_easedClashes q4.1 q4.2) fun q7 => some (.inl q7, q4.2)) else (Option.bind (gi_is q4.2 q4.1 8) fun _ => Option.bind (f_X9_easedClashes n q4.1 q4.2) fun q9 => some (.inl q9.1, q9.2))) (fun t2 => some (.inr t2, q1.2))
set_option maxRecDepth 100000 in
theorem z_X11_settled {n : Nat} {v0 : Nat} {v1 : Int} {h : gi_H} {res : Int ⊕ String} {h1 : gi_H} (e : f_X11_settled n v0 v1 h = some (res, h1)) : gx_Cw mX11_settled false [.ref v0, .int (gI v1)] (gi_cv h) (gx_oI res) (gi_cv h1) := by
  refine gx_enter (by decide +kernel) rfl (Nat.le_of_ble_eq_true rfl) ?_
  show gx_Z mX11_settled false false 0 0 0 [(0, .ref v0), (1, .int (gI v1))] [] (gi_cv h) (gx_oI res) (gi_cv h1)
  refine gx_iload_n dX11_settled_0 rfl 1 rfl ?_
  refine gx_bE e (fun q1 hq1 e => ?_)
  refine gx_smE e (fun t2 ht2 e => ?_) (fun t2 ht2 e => ?_)
  · have zq1 := z_X11_requireKind hq1
    rw [ht2] at zq1
    refine gx_callS (n := 1) (st := []) (As := [.int (gI v1)]) dX11_settled_1 zq1 rfl ⟨rfl, gw_cw_X11_requireKind, gw_1, gp_X11_requireKind, ⟨Nat.le_of_ble_eq_true rfl, Nat.le_of_ble_eq_true rfl⟩⟩ gw_1190 gw_1191 ⟨Nat.le_of_ble_eq_true rfl, Nat.le_of_ble_eq_true rfl⟩ (Nat.le_of_ble_eq_true rfl) (gy_k0 (kc2 := 1) (ks2 := 6) ⟨rfl, rfl⟩ ?_) gy_kn
    refine gx_aload_n dX11_settled_4 rfl 0 rfl ?_
    refine gx_iload_n dX11_settled_5 rfl 1 rfl ?_
    refine gx_bE e (fun _ hu3 e => ?_)
    refine gx_bE e (fun q4 hq4 e => ?_)
    refine gx_callV (n := 1) (st := []) (As := [.int (gI v1)]) (b := v0) dX11_settled_6 (z_X11_table hq4) rfl ⟨rfl, gw_cw_X11_table, gw_1, gp_X11_table, ⟨Nat.le_of_ble_eq_true rfl, Nat.le_of_ble_eq_true rfl⟩⟩ (gi_isS hu3) (by decide) gw_400 gw_402 gs_0 rfl ⟨Nat.le_of_ble_eq_true rfl, Nat.le_of_ble_eq_true rfl⟩ (Nat.le_of_ble_eq_true rfl) (gy_k1 (x := .ref q4.1) (kc2 := 1) (ks2 := 6) ⟨rfl, rfl⟩ ?_) gy_kn
    refine gx_iE e (fun c5 e => ?_) (fun c5 e => ?_)
    · refine gx_bE e (fun _ hu6 e => ?_)
      refine gx_bE e (fun q7 hq7 e => ?_)
      refine gx_callA (n := 0) (st := []) (As := []) (b := q4.1) dX11_settled_9 (z_X5_easedClashes hq7) rfl ⟨rfl, gw_cw_X5_easedClashes, gw_9, gp_X5_easedClashes, ⟨Nat.le_of_ble_eq_true rfl, Nat.le_of_ble_eq_true rfl⟩⟩ (gi_isS hu6) (by decide) (x := ⟨"Grammarsmith$Table", "easedClashes", "()I"⟩) (owner := "Grammarsmith$Table") gw_685 gw_687 gw_688 gw_689 (by decide +kernel) (by decide +kernel) ⟨Nat.le_of_ble_eq_true rfl, Nat.le_of_ble_eq_true rfl⟩ (Nat.le_of_ble_eq_true rfl) (gy_k1 (x := .int (gI q7)) (kc2 := 1) (ks2 := 6) ⟨rfl, rfl⟩ ?_) gy_kn
      cases e
      exact gx_iret dX11_settled_12 rfl ⟨Nat.le_of_ble_eq_true rfl, Nat.le_of_ble_eq_true rfl⟩ (fun z => z)
    · refine gx_bE e (fun _ hu8 e => ?_)
      refine gx_bE e (fun q9 hq9 e => ?_)
      refine gx_callA (n := 0) (st := []) (As := []) (b := q4.1) dX11_settled_9 (z_X9_easedClashes hq9) rfl ⟨rfl, gw_cw_X9_easedClashes, gw_10, gp_X9_easedClashes, ⟨Nat.le_of_ble_eq_true rfl, Nat.le_of_ble_eq_true rfl⟩⟩ (gi_isS hu8) (by decide) (x := ⟨"Grammarsmith$Table", "easedClashes", "()I"⟩) (owner := "Grammarsmith$Table") gw_685 gw_687 gw_691 gw_692 (by decide +kernel) (by decide +kernel) ⟨Nat.le_of_ble_eq_true rfl, Nat.le_of_ble_eq_true rfl⟩ (Nat.le_of_ble_eq_true rfl) (gy_k1 (x := .int (gI q9.1)) (kc2 := 1) (ks2 := 6) ⟨rfl, rfl⟩ ?_) gy_kn
      cases e
      exact gx_iret dX11_settled_12 rfl ⟨Nat.le_of_ble_eq_true rfl, Nat.le_of_ble_eq_true rfl⟩ (fun z => z)
  · have zq1 := z_X11_requireKind hq1
    rw [ht2] at zq1
    refine gx_callS (n := 1) (st := []) (As := [.int (gI v1)]) dX11_settled_1 zq1 rfl ⟨rfl, gw_cw_X11_requireKind, gw_1, gp_X11_requireKind, ⟨Nat.le_of_ble_eq_true rfl, Nat.le_of_ble_eq_true rfl⟩⟩ gw_1190 gw_1191 ⟨Nat.le_of_ble_eq_true rfl, Nat.le_of_ble_eq_true rfl⟩ (Nat.le_of_ble_eq_true rfl) gy_kN (gy_kE (kc2 := 1) (ks2 := 6) ⟨rfl, rfl⟩ ?_)
    cases e
    exact gx_out rfl ⟨Nat.le_of_ble_eq_true rfl, Nat.le_of_ble_eq_true rfl⟩ (fun z => z)
/-! L_settled  -/
set_option maxRecDepth 100000 in
def f_L_settled (n : Nat) (v0 : Nat) (v1 : Int) (v2 : Nat) (h : gi_H) : Option (Int × gi_H) :=
  Option.bind (gi_is h v0 9) fun _ => Option.bind (f_X11_settled n v0 v1 h) fun q2 => gx_sm q2.1 (fun t3 => Option.bind (gi_rg t3) fun _ => Option.bind (gi_s2 q2.2 v2 (0 : Int) t3) fun h5 => some ((0 : Int), h5)) (fun t3 => if t3 = gx_IOB then (some ((1 : Int), q2.2)) else (none))
set_option maxRecDepth 100000 in
theorem z_L_settled {n : Nat} {v0 : Nat} {v1 : Int} {v2 : Nat} {h : gi_H} {res : Int} {h1 : gi_H} (e : f_L_settled n v0 v1 v2 h = some (res, h1)) : gx_Cw mL_settled false [.ref v0, .int (gI v1), .ref v2] (gi_cv h) (.inl (some (.int (gI res)))) (gi_cv h1) := by
  refine gx_enter (by decide +kernel) rfl (Nat.le_of_ble_eq_true rfl) ?_
  show gx_Z mL_settled false false 0 0 0 [(0, .ref v0), (1, .int (gI v1)), (2, .ref v2)] [] (gi_cv h) (.inl (some (.int (gI res)))) (gi_cv h1)
  refine gx_aload_n dL_settled_0 rfl 2 rfl ?_
  refine gy_iconst dL_settled_1 ?_
  refine gx_aload_n dL_settled_2 rfl 0 rfl ?_
  refine gx_iload_n dL_settled_3 rfl 1 rfl ?_
  refine gx_bE e (fun _ hu1 e => ?_)
  refine gx_bE e (fun q2 hq2 e => ?_)
  refine gx_smE e (fun t3 ht3 e => ?_) (fun t3 ht3 e => ?_)
  · have zq2 := z_X11_settled hq2
    rw [ht3] at zq2
    refine gx_callV (n := 1) (st := [.int (gI (0 : Int)), .ref v2]) (As := [.int (gI v1)]) (b := v0) dL_settled_4 zq2 rfl ⟨rfl, gw_cw_X11_settled, gw_1, gp_X11_settled, ⟨Nat.le_of_ble_eq_true rfl, Nat.le_of_ble_eq_true rfl⟩⟩ (gi_isS hu1) (by decide) gw_1204 gw_1205 gw_1206 rfl ⟨Nat.le_of_ble_eq_true rfl, Nat.le_of_ble_eq_true rfl⟩ (Nat.le_of_ble_eq_true rfl) (gy_k1 (x := .int (gI t3)) (kc2 := 1) (ks2 := 6) ⟨rfl, rfl⟩ ?_) gy_kn
    refine gx_bE e (fun _ g4 e => ?_)
    refine gy_i2l (gi_rgS g4) dL_settled_7 ?_
    refine gx_bE e (fun h5 hh5 e => ?_)
    refine gy_t2 hh5 dL_settled_8 ?_
    refine gx_goto (tgt := 15) dL_settled_9 (by decide) ?_
    refine gy_iconst dL_settled_15 ?_
    cases e
    exact gx_iret dL_settled_16 rfl ⟨Nat.le_of_ble_eq_true rfl, Nat.le_of_ble_eq_true rfl⟩ (fun z => z)
  · have zq2 := z_X11_settled hq2
    rw [ht3] at zq2
    refine gx_callV (n := 1) (st := [.int (gI (0 : Int)), .ref v2]) (As := [.int (gI v1)]) (b := v0) dL_settled_4 zq2 rfl ⟨rfl, gw_cw_X11_settled, gw_1, gp_X11_settled, ⟨Nat.le_of_ble_eq_true rfl, Nat.le_of_ble_eq_true rfl⟩⟩ (gi_isS hu1) (by decide) gw_1204 gw_1205 gw_1206 rfl ⟨Nat.le_of_ble_eq_true rfl, Nat.le_of_ble_eq_true rfl⟩ (Nat.le_of_ble_eq_true rfl) gy_kN (gy_kE (kc2 := 1) (ks2 := 6) ⟨rfl, rfl⟩ ?_)
    refine gx_iE e (fun c6 e => ?_) (fun c6 e => ?_)
    · rw [c6]
      refine gx_catch (ls2 := [(0, .ref v0), (1, .int (gI v1)), (2, .ref v2)]) [] (x := (0, 9, 12, 28)) rfl (fun z hz => by cases hz) (by decide +kernel) (by decide) gw_1028 (by decide +kernel) (Nat.le_of_ble_eq_true rfl) (Or.inl ⟨3, rfl, rfl, dL_settled_12⟩) rfl ?_
      refine gy_iconst dL_settled_13 ?_
      cases e
      exact gx_iret dL_settled_14 rfl ⟨Nat.le_of_ble_eq_true rfl, Nat.le_of_ble_eq_true rfl⟩ (fun z => z)
    cases e
/-! X12_settled  -/
set_option maxRecDepth 100000 in
def f_X12_settled (n : Nat) (v0 : Nat) (v1 : Int) (h : gi_H) : Option (Int × gi_H) :=
  Option.bind (f_X12_isKind v1 h) fun q1 => Option.bind (gi_is h v0 10) fun _ => Option.bind (f_X12_goes v0 q1 (1 : Int) (1 : Int) h) fun q3 => Option.bind (gi_rg q3.1) fun _ => if q3.1 = 0 then (some ((0 : Int), q3.2)) else (Option.bind (gi_is q3.2 v0 10) fun _ => Option.bind (f_X12_counts n v0 v1 (1 : Int) q3.2) fun q7 => some (q7.1, q7.2))
set_option maxRecDepth 100000 in
theorem z_X12_settled {al : Bool} {n : Nat} {v0 : Nat} {v1 : Int} {h : gi_H} {res : Int} {h1 : gi_H} (e : f_X12_settled n v0 v1 h = some (res, h1)) : gx_Cw mX12_settled al [.ref v0, .int (gI v1)] (gi_cv h) (.inl (some (.int (gI res)))) (gi_cv h1) := by
  refine gx_enter (by decide +kernel) rfl (Nat.le_of_ble_eq_true rfl) ?_
  show gx_Z mX12_settled al al 0 0 0 [(0, .ref v0), (1, .int (gI v1))] [] (gi_cv h) (.inl (some (.int (gI res)))) (gi_cv h1)
  refine gx_aload_n dX12_settled_0 rfl 0 rfl ?_
  refine gx_iload_n dX12_settled_1 rfl 1 rfl ?_
  refine gx_bE e (fun q1 hq1 e => ?_)
  refine gx_callS (n := 1) (st := [.ref v0]) (As := [.int (gI v1)]) dX12_settled_2 (z_X12_isKind hq1) rfl ⟨rfl, gw_cw_X12_isKind, gw_14, gp_X12_isKind, ⟨Nat.le_of_ble_eq_true rfl, Nat.le_of_ble_eq_true rfl⟩⟩ gw_1649 gw_1650 ⟨Nat.le_of_ble_eq_true rfl, Nat.le_of_ble_eq_true rfl⟩ (Nat.le_of_ble_eq_true rfl) (gy_k1 (x := .int (gI q1)) (kc2 := 0) (ks2 := 0) ⟨rfl, rfl⟩ ?_) gy_kn
  refine gy_iconst dX12_settled_5 ?_
  refine gy_iconst dX12_settled_6 ?_
  refine gx_bE e (fun _ hu2 e => ?_)
  refine gx_bE e (fun q3 hq3 e => ?_)
  refine gx_callV (n := 3) (st := []) (As := [.int (gI q1), .int (gI (1 : Int)), .int (gI (1 : Int))]) (b := v0) dX12_settled_7 (z_X12_goes hq3) rfl ⟨rfl, gw_cw_X12_goes, gw_14, gp_X12_goes, ⟨Nat.le_of_ble_eq_true rfl, Nat.le_of_ble_eq_true rfl⟩⟩ (gi_isS hu2) (by decide) gw_1480 gw_1482 gs_58 rfl ⟨Nat.le_of_ble_eq_true rfl, Nat.le_of_ble_eq_true rfl⟩ (Nat.le_of_ble_eq_true rfl) (gy_k1 (x := .int (gI q3.1)) (kc2 := 0) (ks2 := 0) ⟨rfl, rfl⟩ ?_) gy_kn
  refine gx_bE e (fun _ g4 e => ?_)
  refine gx_iE e (fun c5 e => ?_) (fun c5 e => ?_)
  · refine gy_if_eq (tgt := 22) (gi_rgS g4) dX12_settled_10 (by decide) (fun _ => ?_) (fun z => absurd c5 z)
    refine gy_iconst dX12_settled_22 ?_
    cases e
    exact gx_iret dX12_settled_23 rfl ⟨Nat.le_of_ble_eq_true rfl, Nat.le_of_ble_eq_true rfl⟩ (fun z => z)
  · refine gy_if_eq (tgt := 22) (gi_rgS g4) dX12_settled_10 (by decide) (fun z => absurd z c5) (fun _ => ?_)
    refine gx_aload_n dX12_settled_13 rfl 0 rfl ?_
    refine gx_iload_n dX12_settled_14 rfl 1 rfl ?_
    refine gy_iconst dX12_settled_15 ?_
    refine gx_bE e (fun _ hu6 e => ?_)
    refine gx_bE e (fun q7 hq7 e => ?_)
    refine gx_callV (n := 2) (st := []) (As := [.int (gI v1), .int (gI (1 : Int))]) (b := v0) dX12_settled_16 (z_X12_counts hq7) rfl ⟨rfl, gw_cw_X12_counts, gw_14, gp_X12_counts, ⟨Nat.le_of_ble_eq_true rfl, Nat.le_of_ble_eq_true rfl⟩⟩ (gi_isS hu6) (by decide) gw_1707 gw_1709 gs_92 rfl ⟨Nat.le_of_ble_eq_true rfl, Nat.le_of_ble_eq_true rfl⟩ (Nat.le_of_ble_eq_true rfl) (gy_k1 (x := .int (gI q7.1)) (kc2 := 0) (ks2 := 0) ⟨rfl, rfl⟩ ?_) gy_kn
    refine gx_goto (tgt := 23) dX12_settled_19 (by decide) ?_
    cases e
    exact gx_iret dX12_settled_23 rfl ⟨Nat.le_of_ble_eq_true rfl, Nat.le_of_ble_eq_true rfl⟩ (fun z => z)
/-! X11_chosen  -/
set_option maxRecDepth 100000 in
def b_X11_chosen_35 (n : Nat) (r2 : Nat → Int → gi_H → Option (Int × gi_H)) (v0 : Nat) (v1 : Int)  (h : gi_H) : Option (Int × gi_H) :=
  gx_nm (v1 + (1 : Int)) fun t10 => r2 v0 t10 h
set_option maxRecDepth 100000 in
theorem zb_X11_chosen_35 {al : Bool} {n : Nat} {r2 : Nat → Int → gi_H → Option (Int × gi_H)} {res : Int} {h1 : gi_H} (hr2 : ∀ (x0 : Nat) (x1 : Int) (hh : gi_H), r2 x0 x1 hh = some (res, h1) → gx_Z mX11_chosen al al 0 0 2 [(0, .ref x0), (1, .int (gI x1))] [] (gi_cv hh) (.inl (some (.int (gI res)))) (gi_cv h1)) {v0 : Nat} {v1 : Int}  {h : gi_H} (e : b_X11_chosen_35 n r2 v0 v1 h = some (res, h1)) : gx_Z mX11_chosen al al 0 0 35 [(0, .ref v0), (1, .int (gI v1))] [] (gi_cv h) (.inl (some (.int (gI res)))) (gi_cv h1) := by
  refine gx_nE e (fun t10 ht10 e => ?_)
  refine gy_iinc (v := t10) (ls2 := [(1, .int (gI t10)), (0, .ref v0)]) dX11_chosen_35 1 rfl ht10 (Nat.le_of_ble_eq_true rfl) rfl ?_
  refine gx_goto (tgt := 2) dX11_chosen_38 (by decide) ?_
  refine gx_sub (ls2 := [(0, .ref v0), (1, .int (gI t10))]) [1, 0] rfl ?_
  exact hr2 _ _ _ e
set_option maxRecDepth 100000 in
def b_X11_chosen_2 (n : Nat) (r2 : Nat → Int → gi_H → Option (Int × gi_H)) (v0 : Nat) (v1 : Int)  (h : gi_H) : Option (Int × gi_H) :=
  Option.bind (gi_rg v1) fun _ => if (3 : Int) < v1 then (some ((-1 : Int), h)) else (Option.bind (gi_is h v0 9) fun _ => Option.bind (f_X11_table n v0 v1 h) fun q4 => if gi_S q4.2 q4.1 = (0, 4) then (Option.bind (gi_is q4.2 q4.1 4) fun _ => Option.bind (f_X5_extent n q4.1 q4.2) fun q7 => Option.bind (gi_rg q7) fun _ => if q7 = (-2 : Int) then (b_X11_chosen_35 n r2 v0 v1 q4.2) else (if gi_S q4.2 q4.1 = (0, 4) then (Option.bind (gi_is q4.2 q4.1 4) fun _ => Option.bind (f_X5_clashes n q4.1 q4.2) fun q13 => if gi_S q4.2 q4.1 = (0, 4) then (Option.bind (gi_is q4.2 q4.1 4) fun _ => Option.bind (f_X5_easedClashes q4.1 q4.2) fun q16 => Option.bind (gi_rg q13) fun _ => Option.bind (gi_rg q16) fun _ => if q13 = q16 then (some (v1, q4.2)) else (b_X11_chosen_35 n r2 v0 v1 q4.2)) else (Option.bind (gi_is q4.2 q4.1 8) fun _ => Option.bind (f_X9_easedClashes n q4.1 q4.2) fun q21 => Option.bind (gi_rg q13) fun _ => Option.bind (gi_rg q21.1) fun _ => if q13 = q21.1 then (some (v1, q21.2)) else (b_X11_chosen_35 n r2 v0 v1 q21.2))) else (Option.bind (gi_is q4.2 q4.1 8) fun _ => Option.bind (f_X9_clashes n q4.1 q4.2) fun q26 => if gi_S q26.2 q4.1 = (0, 4) then (Option.bind (gi_is q26.2 q4.1 4) fun _ => Option.bind (f_X5_easedClashes q4.1 q26.2) fun q29 => Option.bind (gi_rg q26.1) fun _ => Option.bind (gi_rg q29) fun _ => if q26.1 = q29 then (some (v1, q26.2)) else (b_X11_chosen_35 n r2 v0 v1 q26.2)) else (Option.bind (gi_is q26.2 q4.1 8) fun _ => Option.bind (f_X9_easedClashes n q4.1 q26.2) fun q34 => Option.bind (gi_rg q26.1) fun _ => Option.bind (gi_rg q34.1) fun _ => if q26.1 = q34.1 then (some (v1, q34.2)) else (b_X11_chosen_35 n r2 v0 v1 q34.2))))) else (Option.bind (gi_is q4.2 q4.1 8) fun _ => Option.bind (f_X9_extent q4.1 q4.2) fun q39 => Option.bind (gi_rg q39) fun _ => if q39 = (-2 : Int) then (b_X11_chosen_35 n r2 v0 v1 q4.2) else (if gi_S q4.2 q4.1 = (0, 4) then (Option.bind (gi_is q4.2 q4.1 4) fun _ => Option.bind (f_X5_clashes n q4.1 q4.2) fun q44 => if gi_S q4.2 q4.1 = (0, 4) then (Option.bind (gi_is q4.2 q4.1 4) fun _ => Option.bind (f_X5_easedClashes q4.1 q4.2) fun q47 => Option.bind (gi_rg q44) fun _ => Option.bind (gi_rg q47) fun _ => if q44 = q47 then (some (v1, q4.2)) else (b_X11_chosen_35 n r2 v0 v1 q4.2)) else (Option.bind (gi_is q4.2 q4.1 8) fun _ => Option.bind (f_X9_easedClashes n q4.1 q4.2) fun q52 => Option.bind (gi_rg q44) fun _ => Option.bind (gi_rg q52.1) fun _ => if q44 = q52.1 then (some (v1, q52.2)) else (b_X11_chosen_35 n r2 v0 v1 q52.2))) else (Option.bind (gi_is q4.2 q4.1 8) fun _ => Option.bind (f_X9_clashes n q4.1 q4.2) fun q57 => if gi_S q57.2 q4.1 = (0, 4) then (Option.bind (gi_is q57.2 q4.1 4) fun _ => Option.bind (f_X5_easedClashes q4.1 q57.2) fun q60 => Option.bind (gi_rg q57.1) fun _ => Option.bind (gi_rg q60) fun _ => if q57.1 = q60 then (some (v1, q57.2)) else (b_X11_chosen_35 n r2 v0 v1 q57.2)) else (Option.bind (gi_is q57.2 q4.1 8) fun _ => Option.bind (f_X9_easedClashes n q4.1 q57.2) fun q65 => Option.bind (gi_rg q57.1) fun _ => Option.bind (gi_rg q65.1) fun _ => if q57.1 = q65.1 then (some (v1, q65.2)) else (b_X11_chosen_35 n r2 v0 v1 q65.2))))))
set_option maxRecDepth 100000 in
theorem zb_X11_chosen_2 {al : Bool} {n : Nat} {r2 : Nat → Int → gi_H → Option (Int × gi_H)} {res : Int} {h1 : gi_H} (hr2 : ∀ (x0 : Nat) (x1 : Int) (hh : gi_H), r2 x0 x1 hh = some (res, h1) → gx_Z mX11_chosen al al 0 0 2 [(0, .ref x0), (1, .int (gI x1))] [] (gi_cv hh) (.inl (some (.int (gI res)))) (gi_cv h1)) {v0 : Nat} {v1 : Int}  {h : gi_H} (e : b_X11_chosen_2 n r2 v0 v1 h = some (res, h1)) : gx_Z mX11_chosen al al 0 0 2 [(0, .ref v0), (1, .int (gI v1))] [] (gi_cv h) (.inl (some (.int (gI res)))) (gi_cv h1) := by
  refine gx_iload_n dX11_chosen_2 rfl 1 rfl ?_
  refine gy_iconst dX11_chosen_3 ?_
  refine gx_bE e (fun _ g1 e => ?_)
  refine gx_iE e (fun c2 e => ?_) (fun c2 e => ?_)
  · refine gy_icmp_gt (tgt := 41) (gi_rgS g1) (by decide) dX11_chosen_4 (by decide) (fun _ => ?_) (fun z => absurd c2 z)
    refine gy_iconst dX11_chosen_41 ?_
    cases e
    exact gx_iret dX11_chosen_42 rfl ⟨Nat.le_of_ble_eq_true rfl, Nat.le_of_ble_eq_true rfl⟩ (fun z => z)
  · refine gy_icmp_gt (tgt := 41) (gi_rgS g1) (by decide) dX11_chosen_4 (by decide) (fun z => absurd z c2) (fun _ => ?_)
    refine gx_aload_n dX11_chosen_7 rfl 0 rfl ?_
    refine gx_iload_n dX11_chosen_8 rfl 1 rfl ?_
    refine gx_bE e (fun _ hu3 e => ?_)
    refine gx_bE e (fun q4 hq4 e => ?_)
    refine gx_callV (n := 1) (st := []) (As := [.int (gI v1)]) (b := v0) dX11_chosen_9 (z_X11_table hq4) rfl ⟨rfl, gw_cw_X11_table, gw_1, gp_X11_table, ⟨Nat.le_of_ble_eq_true rfl, Nat.le_of_ble_eq_true rfl⟩⟩ (gi_isS hu3) (by decide) gw_400 gw_402 gs_0 rfl ⟨Nat.le_of_ble_eq_true rfl, Nat.le_of_ble_eq_true rfl⟩ (Nat.le_of_ble_eq_true rfl) (gy_k1 (x := .ref q4.1) (kc2 := 0) (ks2 := 0) ⟨rfl, rfl⟩ ?_) gy_kn
    refine gx_astore_n (ls2 := [(2, .ref q4.1), (0, .ref v0), (1, .int (gI v1))]) dX11_chosen_12 rfl (Nat.le_of_ble_eq_true rfl) rfl ?_
    refine gx_aload_n dX11_chosen_13 rfl 0 rfl ?_
    refine gx_iE e (fun c5 e => ?_) (fun c5 e => ?_)
    · refine gx_bE e (fun _ hu6 e => ?_)
      refine gx_bE e (fun q7 hq7 e => ?_)
      refine gx_callA (n := 0) (st := []) (As := []) (b := q4.1) dX11_chosen_14 (z_X5_extent hq7) rfl ⟨rfl, gw_cw_X5_extent, gw_9, gp_X5_extent, ⟨Nat.le_of_ble_eq_true rfl, Nat.le_of_ble_eq_true rfl⟩⟩ (gi_isS hu6) (by decide) (x := ⟨"Grammarsmith$Table", "extent", "()I"⟩) (owner := "Grammarsmith$Table") gw_590 gw_592 gw_593 gw_594 (by decide +kernel) (by decide +kernel) ⟨Nat.le_of_ble_eq_true rfl, Nat.le_of_ble_eq_true rfl⟩ (Nat.le_of_ble_eq_true rfl) (gy_k1 (x := .int (gI q7)) (kc2 := 0) (ks2 := 0) ⟨rfl, rfl⟩ ?_) gy_kn
      refine gy_bipush dX11_chosen_17 gcb_m2 ?_
      refine gx_bE e (fun _ g8 e => ?_)
      refine gx_iE e (fun c9 e => ?_) (fun c9 e => ?_)
      · refine gy_icmp_eq (tgt := 35) (gi_rgS g8) (by decide) dX11_chosen_19 (by decide) (fun _ => ?_) (fun z => absurd c9 z)
        refine gx_sub (ls2 := [(0, .ref v0), (1, .int (gI v1))]) [1, 2] rfl ?_
        exact zb_X11_chosen_35 hr2 e
      · refine gy_icmp_eq (tgt := 35) (gi_rgS g8) (by decide) dX11_chosen_19 (by decide) (fun z => absurd z c9) (fun _ => ?_)
        refine gx_aload_n dX11_chosen_22 rfl 0 rfl ?_
        refine gx_iE e (fun c11 e => ?_) (fun c11 e => ?_)
        · refine gx_bE e (fun _ hu12 e => ?_)
          refine gx_bE e (fun q13 hq13 e => ?_)
          refine gx_callA (n := 0) (st := []) (As := []) (b := q4.1) dX11_chosen_23 (z_X5_clashes hq13) rfl ⟨rfl, gw_cw_X5_clashes, gw_9, gp_X5_clashes, ⟨Nat.le_of_ble_eq_true rfl, Nat.le_of_ble_eq_true rfl⟩⟩ (gi_isS hu12) (by decide) (x := ⟨"Grammarsmith$Table", "clashes", "()I"⟩) (owner := "Grammarsmith$Table") gw_623 gw_625 gw_626 gw_627 (by decide +kernel) (by decide +kernel) ⟨Nat.le_of_ble_eq_true rfl, Nat.le_of_ble_eq_true rfl⟩ (Nat.le_of_ble_eq_true rfl) (gy_k1 (x := .int (gI q13)) (kc2 := 0) (ks2 := 0) ⟨rfl, rfl⟩ ?_) gy_kn
          refine gx_aload_n dX11_chosen_26 rfl 0 rfl ?_
          refine gx_iE e (fun c14 e => ?_) (fun c14 e => ?_)
          · refine gx_bE e (fun _ hu15 e => ?_)
            refine gx_bE e (fun q16 hq16 e => ?_)
            refine gx_callA (n := 0) (st := [.int (gI q13)]) (As := []) (b := q4.1) dX11_chosen_27 (z_X5_easedClashes hq16) rfl ⟨rfl, gw_cw_X5_easedClashes, gw_9, gp_X5_easedClashes, ⟨Nat.le_of_ble_eq_true rfl, Nat.le_of_ble_eq_true rfl⟩⟩ (gi_isS hu15) (by decide) (x := ⟨"Grammarsmith$Table", "easedClashes", "()I"⟩) (owner := "Grammarsmith$Table") gw_685 gw_687 gw_688 gw_689 (by decide +kernel) (by decide +kernel) ⟨Nat.le_of_ble_eq_true rfl, Nat.le_of_ble_eq_true rfl⟩ (Nat.le_of_ble_eq_true rfl) (gy_k1 (x := .int (gI q16)) (kc2 := 0) (ks2 := 0) ⟨rfl, rfl⟩ ?_) gy_kn
            refine gx_bE e (fun _ g17 e => ?_)
            refine gx_bE e (fun _ g18 e => ?_)
            refine gx_iE e (fun c19 e => ?_) (fun c19 e => ?_)
            · refine gy_icmp_ne (tgt := 35) (gi_rgS g17) (gi_rgS g18) dX11_chosen_30 (by decide) (fun z => absurd c19 z) (fun _ => ?_)
              refine gx_iload_n dX11_chosen_33 rfl 2 rfl ?_
              cases e
              exact gx_iret dX11_chosen_34 rfl ⟨Nat.le_of_ble_eq_true rfl, Nat.le_of_ble_eq_true rfl⟩ (fun z => z)
            · refine gy_icmp_ne (tgt := 35) (gi_rgS g17) (gi_rgS g18) dX11_chosen_30 (by decide) (fun _ => ?_) (fun z => absurd z c19)
              refine gx_sub (ls2 := [(0, .ref v0), (1, .int (gI v1))]) [1, 2] rfl ?_
              exact zb_X11_chosen_35 hr2 e
          · refine gx_bE e (fun _ hu20 e => ?_)
            refine gx_bE e (fun q21 hq21 e => ?_)
            refine gx_callA (n := 0) (st := [.int (gI q13)]) (As := []) (b := q4.1) dX11_chosen_27 (z_X9_easedClashes hq21) rfl ⟨rfl, gw_cw_X9_easedClashes, gw_10, gp_X9_easedClashes, ⟨Nat.le_of_ble_eq_true rfl, Nat.le_of_ble_eq_true rfl⟩⟩ (gi_isS hu20) (by decide) (x := ⟨"Grammarsmith$Table", "easedClashes", "()I"⟩) (owner := "Grammarsmith$Table") gw_685 gw_687 gw_691 gw_692 (by decide +kernel) (by decide +kernel) ⟨Nat.le_of_ble_eq_true rfl, Nat.le_of_ble_eq_true rfl⟩ (Nat.le_of_ble_eq_true rfl) (gy_k1 (x := .int (gI q21.1)) (kc2 := 0) (ks2 := 0) ⟨rfl, rfl⟩ ?_) gy_kn
            refine gx_bE e (fun _ g22 e => ?_)
            refine gx_bE e (fun _ g23 e => ?_)
            refine gx_iE e (fun c24 e => ?_) (fun c24 e => ?_)
            · refine gy_icmp_ne (tgt := 35) (gi_rgS g22) (gi_rgS g23) dX11_chosen_30 (by decide) (fun z => absurd c24 z) (fun _ => ?_)
              refine gx_iload_n dX11_chosen_33 rfl 2 rfl ?_
              cases e
              exact gx_iret dX11_chosen_34 rfl ⟨Nat.le_of_ble_eq_true rfl, Nat.le_of_ble_eq_true rfl⟩ (fun z => z)
            · refine gy_icmp_ne (tgt := 35) (gi_rgS g22) (gi_rgS g23) dX11_chosen_30 (by decide) (fun _ => ?_) (fun z => absurd z c24)
              refine gx_sub (ls2 := [(0, .ref v0), (1, .int (gI v1))]) [1, 2] rfl ?_
              exact zb_X11_chosen_35 hr2 e
        · refine gx_bE e (fun _ hu25 e => ?_)
          refine gx_bE e (fun q26 hq26 e => ?_)
          refine gx_callA (n := 0) (st := []) (As := []) (b := q4.1) dX11_chosen_23 (z_X9_clashes hq26) rfl ⟨rfl, gw_cw_X9_clashes, gw_10, gp_X9_clashes, ⟨Nat.le_of_ble_eq_true rfl, Nat.le_of_ble_eq_true rfl⟩⟩ (gi_isS hu25) (by decide) (x := ⟨"Grammarsmith$Table", "clashes", "()I"⟩) (owner := "Grammarsmith$Table") gw_623 gw_625 gw_629 gw_630 (by decide +kernel) (by decide +kernel) ⟨Nat.le_of_ble_eq_true rfl, Nat.le_of_ble_eq_true rfl⟩ (Nat.le_of_ble_eq_true rfl) (gy_k1 (x := .int (gI q26.1)) (kc2 := 0) (ks2 := 0) ⟨rfl, rfl⟩ ?_) gy_kn
          refine gx_aload_n dX11_chosen_26 rfl 0 rfl ?_
          refine gx_iE e (fun c27 e => ?_) (fun c27 e => ?_)
          · refine gx_bE e (fun _ hu28 e => ?_)
            refine gx_bE e (fun q29 hq29 e => ?_)
            refine gx_callA (n := 0) (st := [.int (gI q26.1)]) (As := []) (b := q4.1) dX11_chosen_27 (z_X5_easedClashes hq29) rfl ⟨rfl, gw_cw_X5_easedClashes, gw_9, gp_X5_easedClashes, ⟨Nat.le_of_ble_eq_true rfl, Nat.le_of_ble_eq_true rfl⟩⟩ (gi_isS hu28) (by decide) (x := ⟨"Grammarsmith$Table", "easedClashes", "()I"⟩) (owner := "Grammarsmith$Table") gw_685 gw_687 gw_688 gw_689 (by decide +kernel) (by decide +kernel) ⟨Nat.le_of_ble_eq_true rfl, Nat.le_of_ble_eq_true rfl⟩ (Nat.le_of_ble_eq_true rfl) (gy_k1 (x := .int (gI q29)) (kc2 := 0) (ks2 := 0) ⟨rfl, rfl⟩ ?_) gy_kn
            refine gx_bE e (fun _ g30 e => ?_)
            refine gx_bE e (fun _ g31 e => ?_)
            refine gx_iE e (fun c32 e => ?_) (fun c32 e => ?_)
            · refine gy_icmp_ne (tgt := 35) (gi_rgS g30) (gi_rgS g31) dX11_chosen_30 (by decide) (fun z => absurd c32 z) (fun _ => ?_)
              refine gx_iload_n dX11_chosen_33 rfl 2 rfl ?_
              cases e
              exact gx_iret dX11_chosen_34 rfl ⟨Nat.le_of_ble_eq_true rfl, Nat.le_of_ble_eq_true rfl⟩ (fun z => z)
            · refine gy_icmp_ne (tgt := 35) (gi_rgS g30) (gi_rgS g31) dX11_chosen_30 (by decide) (fun _ => ?_) (fun z => absurd z c32)
              refine gx_sub (ls2 := [(0, .ref v0), (1, .int (gI v1))]) [1, 2] rfl ?_
              exact zb_X11_chosen_35 hr2 e
          · refine gx_bE e (fun _ hu33 e => ?_)
            refine gx_bE e (fun q34 hq34 e => ?_)
            refine gx_callA (n := 0) (st := [.int (gI q26.1)]) (As := []) (b := q4.1) dX11_chosen_27 (z_X9_easedClashes hq34) rfl ⟨rfl, gw_cw_X9_easedClashes, gw_10, gp_X9_easedClashes, ⟨Nat.le_of_ble_eq_true rfl, Nat.le_of_ble_eq_true rfl⟩⟩ (gi_isS hu33) (by decide) (x := ⟨"Grammarsmith$Table", "easedClashes", "()I"⟩) (owner := "Grammarsmith$Table") gw_685 gw_687 gw_691 gw_692 (by decide +kernel) (by decide +kernel) ⟨Nat.le_of_ble_eq_true rfl, Nat.le_of_ble_eq_true rfl⟩ (Nat.le_of_ble_eq_true rfl) (gy_k1 (x := .int (gI q34.1)) (kc2 := 0) (ks2 := 0) ⟨rfl, rfl⟩ ?_) gy_kn
            refine gx_bE e (fun _ g35 e => ?_)
            refine gx_bE e (fun _ g36 e => ?_)
            refine gx_iE e (fun c37 e => ?_) (fun c37 e => ?_)
            · refine gy_icmp_ne (tgt := 35) (gi_rgS g35) (gi_rgS g36) dX11_chosen_30 (by decide) (fun z => absurd c37 z) (fun _ => ?_)
              refine gx_iload_n dX11_chosen_33 rfl 2 rfl ?_
              cases e
              exact gx_iret dX11_chosen_34 rfl ⟨Nat.le_of_ble_eq_true rfl, Nat.le_of_ble_eq_true rfl⟩ (fun z => z)
            · refine gy_icmp_ne (tgt := 35) (gi_rgS g35) (gi_rgS g36) dX11_chosen_30 (by decide) (fun _ => ?_) (fun z => absurd z c37)
              refine gx_sub (ls2 := [(0, .ref v0), (1, .int (gI v1))]) [1, 2] rfl ?_
              exact zb_X11_chosen_35 hr2 e
    · refine gx_bE e (fun _ hu38 e => ?_)
      refine gx_bE e (fun q39 hq39 e => ?_)
      refine gx_callA (n := 0) (st := []) (As := []) (b := q4.1) dX11_chosen_14 (z_X9_extent hq39) rfl ⟨rfl, gw_cw_X9_extent, gw_10, gp_X9_extent, ⟨Nat.le_of_ble_eq_true rfl, Nat.le_of_ble_eq_true rfl⟩⟩ (gi_isS hu38) (by decide) (x := ⟨"Grammarsmith$Table", "extent", "()I"⟩) (owner := "Grammarsmith$Table") gw_590 gw_592 gw_616 gw_617 (by decide +kernel) (by decide +kernel) ⟨Nat.le_of_ble_eq_true rfl, Nat.le_of_ble_eq_true rfl⟩ (Nat.le_of_ble_eq_true rfl) (gy_k1 (x := .int (gI q39)) (kc2 := 0) (ks2 := 0) ⟨rfl, rfl⟩ ?_) gy_kn
      refine gy_bipush dX11_chosen_17 gcb_m2 ?_
      refine gx_bE e (fun _ g40 e => ?_)
      refine gx_iE e (fun c41 e => ?_) (fun c41 e => ?_)
      · refine gy_icmp_eq (tgt := 35) (gi_rgS g40) (by decide) dX11_chosen_19 (by decide) (fun _ => ?_) (fun z => absurd c41 z)
        refine gx_sub (ls2 := [(0, .ref v0), (1, .int (gI v1))]) [1, 2] rfl ?_
        exact zb_X11_chosen_35 hr2 e
      · refine gy_icmp_eq (tgt := 35) (gi_rgS g40) (by decide) dX11_chosen_19 (by decide) (fun z => absurd z c41) (fun _ => ?_)
        refine gx_aload_n dX11_chosen_22 rfl 0 rfl ?_
        refine gx_iE e (fun c42 e => ?_) (fun c42 e => ?_)
        · refine gx_bE e (fun _ hu43 e => ?_)
          refine gx_bE e (fun q44 hq44 e => ?_)
          refine gx_callA (n := 0) (st := []) (As := []) (b := q4.1) dX11_chosen_23 (z_X5_clashes hq44) rfl ⟨rfl, gw_cw_X5_clashes, gw_9, gp_X5_clashes, ⟨Nat.le_of_ble_eq_true rfl, Nat.le_of_ble_eq_true rfl⟩⟩ (gi_isS hu43) (by decide) (x := ⟨"Grammarsmith$Table", "clashes", "()I"⟩) (owner := "Grammarsmith$Table") gw_623 gw_625 gw_626 gw_627 (by decide +kernel) (by decide +kernel) ⟨Nat.le_of_ble_eq_true rfl, Nat.le_of_ble_eq_true rfl⟩ (Nat.le_of_ble_eq_true rfl) (gy_k1 (x := .int (gI q44)) (kc2 := 0) (ks2 := 0) ⟨rfl, rfl⟩ ?_) gy_kn
          refine gx_aload_n dX11_chosen_26 rfl 0 rfl ?_
          refine gx_iE e (fun c45 e => ?_) (fun c45 e => ?_)
          · refine gx_bE e (fun _ hu46 e => ?_)
            refine gx_bE e (fun q47 hq47 e => ?_)
            refine gx_callA (n := 0) (st := [.int (gI q44)]) (As := []) (b := q4.1) dX11_chosen_27 (z_X5_easedClashes hq47) rfl ⟨rfl, gw_cw_X5_easedClashes, gw_9, gp_X5_easedClashes, ⟨Nat.le_of_ble_eq_true rfl, Nat.le_of_ble_eq_true rfl⟩⟩ (gi_isS hu46) (by decide) (x := ⟨"Grammarsmith$Table", "easedClashes", "()I"⟩) (owner := "Grammarsmith$Table") gw_685 gw_687 gw_688 gw_689 (by decide +kernel) (by decide +kernel) ⟨Nat.le_of_ble_eq_true rfl, Nat.le_of_ble_eq_true rfl⟩ (Nat.le_of_ble_eq_true rfl) (gy_k1 (x := .int (gI q47)) (kc2 := 0) (ks2 := 0) ⟨rfl, rfl⟩ ?_) gy_kn
            refine gx_bE e (fun _ g48 e => ?_)
            refine gx_bE e (fun _ g49 e => ?_)
            refine gx_iE e (fun c50 e => ?_) (fun c50 e => ?_)
            · refine gy_icmp_ne (tgt := 35) (gi_rgS g48) (gi_rgS g49) dX11_chosen_30 (by decide) (fun z => absurd c50 z) (fun _ => ?_)
              refine gx_iload_n dX11_chosen_33 rfl 2 rfl ?_
              cases e
              exact gx_iret dX11_chosen_34 rfl ⟨Nat.le_of_ble_eq_true rfl, Nat.le_of_ble_eq_true rfl⟩ (fun z => z)
            · refine gy_icmp_ne (tgt := 35) (gi_rgS g48) (gi_rgS g49) dX11_chosen_30 (by decide) (fun _ => ?_) (fun z => absurd z c50)
              refine gx_sub (ls2 := [(0, .ref v0), (1, .int (gI v1))]) [1, 2] rfl ?_
              exact zb_X11_chosen_35 hr2 e
          · refine gx_bE e (fun _ hu51 e => ?_)
            refine gx_bE e (fun q52 hq52 e => ?_)
            refine gx_callA (n := 0) (st := [.int (gI q44)]) (As := []) (b := q4.1) dX11_chosen_27 (z_X9_easedClashes hq52) rfl ⟨rfl, gw_cw_X9_easedClashes, gw_10, gp_X9_easedClashes, ⟨Nat.le_of_ble_eq_true rfl, Nat.le_of_ble_eq_true rfl⟩⟩ (gi_isS hu51) (by decide) (x := ⟨"Grammarsmith$Table", "easedClashes", "()I"⟩) (owner := "Grammarsmith$Table") gw_685 gw_687 gw_691 gw_692 (by decide +kernel) (by decide +kernel) ⟨Nat.le_of_ble_eq_true rfl, Nat.le_of_ble_eq_true rfl⟩ (Nat.le_of_ble_eq_true rfl) (gy_k1 (x := .int (gI q52.1)) (kc2 := 0) (ks2 := 0) ⟨rfl, rfl⟩ ?_) gy_kn
            refine gx_bE e (fun _ g53 e => ?_)
            refine gx_bE e (fun _ g54 e => ?_)
            refine gx_iE e (fun c55 e => ?_) (fun c55 e => ?_)
            · refine gy_icmp_ne (tgt := 35) (gi_rgS g53) (gi_rgS g54) dX11_chosen_30 (by decide) (fun z => absurd c55 z) (fun _ => ?_)
              refine gx_iload_n dX11_chosen_33 rfl 2 rfl ?_
              cases e
              exact gx_iret dX11_chosen_34 rfl ⟨Nat.le_of_ble_eq_true rfl, Nat.le_of_ble_eq_true rfl⟩ (fun z => z)
            · refine gy_icmp_ne (tgt := 35) (gi_rgS g53) (gi_rgS g54) dX11_chosen_30 (by decide) (fun _ => ?_) (fun z => absurd z c55)
              refine gx_sub (ls2 := [(0, .ref v0), (1, .int (gI v1))]) [1, 2] rfl ?_
              exact zb_X11_chosen_35 hr2 e
        · refine gx_bE e (fun _ hu56 e => ?_)
          refine gx_bE e (fun q57 hq57 e => ?_)
          refine gx_callA (n := 0) (st := []) (As := []) (b := q4.1) dX11_chosen_23 (z_X9_clashes hq57) rfl ⟨rfl, gw_cw_X9_clashes, gw_10, gp_X9_clashes, ⟨Nat.le_of_ble_eq_true rfl, Nat.le_of_ble_eq_true rfl⟩⟩ (gi_isS hu56) (by decide) (x := ⟨"Grammarsmith$Table", "clashes", "()I"⟩) (owner := "Grammarsmith$Table") gw_623 gw_625 gw_629 gw_630 (by decide +kernel) (by decide +kernel) ⟨Nat.le_of_ble_eq_true rfl, Nat.le_of_ble_eq_true rfl⟩ (Nat.le_of_ble_eq_true rfl) (gy_k1 (x := .int (gI q57.1)) (kc2 := 0) (ks2 := 0) ⟨rfl, rfl⟩ ?_) gy_kn
          refine gx_aload_n dX11_chosen_26 rfl 0 rfl ?_
          refine gx_iE e (fun c58 e => ?_) (fun c58 e => ?_)
          · refine gx_bE e (fun _ hu59 e => ?_)
            refine gx_bE e (fun q60 hq60 e => ?_)
            refine gx_callA (n := 0) (st := [.int (gI q57.1)]) (As := []) (b := q4.1) dX11_chosen_27 (z_X5_easedClashes hq60) rfl ⟨rfl, gw_cw_X5_easedClashes, gw_9, gp_X5_easedClashes, ⟨Nat.le_of_ble_eq_true rfl, Nat.le_of_ble_eq_true rfl⟩⟩ (gi_isS hu59) (by decide) (x := ⟨"Grammarsmith$Table", "easedClashes", "()I"⟩) (owner := "Grammarsmith$Table") gw_685 gw_687 gw_688 gw_689 (by decide +kernel) (by decide +kernel) ⟨Nat.le_of_ble_eq_true rfl, Nat.le_of_ble_eq_true rfl⟩ (Nat.le_of_ble_eq_true rfl) (gy_k1 (x := .int (gI q60)) (kc2 := 0) (ks2 := 0) ⟨rfl, rfl⟩ ?_) gy_kn
            refine gx_bE e (fun _ g61 e => ?_)
            refine gx_bE e (fun _ g62 e => ?_)
            refine gx_iE e (fun c63 e => ?_) (fun c63 e => ?_)
            · refine gy_icmp_ne (tgt := 35) (gi_rgS g61) (gi_rgS g62) dX11_chosen_30 (by decide) (fun z => absurd c63 z) (fun _ => ?_)
              refine gx_iload_n dX11_chosen_33 rfl 2 rfl ?_
              cases e
              exact gx_iret dX11_chosen_34 rfl ⟨Nat.le_of_ble_eq_true rfl, Nat.le_of_ble_eq_true rfl⟩ (fun z => z)
            · refine gy_icmp_ne (tgt := 35) (gi_rgS g61) (gi_rgS g62) dX11_chosen_30 (by decide) (fun _ => ?_) (fun z => absurd z c63)
              refine gx_sub (ls2 := [(0, .ref v0), (1, .int (gI v1))]) [1, 2] rfl ?_
              exact zb_X11_chosen_35 hr2 e
          · refine gx_bE e (fun _ hu64 e => ?_)
            refine gx_bE e (fun q65 hq65 e => ?_)
            refine gx_callA (n := 0) (st := [.int (gI q57.1)]) (As := []) (b := q4.1) dX11_chosen_27 (z_X9_easedClashes hq65) rfl ⟨rfl, gw_cw_X9_easedClashes, gw_10, gp_X9_easedClashes, ⟨Nat.le_of_ble_eq_true rfl, Nat.le_of_ble_eq_true rfl⟩⟩ (gi_isS hu64) (by decide) (x := ⟨"Grammarsmith$Table", "easedClashes", "()I"⟩) (owner := "Grammarsmith$Table") gw_685 gw_687 gw_691 gw_692 (by decide +kernel) (by decide +kernel) ⟨Nat.le_of_ble_eq_true rfl, Nat.le_of_ble_eq_true rfl⟩ (Nat.le_of_ble_eq_true rfl) (gy_k1 (x := .int (gI q65.1)) (kc2 := 0) (ks2 := 0) ⟨rfl, rfl⟩ ?_) gy_kn
            refine gx_bE e (fun _ g66 e => ?_)
            refine gx_bE e (fun _ g67 e => ?_)
            refine gx_iE e (fun c68 e => ?_) (fun c68 e => ?_)
            · refine gy_icmp_ne (tgt := 35) (gi_rgS g66) (gi_rgS g67) dX11_chosen_30 (by decide) (fun z => absurd c68 z) (fun _ => ?_)
              refine gx_iload_n dX11_chosen_33 rfl 2 rfl ?_
              cases e
              exact gx_iret dX11_chosen_34 rfl ⟨Nat.le_of_ble_eq_true rfl, Nat.le_of_ble_eq_true rfl⟩ (fun z => z)
            · refine gy_icmp_ne (tgt := 35) (gi_rgS g66) (gi_rgS g67) dX11_chosen_30 (by decide) (fun _ => ?_) (fun z => absurd z c68)
              refine gx_sub (ls2 := [(0, .ref v0), (1, .int (gI v1))]) [1, 2] rfl ?_
              exact zb_X11_chosen_35 hr2 e
def l_X11_chosen_2 (n : Nat)  : Nat → Nat → Int → gi_H → Option (Int × gi_H)
  | 0, _, _, _ => none
  | k + 1, v0, v1, h => b_X11_chosen_2 n  (l_X11_chosen_2 n  k) v0 v1 h
theorem zl_X11_chosen_2 {al : Bool} {n : Nat}  {res : Int} {h1 : gi_H}  : ∀ (k : Nat) (v0 : Nat) (v1 : Int) (h : gi_H), l_X11_chosen_2 n  k v0 v1 h = some (res, h1) → gx_Z mX11_chosen al al 0 0 2 [(0, .ref v0), (1, .int (gI v1))] [] (gi_cv h) (.inl (some (.int (gI res)))) (gi_cv h1)
  | 0, _, _, _, e => gx_0E e
  | k + 1, _, _, _, e => zb_X11_chosen_2 (n := n)  (zl_X11_chosen_2  k) e
set_option maxRecDepth 100000 in
def f_X11_chosen (n : Nat) (v0 : Nat) (h : gi_H) : Option (Int × gi_H) :=
  l_X11_chosen_2 n  n v0 (0 : Int) h
set_option maxRecDepth 100000 in
theorem z_X11_chosen {al : Bool} {n : Nat} {v0 : Nat} {h : gi_H} {res : Int} {h1 : gi_H} (e : f_X11_chosen n v0 h = some (res, h1)) : gx_Cw mX11_chosen al [.ref v0] (gi_cv h) (.inl (some (.int (gI res)))) (gi_cv h1) := by
  refine gx_enter (by decide +kernel) rfl (Nat.le_of_ble_eq_true rfl) ?_
  show gx_Z mX11_chosen al al 0 0 0 [(0, .ref v0)] [] (gi_cv h) (.inl (some (.int (gI res)))) (gi_cv h1)
  refine gy_iconst dX11_chosen_0 ?_
  refine gx_istore_n (ls2 := [(1, .int (gI (0 : Int))), (0, .ref v0)]) dX11_chosen_1 rfl (Nat.le_of_ble_eq_true rfl) rfl ?_
  refine gx_sub (ls2 := [(0, .ref v0), (1, .int (gI (0 : Int)))]) [1, 0] rfl ?_
  exact zl_X11_chosen_2  n _ _ _ e
/-! X12_chosen  -/
set_option maxRecDepth 100000 in
def b_X12_chosen_37 (n : Nat) (r7 : Nat → Int → gi_H → Option (Int × gi_H)) (v0 : Nat) (v1 : Int)  (h : gi_H) : Option (Int × gi_H) :=
  gx_nm (v1 + (1 : Int)) fun t8 => r7 v0 t8 h
set_option maxRecDepth 100000 in
theorem zb_X12_chosen_37 {al : Bool} {n : Nat} {r7 : Nat → Int → gi_H → Option (Int × gi_H)} {res : Int} {h1 : gi_H} (hr7 : ∀ (x0 : Nat) (x1 : Int) (hh : gi_H), r7 x0 x1 hh = some (res, h1) → gx_Z mX12_chosen al al 0 0 7 [(0, .ref x0), (1, .int (gI x1))] [] (gi_cv hh) (.inl (some (.int (gI res)))) (gi_cv h1)) {v0 : Nat} {v1 : Int}  {h : gi_H} (e : b_X12_chosen_37 n r7 v0 v1 h = some (res, h1)) : gx_Z mX12_chosen al al 0 0 37 [(0, .ref v0), (1, .int (gI v1))] [] (gi_cv h) (.inl (some (.int (gI res)))) (gi_cv h1) := by
  refine gx_nE e (fun t8 ht8 e => ?_)
  refine gy_iinc (v := t8) (ls2 := [(1, .int (gI t8)), (0, .ref v0)]) dX12_chosen_37 1 rfl ht8 (Nat.le_of_ble_eq_true rfl) rfl ?_
  refine gx_goto (tgt := 7) dX12_chosen_40 (by decide) ?_
  refine gx_sub (ls2 := [(0, .ref v0), (1, .int (gI t8))]) [1, 0] rfl ?_
  exact hr7 _ _ _ e
set_option maxRecDepth 100000 in
def b_X12_chosen_7 (n : Nat) (r7 : Nat → Int → gi_H → Option (Int × gi_H)) (v0 : Nat) (v1 : Int)  (h : gi_H) : Option (Int × gi_H) :=
  Option.bind (gi_rg v1) fun _ => if (3 : Int) < v1 then (some ((-1 : Int), h)) else (Option.bind (gi_is h v0 10) fun _ => Option.bind (f_X12_counts n v0 v1 (0 : Int) h) fun q5 => Option.bind (gi_rg q5.1) fun _ => if q5.1 = (-2 : Int) then (b_X12_chosen_37 n r7 v0 v1 q5.2) else (Option.bind (gi_is q5.2 v0 10) fun _ => Option.bind (f_X12_counts n v0 v1 (1 : Int) q5.2) fun q10 => Option.bind (gi_rg q10.1) fun _ => if q5.1 = q10.1 then (some (v1, q10.2)) else (b_X12_chosen_37 n r7 v0 v1 q10.2)))
set_option maxRecDepth 100000 in
theorem zb_X12_chosen_7 {al : Bool} {n : Nat} {r7 : Nat → Int → gi_H → Option (Int × gi_H)} {res : Int} {h1 : gi_H} (hr7 : ∀ (x0 : Nat) (x1 : Int) (hh : gi_H), r7 x0 x1 hh = some (res, h1) → gx_Z mX12_chosen al al 0 0 7 [(0, .ref x0), (1, .int (gI x1))] [] (gi_cv hh) (.inl (some (.int (gI res)))) (gi_cv h1)) {v0 : Nat} {v1 : Int}  {h : gi_H} (e : b_X12_chosen_7 n r7 v0 v1 h = some (res, h1)) : gx_Z mX12_chosen al al 0 0 7 [(0, .ref v0), (1, .int (gI v1))] [] (gi_cv h) (.inl (some (.int (gI res)))) (gi_cv h1) := by
  refine gx_iload_n dX12_chosen_7 rfl 1 rfl ?_
  refine gy_iconst dX12_chosen_8 ?_
  refine gx_bE e (fun _ g2 e => ?_)
  refine gx_iE e (fun c3 e => ?_) (fun c3 e => ?_)
  · refine gy_icmp_gt (tgt := 43) (gi_rgS g2) (by decide) dX12_chosen_9 (by decide) (fun _ => ?_) (fun z => absurd c3 z)
    refine gy_iconst dX12_chosen_43 ?_
    cases e
    exact gx_iret dX12_chosen_44 rfl ⟨Nat.le_of_ble_eq_true rfl, Nat.le_of_ble_eq_true rfl⟩ (fun z => z)
  · refine gy_icmp_gt (tgt := 43) (gi_rgS g2) (by decide) dX12_chosen_9 (by decide) (fun z => absurd z c3) (fun _ => ?_)
    refine gx_aload_n dX12_chosen_12 rfl 0 rfl ?_
    refine gx_iload_n dX12_chosen_13 rfl 1 rfl ?_
    refine gy_iconst dX12_chosen_14 ?_
    refine gx_bE e (fun _ hu4 e => ?_)
    refine gx_bE e (fun q5 hq5 e => ?_)
    refine gx_callV (n := 2) (st := []) (As := [.int (gI v1), .int (gI (0 : Int))]) (b := v0) dX12_chosen_15 (z_X12_counts hq5) rfl ⟨rfl, gw_cw_X12_counts, gw_14, gp_X12_counts, ⟨Nat.le_of_ble_eq_true rfl, Nat.le_of_ble_eq_true rfl⟩⟩ (gi_isS hu4) (by decide) gw_1707 gw_1709 gs_92 rfl ⟨Nat.le_of_ble_eq_true rfl, Nat.le_of_ble_eq_true rfl⟩ (Nat.le_of_ble_eq_true rfl) (gy_k1 (x := .int (gI q5.1)) (kc2 := 0) (ks2 := 0) ⟨rfl, rfl⟩ ?_) gy_kn
    refine gx_istore_n (ls2 := [(2, .int (gI q5.1)), (0, .ref v0), (1, .int (gI v1))]) dX12_chosen_18 rfl (Nat.le_of_ble_eq_true rfl) rfl ?_
    refine gx_iload_n dX12_chosen_19 rfl 0 rfl ?_
    refine gy_bipush dX12_chosen_20 gcb_m2 ?_
    refine gx_bE e (fun _ g6 e => ?_)
    refine gx_iE e (fun c7 e => ?_) (fun c7 e => ?_)
    · refine gy_icmp_eq (tgt := 37) (gi_rgS g6) (by decide) dX12_chosen_22 (by decide) (fun _ => ?_) (fun z => absurd c7 z)
      refine gx_sub (ls2 := [(0, .ref v0), (1, .int (gI v1))]) [1, 2] rfl ?_
      exact zb_X12_chosen_37 hr7 e
    · refine gy_icmp_eq (tgt := 37) (gi_rgS g6) (by decide) dX12_chosen_22 (by decide) (fun z => absurd z c7) (fun _ => ?_)
      refine gx_iload_n dX12_chosen_25 rfl 0 rfl ?_
      refine gx_aload_n dX12_chosen_26 rfl 1 rfl ?_
      refine gx_iload_n dX12_chosen_27 rfl 2 rfl ?_
      refine gy_iconst dX12_chosen_28 ?_
      refine gx_bE e (fun _ hu9 e => ?_)
      refine gx_bE e (fun q10 hq10 e => ?_)
      refine gx_callV (n := 2) (st := [.int (gI q5.1)]) (As := [.int (gI v1), .int (gI (1 : Int))]) (b := v0) dX12_chosen_29 (z_X12_counts hq10) rfl ⟨rfl, gw_cw_X12_counts, gw_14, gp_X12_counts, ⟨Nat.le_of_ble_eq_true rfl, Nat.le_of_ble_eq_true rfl⟩⟩ (gi_isS hu9) (by decide) gw_1707 gw_1709 gs_92 rfl ⟨Nat.le_of_ble_eq_true rfl, Nat.le_of_ble_eq_true rfl⟩ (Nat.le_of_ble_eq_true rfl) (gy_k1 (x := .int (gI q10.1)) (kc2 := 0) (ks2 := 0) ⟨rfl, rfl⟩ ?_) gy_kn
      refine gx_bE e (fun _ g11 e => ?_)
      refine gx_iE e (fun c12 e => ?_) (fun c12 e => ?_)
      · refine gy_icmp_ne (tgt := 37) (gi_rgS g6) (gi_rgS g11) dX12_chosen_32 (by decide) (fun z => absurd c12 z) (fun _ => ?_)
        refine gx_iload_n dX12_chosen_35 rfl 2 rfl ?_
        cases e
        exact gx_iret dX12_chosen_36 rfl ⟨Nat.le_of_ble_eq_true rfl, Nat.le_of_ble_eq_true rfl⟩ (fun z => z)
      · refine gy_icmp_ne (tgt := 37) (gi_rgS g6) (gi_rgS g11) dX12_chosen_32 (by decide) (fun _ => ?_) (fun z => absurd z c12)
        refine gx_sub (ls2 := [(0, .ref v0), (1, .int (gI v1))]) [1, 2] rfl ?_
        exact zb_X12_chosen_37 hr7 e
def l_X12_chosen_7 (n : Nat)  : Nat → Nat → Int → gi_H → Option (Int × gi_H)
  | 0, _, _, _ => none
  | k + 1, v0, v1, h => b_X12_chosen_7 n  (l_X12_chosen_7 n  k) v0 v1 h
theorem zl_X12_chosen_7 {al : Bool} {n : Nat}  {res : Int} {h1 : gi_H}  : ∀ (k : Nat) (v0 : Nat) (v1 : Int) (h : gi_H), l_X12_chosen_7 n  k v0 v1 h = some (res, h1) → gx_Z mX12_chosen al al 0 0 7 [(0, .ref v0), (1, .int (gI v1))] [] (gi_cv h) (.inl (some (.int (gI res)))) (gi_cv h1)
  | 0, _, _, _, e => gx_0E e
  | k + 1, _, _, _, e => zb_X12_chosen_7 (n := n)  (zl_X12_chosen_7  k) e
set_option maxRecDepth 100000 in
def f_X12_chosen (n : Nat) (v0 : Nat) (h : gi_H) : Option (Int × gi_H) :=
  Option.bind (gi_pI h v0 10 44 (0 : Int)) fun h1 => l_X12_chosen_7 n  n v0 (0 : Int) h1
set_option maxRecDepth 100000 in
theorem z_X12_chosen {al : Bool} {n : Nat} {v0 : Nat} {h : gi_H} {res : Int} {h1 : gi_H} (e : f_X12_chosen n v0 h = some (res, h1)) : gx_Cw mX12_chosen al [.ref v0] (gi_cv h) (.inl (some (.int (gI res)))) (gi_cv h1) := by
  refine gx_enter (by decide +kernel) rfl (Nat.le_of_ble_eq_true rfl) ?_
  show gx_Z mX12_chosen al al 0 0 0 [(0, .ref v0)] [] (gi_cv h) (.inl (some (.int (gI res)))) (gi_cv h1)
  refine gx_aload_n dX12_chosen_0 rfl 0 rfl ?_
  refine gy_iconst dX12_chosen_1 ?_
  refine gx_bE e (fun h1 hh1 e => ?_)
  refine gy_qI hh1 dX12_chosen_2 gf_RX12_104_10_44 (by decide) gkN_10_44 rfl (Or.inl rfl) ?_
  refine gy_iconst dX12_chosen_5 ?_
  refine gx_istore_n (ls2 := [(1, .int (gI (0 : Int))), (0, .ref v0)]) dX12_chosen_6 rfl (Nat.le_of_ble_eq_true rfl) rfl ?_
  refine gx_sub (ls2 := [(0, .ref v0), (1, .int (gI (0 : Int)))]) [1, 0] rfl ?_
  exact zl_X12_chosen_7  n _ _ _ e
/-! X11_put  -/
set_option maxRecDepth 100000 in
def b_X11_put_19 (n : Nat)    (h : gi_H) : Option ((Int ⊕ String) × gi_H) :=
  some (.inr gx_IOB, h)
set_option maxRecDepth 100000 in
theorem zb_X11_put_19 {n : Nat}  {res : Int ⊕ String} {h1 : gi_H}    {h : gi_H} (e : b_X11_put_19 n  h = some (res, h1)) : gx_Z mX11_put false false 0 0 19 [] [] (gi_cv h) (gx_oI res) (gi_cv h1) := by
  cases e
  exact gx_throw rfl gt_151_255_155 rfl dX11_put_19 dX11_put_22 dX11_put_23 dX11_put_25 dX11_put_28 (Nat.le_of_ble_eq_true rfl) (Nat.le_of_ble_eq_true rfl) ⟨Nat.le_of_ble_eq_true rfl, Nat.le_of_ble_eq_true rfl⟩
set_option maxRecDepth 100000 in
def b_X11_put_79 (n : Nat)  (v0 : Nat) (v1 : Int) (v2 : Int)  (h : gi_H) : Option ((Int ⊕ String) × gi_H) :=
  Option.bind (gi_gR h v0 9 6) fun t16 => Option.bind (gi_s1 h t16 v1 v2) fun h17 => Option.bind (gi_gI h17 v0 9 7) fun t18 => Option.bind (gi_pI h17 v0 9 7 (t18 + (1 : Int))) fun h19 => Option.bind (gi_gI h19 v0 9 7) fun t20 => some (.inl t20, h19)
set_option maxRecDepth 100000 in
theorem zb_X11_put_79 {n : Nat}  {res : Int ⊕ String} {h1 : gi_H}  {v0 : Nat} {v1 : Int} {v2 : Int}  {h : gi_H} (e : b_X11_put_79 n v0 v1 v2 h = some (res, h1)) : gx_Z mX11_put false false 0 0 79 [(0, .ref v0), (1, .int (gI v1)), (2, .int (gI v2))] [] (gi_cv h) (gx_oI res) (gi_cv h1) := by
  refine gx_aload_n dX11_put_79 rfl 0 rfl ?_
  refine gx_bE e (fun t16 ht16 e => ?_)
  refine gy_fR ht16 dX11_put_80 gf_RX11_49_9_6 (by decide) gkN_9_6 gkR_9_6 ?_
  refine gx_iload_n dX11_put_83 rfl 1 rfl ?_
  refine gx_iload_n dX11_put_84 rfl 2 rfl ?_
  refine gx_bE e (fun h17 hh17 e => ?_)
  refine gy_t1 hh17 dX11_put_85 ?_
  refine gx_aload_n dX11_put_86 rfl 0 rfl ?_
  refine gx_dup dX11_put_87 rfl ?_
  refine gx_bE e (fun t18 ht18 e => ?_)
  refine gy_fI ht18 dX11_put_88 gf_RX11_252_9_7 (by decide) gkN_9_7 gkR_9_7 ?_
  refine gy_iconst dX11_put_91 ?_
  refine gy_iadd dX11_put_92 ?_
  refine gx_bE e (fun h19 hh19 e => ?_)
  refine gy_qI hh19 dX11_put_93 gf_RX11_252_9_7 (by decide) gkN_9_7 rfl (Or.inl rfl) ?_
  refine gx_aload_n dX11_put_96 rfl 0 rfl ?_
  refine gx_bE e (fun t20 ht20 e => ?_)
  refine gy_fI ht20 dX11_put_97 gf_RX11_252_9_7 (by decide) gkN_9_7 gkR_9_7 ?_
  cases e
  exact gx_iret dX11_put_100 rfl ⟨Nat.le_of_ble_eq_true rfl, Nat.le_of_ble_eq_true rfl⟩ (fun z => z)
set_option maxRecDepth 100000 in
def b_X11_put_54 (n : Nat) (r54 : Nat → Int → Int → Int → gi_H → Option ((Int ⊕ String) × gi_H)) (v0 : Nat) (v1 : Int) (v2 : Int) (v3 : Int)  (h : gi_H) : Option ((Int ⊕ String) × gi_H) :=
  Option.bind (gi_rg v3) fun _ => Option.bind (gi_rg v1) fun _ => if v3 ≤ v1 then (b_X11_put_79 n  v0 v1 v2 h) else (Option.bind (gi_gR h v0 9 6) fun t21 => Option.bind (gi_gR h v0 9 6) fun t22 => Option.bind (gi_aI h 1 t22 (v3 - (1 : Int))) fun t23 => Option.bind (gi_s1 h t21 v3 t23) fun h24 => gx_nm (v3 + (-1 : Int)) fun t25 => r54 v0 v1 v2 t25 h24)
set_option maxRecDepth 100000 in
theorem zb_X11_put_54 {n : Nat} {r54 : Nat → Int → Int → Int → gi_H → Option ((Int ⊕ String) × gi_H)} {res : Int ⊕ String} {h1 : gi_H} (hr54 : ∀ (x0 : Nat) (x1 : Int) (x2 : Int) (x3 : Int) (hh : gi_H), r54 x0 x1 x2 x3 hh = some (res, h1) → gx_Z mX11_put false false 0 0 54 [(0, .ref x0), (1, .int (gI x1)), (2, .int (gI x2)), (3, .int (gI x3))] [] (gi_cv hh) (gx_oI res) (gi_cv h1)) {v0 : Nat} {v1 : Int} {v2 : Int} {v3 : Int}  {h : gi_H} (e : b_X11_put_54 n r54 v0 v1 v2 v3 h = some (res, h1)) : gx_Z mX11_put false false 0 0 54 [(0, .ref v0), (1, .int (gI v1)), (2, .int (gI v2)), (3, .int (gI v3))] [] (gi_cv h) (gx_oI res) (gi_cv h1) := by
  refine gx_iload_n dX11_put_54 rfl 3 rfl ?_
  refine gx_iload_n dX11_put_55 rfl 1 rfl ?_
  refine gx_bE e (fun _ g13 e => ?_)
  refine gx_bE e (fun _ g14 e => ?_)
  refine gx_iE e (fun c15 e => ?_) (fun c15 e => ?_)
  · refine gy_icmp_le (tgt := 79) (gi_rgS g13) (gi_rgS g14) dX11_put_56 (by decide) (fun _ => ?_) (fun z => absurd c15 z)
    refine gx_sub (ls2 := [(0, .ref v0), (1, .int (gI v1)), (2, .int (gI v2))]) [0, 1, 2] rfl ?_
    exact zb_X11_put_79  e
  · refine gy_icmp_le (tgt := 79) (gi_rgS g13) (gi_rgS g14) dX11_put_56 (by decide) (fun z => absurd z c15) (fun _ => ?_)
    refine gx_aload_n dX11_put_59 rfl 0 rfl ?_
    refine gx_bE e (fun t21 ht21 e => ?_)
    refine gy_fR ht21 dX11_put_60 gf_RX11_49_9_6 (by decide) gkN_9_6 gkR_9_6 ?_
    refine gx_iload_n dX11_put_63 rfl 3 rfl ?_
    refine gx_aload_n dX11_put_64 rfl 0 rfl ?_
    refine gx_bE e (fun t22 ht22 e => ?_)
    refine gy_fR ht22 dX11_put_65 gf_RX11_49_9_6 (by decide) gkN_9_6 gkR_9_6 ?_
    refine gx_iload_n dX11_put_68 rfl 3 rfl ?_
    refine gy_iconst dX11_put_69 ?_
    refine gy_isub dX11_put_70 ?_
    refine gx_bE e (fun t23 ht23 e => ?_)
    refine gy_l1 ht23 dX11_put_71 ?_
    refine gx_bE e (fun h24 hh24 e => ?_)
    refine gy_t1 hh24 dX11_put_72 ?_
    refine gx_nE e (fun t25 ht25 e => ?_)
    refine gy_iinc (v := t25) (ls2 := [(3, .int (gI t25)), (0, .ref v0), (1, .int (gI v1)), (2, .int (gI v2))]) dX11_put_73 3 rfl ht25 (Nat.le_of_ble_eq_true rfl) rfl ?_
    refine gx_goto (tgt := 54) dX11_put_76 (by decide) ?_
    refine gx_sub (ls2 := [(0, .ref v0), (1, .int (gI v1)), (2, .int (gI v2)), (3, .int (gI t25))]) [1, 2, 3, 0] rfl ?_
    exact hr54 _ _ _ _ _ e
def l_X11_put_54 (n : Nat)  : Nat → Nat → Int → Int → Int → gi_H → Option ((Int ⊕ String) × gi_H)
  | 0, _, _, _, _, _ => none
  | k + 1, v0, v1, v2, v3, h => b_X11_put_54 n  (l_X11_put_54 n  k) v0 v1 v2 v3 h
theorem zl_X11_put_54 {n : Nat}  {res : Int ⊕ String} {h1 : gi_H}  : ∀ (k : Nat) (v0 : Nat) (v1 : Int) (v2 : Int) (v3 : Int) (h : gi_H), l_X11_put_54 n  k v0 v1 v2 v3 h = some (res, h1) → gx_Z mX11_put false false 0 0 54 [(0, .ref v0), (1, .int (gI v1)), (2, .int (gI v2)), (3, .int (gI v3))] [] (gi_cv h) (gx_oI res) (gi_cv h1)
  | 0, _, _, _, _, _, e => gx_0E e
  | k + 1, _, _, _, _, _, e => zb_X11_put_54 (n := n)  (zl_X11_put_54  k) e
set_option maxRecDepth 100000 in
def f_X11_put (n : Nat) (v0 : Nat) (v1 : Int) (v2 : Int) (h : gi_H) : Option ((Int ⊕ String) × gi_H) :=
  Option.bind (gi_rg v1) fun _ => if v1 < 0 then (b_X11_put_19 n   h) else (Option.bind (gi_gI h v0 9 7) fun t3 => Option.bind (gi_rg t3) fun _ => if t3 < v1 then (b_X11_put_19 n   h) else (Option.bind (f_X11_isTerminal v2 h) fun q6 => Option.bind (gi_rg q6) fun _ => if q6 = 0 then (b_X11_put_19 n   h) else (Option.bind (gi_gI h v0 9 7) fun t9 => Option.bind (gi_rg t9) fun _ => if t9 < (12 : Int) then (Option.bind (gi_gI h v0 9 7) fun t12 => l_X11_put_54 n  n v0 v1 v2 t12 h) else (some (.inr gx_ISE, h)))))
set_option maxRecDepth 100000 in
theorem z_X11_put {n : Nat} {v0 : Nat} {v1 : Int} {v2 : Int} {h : gi_H} {res : Int ⊕ String} {h1 : gi_H} (e : f_X11_put n v0 v1 v2 h = some (res, h1)) : gx_Cw mX11_put false [.ref v0, .int (gI v1), .int (gI v2)] (gi_cv h) (gx_oI res) (gi_cv h1) := by
  refine gx_enter (by decide +kernel) rfl (Nat.le_of_ble_eq_true rfl) ?_
  show gx_Z mX11_put false false 0 0 0 [(0, .ref v0), (1, .int (gI v1)), (2, .int (gI v2))] [] (gi_cv h) (gx_oI res) (gi_cv h1)
  refine gx_iload_n dX11_put_0 rfl 1 rfl ?_
  refine gx_bE e (fun _ g1 e => ?_)
  refine gx_iE e (fun c2 e => ?_) (fun c2 e => ?_)
  · refine gy_if_lt (tgt := 19) (gi_rgS g1) dX11_put_1 (by decide) (fun _ => ?_) (fun z => absurd c2 z)
    refine gx_sub (ls2 := []) [] rfl ?_
    exact zb_X11_put_19  e
  · refine gy_if_lt (tgt := 19) (gi_rgS g1) dX11_put_1 (by decide) (fun z => absurd z c2) (fun _ => ?_)
    refine gx_iload_n dX11_put_4 rfl 1 rfl ?_
    refine gx_aload_n dX11_put_5 rfl 0 rfl ?_
    refine gx_bE e (fun t3 ht3 e => ?_)
    refine gy_fI ht3 dX11_put_6 gf_RX11_252_9_7 (by decide) gkN_9_7 gkR_9_7 ?_
    refine gx_bE e (fun _ g4 e => ?_)
    refine gx_iE e (fun c5 e => ?_) (fun c5 e => ?_)
    · refine gy_icmp_gt (tgt := 19) (gi_rgS g1) (gi_rgS g4) dX11_put_9 (by decide) (fun _ => ?_) (fun z => absurd c5 z)
      refine gx_sub (ls2 := []) [] rfl ?_
      exact zb_X11_put_19  e
    · refine gy_icmp_gt (tgt := 19) (gi_rgS g1) (gi_rgS g4) dX11_put_9 (by decide) (fun z => absurd z c5) (fun _ => ?_)
      refine gx_iload_n dX11_put_12 rfl 2 rfl ?_
      refine gx_bE e (fun q6 hq6 e => ?_)
      refine gx_callS (n := 1) (st := []) (As := [.int (gI v2)]) dX11_put_13 (z_X11_isTerminal hq6) rfl ⟨rfl, gw_cw_X11_isTerminal, gw_1, gp_X11_isTerminal, ⟨Nat.le_of_ble_eq_true rfl, Nat.le_of_ble_eq_true rfl⟩⟩ gw_1086 gw_646 ⟨Nat.le_of_ble_eq_true rfl, Nat.le_of_ble_eq_true rfl⟩ (Nat.le_of_ble_eq_true rfl) (gy_k1 (x := .int (gI q6)) (kc2 := 0) (ks2 := 0) ⟨rfl, rfl⟩ ?_) gy_kn
      refine gx_bE e (fun _ g7 e => ?_)
      refine gx_iE e (fun c8 e => ?_) (fun c8 e => ?_)
      · refine gy_if_ne (tgt := 29) (gi_rgS g7) dX11_put_16 (by decide) (fun z => absurd c8 z) (fun _ => ?_)
        refine gx_sub (ls2 := []) [] rfl ?_
        exact zb_X11_put_19  e
      · refine gy_if_ne (tgt := 29) (gi_rgS g7) dX11_put_16 (by decide) (fun _ => ?_) (fun z => absurd z c8)
        refine gx_aload_n dX11_put_29 rfl 0 rfl ?_
        refine gx_bE e (fun t9 ht9 e => ?_)
        refine gy_fI ht9 dX11_put_30 gf_RX11_252_9_7 (by decide) gkN_9_7 gkR_9_7 ?_
        refine gy_bipush dX11_put_33 gcb_12 ?_
        refine gx_bE e (fun _ g10 e => ?_)
        refine gx_iE e (fun c11 e => ?_) (fun c11 e => ?_)
        · refine gy_icmp_lt (tgt := 49) (gi_rgS g10) (by decide) dX11_put_35 (by decide) (fun _ => ?_) (fun z => absurd c11 z)
          refine gx_aload_n dX11_put_49 rfl 0 rfl ?_
          refine gx_bE e (fun t12 ht12 e => ?_)
          refine gy_fI ht12 dX11_put_50 gf_RX11_252_9_7 (by decide) gkN_9_7 gkR_9_7 ?_
          refine gx_istore_n (ls2 := [(3, .int (gI t12)), (0, .ref v0), (1, .int (gI v1)), (2, .int (gI v2))]) dX11_put_53 rfl (Nat.le_of_ble_eq_true rfl) rfl ?_
          refine gx_sub (ls2 := [(0, .ref v0), (1, .int (gI v1)), (2, .int (gI v2)), (3, .int (gI t12))]) [1, 2, 3, 0] rfl ?_
          exact zl_X11_put_54  n _ _ _ _ _ e
        · refine gy_icmp_lt (tgt := 49) (gi_rgS g10) (by decide) dX11_put_35 (by decide) (fun z => absurd z c11) (fun _ => ?_)
          cases e
          exact gx_throwW rfl gt_116_257_120 rfl dX11_put_38 dX11_put_41 dX11_put_42 dX11_put_45 dX11_put_48 (Nat.le_of_ble_eq_true rfl) (Nat.le_of_ble_eq_true rfl) ⟨Nat.le_of_ble_eq_true rfl, Nat.le_of_ble_eq_true rfl⟩
/-! L_put  -/
set_option maxRecDepth 100000 in
def f_L_put (n : Nat) (v0 : Nat) (v1 : Int) (v2 : Int) (v3 : Nat) (h : gi_H) : Option (Int × gi_H) :=
  Option.bind (gi_is h v0 9) fun _ => Option.bind (f_X11_put n v0 v1 v2 h) fun q2 => gx_sm q2.1 (fun t3 => Option.bind (gi_rg t3) fun _ => Option.bind (gi_s2 q2.2 v3 (0 : Int) t3) fun h5 => some ((0 : Int), h5)) (fun t3 => if t3 = gx_IOB then (some ((1 : Int), q2.2)) else (if t3 = gx_ISE then (some ((2 : Int), q2.2)) else (none)))
set_option maxRecDepth 100000 in
theorem z_L_put {n : Nat} {v0 : Nat} {v1 : Int} {v2 : Int} {v3 : Nat} {h : gi_H} {res : Int} {h1 : gi_H} (e : f_L_put n v0 v1 v2 v3 h = some (res, h1)) : gx_Cw mL_put false [.ref v0, .int (gI v1), .int (gI v2), .ref v3] (gi_cv h) (.inl (some (.int (gI res)))) (gi_cv h1) := by
  refine gx_enter (by decide +kernel) rfl (Nat.le_of_ble_eq_true rfl) ?_
  show gx_Z mL_put false false 0 0 0 [(0, .ref v0), (1, .int (gI v1)), (2, .int (gI v2)), (3, .ref v3)] [] (gi_cv h) (.inl (some (.int (gI res)))) (gi_cv h1)
  refine gx_aload_n dL_put_0 rfl 3 rfl ?_
  refine gy_iconst dL_put_1 ?_
  refine gx_aload_n dL_put_2 rfl 0 rfl ?_
  refine gx_iload_n dL_put_3 rfl 1 rfl ?_
  refine gx_iload_n dL_put_4 rfl 2 rfl ?_
  refine gx_bE e (fun _ hu1 e => ?_)
  refine gx_bE e (fun q2 hq2 e => ?_)
  refine gx_smE e (fun t3 ht3 e => ?_) (fun t3 ht3 e => ?_)
  · have zq2 := z_X11_put hq2
    rw [ht3] at zq2
    refine gx_callV (n := 2) (st := [.int (gI (0 : Int)), .ref v3]) (As := [.int (gI v1), .int (gI v2)]) (b := v0) dL_put_5 zq2 rfl ⟨rfl, gw_cw_X11_put, gw_1, gp_X11_put, ⟨Nat.le_of_ble_eq_true rfl, Nat.le_of_ble_eq_true rfl⟩⟩ (gi_isS hu1) (by decide) gw_1211 gw_1212 gw_1213 rfl ⟨Nat.le_of_ble_eq_true rfl, Nat.le_of_ble_eq_true rfl⟩ (Nat.le_of_ble_eq_true rfl) (gy_k1 (x := .int (gI t3)) (kc2 := 1) (ks2 := 6) ⟨rfl, rfl⟩ ?_) gy_kn
    refine gx_bE e (fun _ g4 e => ?_)
    refine gy_i2l (gi_rgS g4) dL_put_8 ?_
    refine gx_bE e (fun h5 hh5 e => ?_)
    refine gy_t2 hh5 dL_put_9 ?_
    refine gx_goto (tgt := 21) dL_put_10 (by decide) ?_
    refine gy_iconst dL_put_21 ?_
    cases e
    exact gx_iret dL_put_22 rfl ⟨Nat.le_of_ble_eq_true rfl, Nat.le_of_ble_eq_true rfl⟩ (fun z => z)
  · have zq2 := z_X11_put hq2
    rw [ht3] at zq2
    refine gx_callV (n := 2) (st := [.int (gI (0 : Int)), .ref v3]) (As := [.int (gI v1), .int (gI v2)]) (b := v0) dL_put_5 zq2 rfl ⟨rfl, gw_cw_X11_put, gw_1, gp_X11_put, ⟨Nat.le_of_ble_eq_true rfl, Nat.le_of_ble_eq_true rfl⟩⟩ (gi_isS hu1) (by decide) gw_1211 gw_1212 gw_1213 rfl ⟨Nat.le_of_ble_eq_true rfl, Nat.le_of_ble_eq_true rfl⟩ (Nat.le_of_ble_eq_true rfl) gy_kN (gy_kE (kc2 := 1) (ks2 := 6) ⟨rfl, rfl⟩ ?_)
    refine gx_iE e (fun c6 e => ?_) (fun c6 e => ?_)
    · rw [c6]
      refine gx_catch (ls2 := [(0, .ref v0), (1, .int (gI v1)), (2, .int (gI v2)), (3, .ref v3)]) [] (x := (0, 10, 13, 28)) rfl (fun z hz => by cases hz) (by decide +kernel) (by decide) gw_1028 (by decide +kernel) (Nat.le_of_ble_eq_true rfl) (Or.inr ⟨rfl, dL_put_13⟩) rfl ?_
      refine gy_iconst dL_put_15 ?_
      cases e
      exact gx_iret dL_put_16 rfl ⟨Nat.le_of_ble_eq_true rfl, Nat.le_of_ble_eq_true rfl⟩ (fun z => z)
    refine gx_iE e (fun c7 e => ?_) (fun c7 e => ?_)
    · rw [c7]
      refine gx_catch (ls2 := [(0, .ref v0), (1, .int (gI v1)), (2, .int (gI v2)), (3, .ref v3)]) [(0, 10, 13, 28)] (x := (0, 10, 17, 15)) rfl (by refine List.forall_mem_cons.mpr ⟨⟨by decide, "java/lang/IndexOutOfBoundsException", gw_1028, by decide +kernel⟩, ?_⟩;  exact fun z hz => absurd hz List.not_mem_nil) (by decide +kernel) (by decide) gw_837 (by decide +kernel) (Nat.le_of_ble_eq_true rfl) (Or.inr ⟨rfl, dL_put_17⟩) rfl ?_
      refine gy_iconst dL_put_19 ?_
      cases e
      exact gx_iret dL_put_20 rfl ⟨Nat.le_of_ble_eq_true rfl, Nat.le_of_ble_eq_true rfl⟩ (fun z => z)
    cases e
/-! X12_put  -/
set_option maxRecDepth 100000 in
def b_X12_put_80 (n : Nat)  (v0 : Nat) (v1 : Int) (v2 : Int)  (h : gi_H) : Option (Int × gi_H) :=
  Option.bind (gi_gR h v0 10 16) fun t14 => Option.bind (gi_s1 h t14 v1 v2) fun h15 => Option.bind (gi_gI h15 v0 10 17) fun t16 => Option.bind (gi_pI h15 v0 10 17 (t16 + (1 : Int))) fun h17 => Option.bind (gi_gI h17 v0 10 17) fun t18 => some (t18, h17)
set_option maxRecDepth 100000 in
theorem zb_X12_put_80 {al : Bool} {n : Nat}  {res : Int} {h1 : gi_H}  {v0 : Nat} {v1 : Int} {v2 : Int}  {h : gi_H} (e : b_X12_put_80 n v0 v1 v2 h = some (res, h1)) : gx_Z mX12_put al al 0 0 80 [(0, .ref v0), (1, .int (gI v1)), (2, .int (gI v2))] [] (gi_cv h) (.inl (some (.int (gI res)))) (gi_cv h1) := by
  refine gx_aload_n dX12_put_80 rfl 0 rfl ?_
  refine gx_bE e (fun t14 ht14 e => ?_)
  refine gy_fR ht14 dX12_put_81 gf_RX12_49_10_16 (by decide) gkN_10_16 gkR_10_16 ?_
  refine gx_iload_n dX12_put_84 rfl 1 rfl ?_
  refine gx_iload_n dX12_put_85 rfl 2 rfl ?_
  refine gx_bE e (fun h15 hh15 e => ?_)
  refine gy_t1 hh15 dX12_put_86 ?_
  refine gx_aload_n dX12_put_87 rfl 0 rfl ?_
  refine gx_dup dX12_put_88 rfl ?_
  refine gx_bE e (fun t16 ht16 e => ?_)
  refine gy_fI ht16 dX12_put_89 gf_RX12_299_10_17 (by decide) gkN_10_17 gkR_10_17 ?_
  refine gy_iconst dX12_put_92 ?_
  refine gy_iadd dX12_put_93 ?_
  refine gx_bE e (fun h17 hh17 e => ?_)
  refine gy_qI hh17 dX12_put_94 gf_RX12_299_10_17 (by decide) gkN_10_17 rfl (Or.inl rfl) ?_
  refine gx_aload_n dX12_put_97 rfl 0 rfl ?_
  refine gx_bE e (fun t18 ht18 e => ?_)
  refine gy_fI ht18 dX12_put_98 gf_RX12_299_10_17 (by decide) gkN_10_17 gkR_10_17 ?_
  cases e
  exact gx_iret dX12_put_101 rfl ⟨Nat.le_of_ble_eq_true rfl, Nat.le_of_ble_eq_true rfl⟩ (fun z => z)
set_option maxRecDepth 100000 in
def b_X12_put_55 (n : Nat) (r55 : Nat → Int → Int → Int → gi_H → Option (Int × gi_H)) (v0 : Nat) (v1 : Int) (v2 : Int) (v3 : Int)  (h : gi_H) : Option (Int × gi_H) :=
  Option.bind (gi_rg v3) fun _ => Option.bind (gi_rg v1) fun _ => if v3 ≤ v1 then (b_X12_put_80 n  v0 v1 v2 h) else (Option.bind (gi_gR h v0 10 16) fun t19 => Option.bind (gi_gR h v0 10 16) fun t20 => Option.bind (gi_aI h 1 t20 (v3 - (1 : Int))) fun t21 => Option.bind (gi_s1 h t19 v3 t21) fun h22 => gx_nm (v3 + (-1 : Int)) fun t23 => r55 v0 v1 v2 t23 h22)
set_option maxRecDepth 100000 in
theorem zb_X12_put_55 {al : Bool} {n : Nat} {r55 : Nat → Int → Int → Int → gi_H → Option (Int × gi_H)} {res : Int} {h1 : gi_H} (hr55 : ∀ (x0 : Nat) (x1 : Int) (x2 : Int) (x3 : Int) (hh : gi_H), r55 x0 x1 x2 x3 hh = some (res, h1) → gx_Z mX12_put al al 0 0 55 [(0, .ref x0), (1, .int (gI x1)), (2, .int (gI x2)), (3, .int (gI x3))] [] (gi_cv hh) (.inl (some (.int (gI res)))) (gi_cv h1)) {v0 : Nat} {v1 : Int} {v2 : Int} {v3 : Int}  {h : gi_H} (e : b_X12_put_55 n r55 v0 v1 v2 v3 h = some (res, h1)) : gx_Z mX12_put al al 0 0 55 [(0, .ref v0), (1, .int (gI v1)), (2, .int (gI v2)), (3, .int (gI v3))] [] (gi_cv h) (.inl (some (.int (gI res)))) (gi_cv h1) := by
  refine gx_iload_n dX12_put_55 rfl 3 rfl ?_
  refine gx_iload_n dX12_put_56 rfl 1 rfl ?_
  refine gx_bE e (fun _ g11 e => ?_)
  refine gx_bE e (fun _ g12 e => ?_)
  refine gx_iE e (fun c13 e => ?_) (fun c13 e => ?_)
  · refine gy_icmp_le (tgt := 80) (gi_rgS g11) (gi_rgS g12) dX12_put_57 (by decide) (fun _ => ?_) (fun z => absurd c13 z)
    refine gx_sub (ls2 := [(0, .ref v0), (1, .int (gI v1)), (2, .int (gI v2))]) [0, 1, 2] rfl ?_
    exact zb_X12_put_80  e
  · refine gy_icmp_le (tgt := 80) (gi_rgS g11) (gi_rgS g12) dX12_put_57 (by decide) (fun z => absurd z c13) (fun _ => ?_)
    refine gx_aload_n dX12_put_60 rfl 0 rfl ?_
    refine gx_bE e (fun t19 ht19 e => ?_)
    refine gy_fR ht19 dX12_put_61 gf_RX12_49_10_16 (by decide) gkN_10_16 gkR_10_16 ?_
    refine gx_iload_n dX12_put_64 rfl 3 rfl ?_
    refine gx_aload_n dX12_put_65 rfl 0 rfl ?_
    refine gx_bE e (fun t20 ht20 e => ?_)
    refine gy_fR ht20 dX12_put_66 gf_RX12_49_10_16 (by decide) gkN_10_16 gkR_10_16 ?_
    refine gx_iload_n dX12_put_69 rfl 3 rfl ?_
    refine gy_iconst dX12_put_70 ?_
    refine gy_isub dX12_put_71 ?_
    refine gx_bE e (fun t21 ht21 e => ?_)
    refine gy_l1 ht21 dX12_put_72 ?_
    refine gx_bE e (fun h22 hh22 e => ?_)
    refine gy_t1 hh22 dX12_put_73 ?_
    refine gx_nE e (fun t23 ht23 e => ?_)
    refine gy_iinc (v := t23) (ls2 := [(3, .int (gI t23)), (0, .ref v0), (1, .int (gI v1)), (2, .int (gI v2))]) dX12_put_74 3 rfl ht23 (Nat.le_of_ble_eq_true rfl) rfl ?_
    refine gx_goto (tgt := 55) dX12_put_77 (by decide) ?_
    refine gx_sub (ls2 := [(0, .ref v0), (1, .int (gI v1)), (2, .int (gI v2)), (3, .int (gI t23))]) [1, 2, 3, 0] rfl ?_
    exact hr55 _ _ _ _ _ e
def l_X12_put_55 (n : Nat)  : Nat → Nat → Int → Int → Int → gi_H → Option (Int × gi_H)
  | 0, _, _, _, _, _ => none
  | k + 1, v0, v1, v2, v3, h => b_X12_put_55 n  (l_X12_put_55 n  k) v0 v1 v2 v3 h
theorem zl_X12_put_55 {al : Bool} {n : Nat}  {res : Int} {h1 : gi_H}  : ∀ (k : Nat) (v0 : Nat) (v1 : Int) (v2 : Int) (v3 : Int) (h : gi_H), l_X12_put_55 n  k v0 v1 v2 v3 h = some (res, h1) → gx_Z mX12_put al al 0 0 55 [(0, .ref v0), (1, .int (gI v1)), (2, .int (gI v2)), (3, .int (gI v3))] [] (gi_cv h) (.inl (some (.int (gI res)))) (gi_cv h1)
  | 0, _, _, _, _, _, e => gx_0E e
  | k + 1, _, _, _, _, _, e => zb_X12_put_55 (n := n)  (zl_X12_put_55  k) e
set_option maxRecDepth 100000 in
def b_X12_put_41 (n : Nat)  (v0 : Nat) (v1 : Int) (v2 : Int) (s0 : Nat) (s1 : Int) (s2 : Int) (h : gi_H) : Option (Int × gi_H) :=
  Option.bind (gi_is h s0 10) fun _ => Option.bind (f_X12_goes s0 s1 s2 (1 : Int) h) fun q7 => Option.bind (gi_rg q7.1) fun _ => if q7.1 = 0 then (some ((0 : Int), q7.2)) else (Option.bind (gi_gI q7.2 v0 10 17) fun t10 => l_X12_put_55 n  n v0 v1 v2 t10 q7.2)
set_option maxRecDepth 100000 in
theorem zb_X12_put_41 {al : Bool} {n : Nat}  {res : Int} {h1 : gi_H}  {v0 : Nat} {v1 : Int} {v2 : Int} {s0 : Nat} {s1 : Int} {s2 : Int} {h : gi_H} (e : b_X12_put_41 n v0 v1 v2 s0 s1 s2 h = some (res, h1)) : gx_Z mX12_put al al 0 0 41 [(0, .ref v0), (1, .int (gI v1)), (2, .int (gI v2))] [.int (gI s2), .int (gI s1), .ref s0] (gi_cv h) (.inl (some (.int (gI res)))) (gi_cv h1) := by
  refine gy_iconst dX12_put_41 ?_
  refine gx_bE e (fun _ hu6 e => ?_)
  refine gx_bE e (fun q7 hq7 e => ?_)
  refine gx_callV (n := 3) (st := []) (As := [.int (gI s1), .int (gI s2), .int (gI (1 : Int))]) (b := s0) dX12_put_42 (z_X12_goes hq7) rfl ⟨rfl, gw_cw_X12_goes, gw_14, gp_X12_goes, ⟨Nat.le_of_ble_eq_true rfl, Nat.le_of_ble_eq_true rfl⟩⟩ (gi_isS hu6) (by decide) gw_1480 gw_1482 gs_58 rfl ⟨Nat.le_of_ble_eq_true rfl, Nat.le_of_ble_eq_true rfl⟩ (Nat.le_of_ble_eq_true rfl) (gy_k1 (x := .int (gI q7.1)) (kc2 := 0) (ks2 := 0) ⟨rfl, rfl⟩ ?_) gy_kn
  refine gx_bE e (fun _ g8 e => ?_)
  refine gx_iE e (fun c9 e => ?_) (fun c9 e => ?_)
  · refine gy_if_ne (tgt := 50) (gi_rgS g8) dX12_put_45 (by decide) (fun z => absurd c9 z) (fun _ => ?_)
    refine gy_iconst dX12_put_48 ?_
    cases e
    exact gx_iret dX12_put_49 rfl ⟨Nat.le_of_ble_eq_true rfl, Nat.le_of_ble_eq_true rfl⟩ (fun z => z)
  · refine gy_if_ne (tgt := 50) (gi_rgS g8) dX12_put_45 (by decide) (fun _ => ?_) (fun z => absurd z c9)
    refine gx_aload_n dX12_put_50 rfl 0 rfl ?_
    refine gx_bE e (fun t10 ht10 e => ?_)
    refine gy_fI ht10 dX12_put_51 gf_RX12_299_10_17 (by decide) gkN_10_17 gkR_10_17 ?_
    refine gx_istore_n (ls2 := [(3, .int (gI t10)), (0, .ref v0), (1, .int (gI v1)), (2, .int (gI v2))]) dX12_put_54 rfl (Nat.le_of_ble_eq_true rfl) rfl ?_
    refine gx_sub (ls2 := [(0, .ref v0), (1, .int (gI v1)), (2, .int (gI v2)), (3, .int (gI t10))]) [1, 2, 3, 0] rfl ?_
    exact zl_X12_put_55  n _ _ _ _ _ e
set_option maxRecDepth 100000 in
def b_X12_put_27 (n : Nat)  (v0 : Nat) (v1 : Int) (v2 : Int) (s0 : Nat) (s1 : Int) (h : gi_H) : Option (Int × gi_H) :=
  Option.bind (gi_gI h v0 10 17) fun t3 => Option.bind (gi_rg t3) fun _ => if (12 : Int) ≤ t3 then (b_X12_put_41 n  v0 v1 v2 s0 s1 (0 : Int) h) else (b_X12_put_41 n  v0 v1 v2 s0 s1 (1 : Int) h)
set_option maxRecDepth 100000 in
theorem zb_X12_put_27 {al : Bool} {n : Nat}  {res : Int} {h1 : gi_H}  {v0 : Nat} {v1 : Int} {v2 : Int} {s0 : Nat} {s1 : Int} {h : gi_H} (e : b_X12_put_27 n v0 v1 v2 s0 s1 h = some (res, h1)) : gx_Z mX12_put al al 0 0 27 [(0, .ref v0), (1, .int (gI v1)), (2, .int (gI v2))] [.int (gI s1), .ref s0] (gi_cv h) (.inl (some (.int (gI res)))) (gi_cv h1) := by
  refine gx_aload_n dX12_put_27 rfl 0 rfl ?_
  refine gx_bE e (fun t3 ht3 e => ?_)
  refine gy_fI ht3 dX12_put_28 gf_RX12_299_10_17 (by decide) gkN_10_17 gkR_10_17 ?_
  refine gy_bipush dX12_put_31 gcb_12 ?_
  refine gx_bE e (fun _ g4 e => ?_)
  refine gx_iE e (fun c5 e => ?_) (fun c5 e => ?_)
  · refine gy_icmp_ge (tgt := 40) (gi_rgS g4) (by decide) dX12_put_33 (by decide) (fun _ => ?_) (fun z => absurd c5 z)
    refine gy_iconst dX12_put_40 ?_
    exact zb_X12_put_41  e
  · refine gy_icmp_ge (tgt := 40) (gi_rgS g4) (by decide) dX12_put_33 (by decide) (fun z => absurd z c5) (fun _ => ?_)
    refine gy_iconst dX12_put_36 ?_
    refine gx_goto (tgt := 41) dX12_put_37 (by decide) ?_
    exact zb_X12_put_41  e
set_option maxRecDepth 100000 in
def b_X12_put_26 (n : Nat)  (v0 : Nat) (v1 : Int) (v2 : Int) (s0 : Nat) (h : gi_H) : Option (Int × gi_H) :=
  b_X12_put_27 n  v0 v1 v2 s0 (0 : Int) h
set_option maxRecDepth 100000 in
theorem zb_X12_put_26 {al : Bool} {n : Nat}  {res : Int} {h1 : gi_H}  {v0 : Nat} {v1 : Int} {v2 : Int} {s0 : Nat} {h : gi_H} (e : b_X12_put_26 n v0 v1 v2 s0 h = some (res, h1)) : gx_Z mX12_put al al 0 0 26 [(0, .ref v0), (1, .int (gI v1)), (2, .int (gI v2))] [.ref s0] (gi_cv h) (.inl (some (.int (gI res)))) (gi_cv h1) := by
  refine gy_iconst dX12_put_26 ?_
  exact zb_X12_put_27  e
set_option maxRecDepth 100000 in
def f_X12_put (n : Nat) (v0 : Nat) (v1 : Int) (v2 : Int) (h : gi_H) : Option (Int × gi_H) :=
  Option.bind (gi_rg v1) fun _ => if v1 < 0 then (b_X12_put_26 n  v0 v1 v2 v0 h) else (Option.bind (gi_gI h v0 10 17) fun t24 => Option.bind (gi_rg t24) fun _ => if t24 < v1 then (b_X12_put_26 n  v0 v1 v2 v0 h) else (Option.bind (f_X12_isBelow v2 (8 : Int) h) fun q27 => Option.bind (gi_rg q27) fun _ => if q27 = 0 then (b_X12_put_26 n  v0 v1 v2 v0 h) else (b_X12_put_27 n  v0 v1 v2 v0 (1 : Int) h)))
set_option maxRecDepth 100000 in
theorem z_X12_put {al : Bool} {n : Nat} {v0 : Nat} {v1 : Int} {v2 : Int} {h : gi_H} {res : Int} {h1 : gi_H} (e : f_X12_put n v0 v1 v2 h = some (res, h1)) : gx_Cw mX12_put al [.ref v0, .int (gI v1), .int (gI v2)] (gi_cv h) (.inl (some (.int (gI res)))) (gi_cv h1) := by
  refine gx_enter (by decide +kernel) rfl (Nat.le_of_ble_eq_true rfl) ?_
  show gx_Z mX12_put al al 0 0 0 [(0, .ref v0), (1, .int (gI v1)), (2, .int (gI v2))] [] (gi_cv h) (.inl (some (.int (gI res)))) (gi_cv h1)
  refine gx_aload_n dX12_put_0 rfl 0 rfl ?_
  refine gx_iload_n dX12_put_1 rfl 1 rfl ?_
  refine gx_bE e (fun _ g1 e => ?_)
  refine gx_iE e (fun c2 e => ?_) (fun c2 e => ?_)
  · refine gy_if_lt (tgt := 26) (gi_rgS g1) dX12_put_2 (by decide) (fun _ => ?_) (fun z => absurd c2 z)
    exact zb_X12_put_26  e
  · refine gy_if_lt (tgt := 26) (gi_rgS g1) dX12_put_2 (by decide) (fun z => absurd z c2) (fun _ => ?_)
    refine gx_iload_n dX12_put_5 rfl 1 rfl ?_
    refine gx_aload_n dX12_put_6 rfl 0 rfl ?_
    refine gx_bE e (fun t24 ht24 e => ?_)
    refine gy_fI ht24 dX12_put_7 gf_RX12_299_10_17 (by decide) gkN_10_17 gkR_10_17 ?_
    refine gx_bE e (fun _ g25 e => ?_)
    refine gx_iE e (fun c26 e => ?_) (fun c26 e => ?_)
    · refine gy_icmp_gt (tgt := 26) (gi_rgS g1) (gi_rgS g25) dX12_put_10 (by decide) (fun _ => ?_) (fun z => absurd c26 z)
      exact zb_X12_put_26  e
    · refine gy_icmp_gt (tgt := 26) (gi_rgS g1) (gi_rgS g25) dX12_put_10 (by decide) (fun z => absurd z c26) (fun _ => ?_)
      refine gx_iload_n dX12_put_13 rfl 2 rfl ?_
      refine gy_bipush dX12_put_14 gcb_8 ?_
      refine gx_bE e (fun q27 hq27 e => ?_)
      refine gx_callS (n := 2) (st := [.ref v0]) (As := [.int (gI v2), .int (gI (8 : Int))]) dX12_put_16 (z_X12_isBelow hq27) rfl ⟨rfl, gw_cw_X12_isBelow, gw_14, gp_X12_isBelow, ⟨Nat.le_of_ble_eq_true rfl, Nat.le_of_ble_eq_true rfl⟩⟩ gw_1540 gw_1541 ⟨Nat.le_of_ble_eq_true rfl, Nat.le_of_ble_eq_true rfl⟩ (Nat.le_of_ble_eq_true rfl) (gy_k1 (x := .int (gI q27)) (kc2 := 0) (ks2 := 0) ⟨rfl, rfl⟩ ?_) gy_kn
      refine gx_bE e (fun _ g28 e => ?_)
      refine gx_iE e (fun c29 e => ?_) (fun c29 e => ?_)
      · refine gy_if_eq (tgt := 26) (gi_rgS g28) dX12_put_19 (by decide) (fun _ => ?_) (fun z => absurd c29 z)
        exact zb_X12_put_26  e
      · refine gy_if_eq (tgt := 26) (gi_rgS g28) dX12_put_19 (by decide) (fun z => absurd z c29) (fun _ => ?_)
        refine gy_iconst dX12_put_22 ?_
        refine gx_goto (tgt := 27) dX12_put_23 (by decide) ?_
        exact zb_X12_put_27  e
/-! X11_cut  -/
set_option maxRecDepth 100000 in
def b_X11_cut_12 (n : Nat)    (h : gi_H) : Option ((Int ⊕ String) × gi_H) :=
  some (.inr gx_IOB, h)
set_option maxRecDepth 100000 in
theorem zb_X11_cut_12 {n : Nat}  {res : Int ⊕ String} {h1 : gi_H}    {h : gi_H} (e : b_X11_cut_12 n  h = some (res, h1)) : gx_Z mX11_cut false false 0 0 12 [] [] (gi_cv h) (gx_oI res) (gi_cv h1) := by
  cases e
  exact gx_throw rfl gt_151_227_155 rfl dX11_cut_12 dX11_cut_15 dX11_cut_16 dX11_cut_18 dX11_cut_21 (Nat.le_of_ble_eq_true rfl) (Nat.le_of_ble_eq_true rfl) ⟨Nat.le_of_ble_eq_true rfl, Nat.le_of_ble_eq_true rfl⟩
set_option maxRecDepth 100000 in
def b_X11_cut_59 (n : Nat)  (v0 : Nat) (v2 : Int)  (h : gi_H) : Option ((Int ⊕ String) × gi_H) :=
  Option.bind (gi_gI h v0 9 7) fun t10 => Option.bind (gi_pI h v0 9 7 (t10 - (1 : Int))) fun h11 => some (.inl v2, h11)
set_option maxRecDepth 100000 in
theorem zb_X11_cut_59 {n : Nat}  {res : Int ⊕ String} {h1 : gi_H}  {v0 : Nat} {v2 : Int}  {h : gi_H} (e : b_X11_cut_59 n v0 v2 h = some (res, h1)) : gx_Z mX11_cut false false 0 0 59 [(0, .ref v0), (2, .int (gI v2))] [] (gi_cv h) (gx_oI res) (gi_cv h1) := by
  refine gx_aload_n dX11_cut_59 rfl 0 rfl ?_
  refine gx_dup dX11_cut_60 rfl ?_
  refine gx_bE e (fun t10 ht10 e => ?_)
  refine gy_fI ht10 dX11_cut_61 gf_RX11_252_9_7 (by decide) gkN_9_7 gkR_9_7 ?_
  refine gy_iconst dX11_cut_64 ?_
  refine gy_isub dX11_cut_65 ?_
  refine gx_bE e (fun h11 hh11 e => ?_)
  refine gy_qI hh11 dX11_cut_66 gf_RX11_252_9_7 (by decide) gkN_9_7 rfl (Or.inl rfl) ?_
  refine gx_iload_n dX11_cut_69 rfl 1 rfl ?_
  cases e
  exact gx_iret dX11_cut_70 rfl ⟨Nat.le_of_ble_eq_true rfl, Nat.le_of_ble_eq_true rfl⟩ (fun z => z)
set_option maxRecDepth 100000 in
def b_X11_cut_31 (n : Nat) (r31 : Nat → Int → Int → gi_H → Option ((Int ⊕ String) × gi_H)) (v0 : Nat) (v2 : Int) (v3 : Int)  (h : gi_H) : Option ((Int ⊕ String) × gi_H) :=
  Option.bind (gi_rg (v3 + (1 : Int))) fun _ => if (13 : Int) ≤ (v3 + (1 : Int)) then (b_X11_cut_59 n  v0 v2 h) else (Option.bind (gi_gR h v0 9 6) fun t12 => Option.bind (gi_gR h v0 9 6) fun t13 => Option.bind (gi_aI h 1 t13 (v3 + (1 : Int))) fun t14 => Option.bind (gi_s1 h t12 v3 t14) fun h15 => gx_nm (v3 + (1 : Int)) fun t16 => r31 v0 v2 t16 h15)
set_option maxRecDepth 100000 in
theorem zb_X11_cut_31 {n : Nat} {r31 : Nat → Int → Int → gi_H → Option ((Int ⊕ String) × gi_H)} {res : Int ⊕ String} {h1 : gi_H} (hr31 : ∀ (x0 : Nat) (x2 : Int) (x3 : Int) (hh : gi_H), r31 x0 x2 x3 hh = some (res, h1) → gx_Z mX11_cut false false 0 0 31 [(0, .ref x0), (2, .int (gI x2)), (3, .int (gI x3))] [] (gi_cv hh) (gx_oI res) (gi_cv h1)) {v0 : Nat} {v2 : Int} {v3 : Int}  {h : gi_H} (e : b_X11_cut_31 n r31 v0 v2 v3 h = some (res, h1)) : gx_Z mX11_cut false false 0 0 31 [(0, .ref v0), (2, .int (gI v2)), (3, .int (gI v3))] [] (gi_cv h) (gx_oI res) (gi_cv h1) := by
  refine gx_iload_n dX11_cut_31 rfl 2 rfl ?_
  refine gy_iconst dX11_cut_32 ?_
  refine gy_iadd dX11_cut_33 ?_
  refine gy_bipush dX11_cut_34 gcb_13 ?_
  refine gx_bE e (fun _ g8 e => ?_)
  refine gx_iE e (fun c9 e => ?_) (fun c9 e => ?_)
  · refine gy_icmp_ge (tgt := 59) (gi_rgS g8) (by decide) dX11_cut_36 (by decide) (fun _ => ?_) (fun z => absurd c9 z)
    refine gx_sub (ls2 := [(0, .ref v0), (2, .int (gI v2))]) [0, 1] rfl ?_
    exact zb_X11_cut_59  e
  · refine gy_icmp_ge (tgt := 59) (gi_rgS g8) (by decide) dX11_cut_36 (by decide) (fun z => absurd z c9) (fun _ => ?_)
    refine gx_aload_n dX11_cut_39 rfl 0 rfl ?_
    refine gx_bE e (fun t12 ht12 e => ?_)
    refine gy_fR ht12 dX11_cut_40 gf_RX11_49_9_6 (by decide) gkN_9_6 gkR_9_6 ?_
    refine gx_iload_n dX11_cut_43 rfl 2 rfl ?_
    refine gx_aload_n dX11_cut_44 rfl 0 rfl ?_
    refine gx_bE e (fun t13 ht13 e => ?_)
    refine gy_fR ht13 dX11_cut_45 gf_RX11_49_9_6 (by decide) gkN_9_6 gkR_9_6 ?_
    refine gx_iload_n dX11_cut_48 rfl 2 rfl ?_
    refine gy_iconst dX11_cut_49 ?_
    refine gy_iadd dX11_cut_50 ?_
    refine gx_bE e (fun t14 ht14 e => ?_)
    refine gy_l1 ht14 dX11_cut_51 ?_
    refine gx_bE e (fun h15 hh15 e => ?_)
    refine gy_t1 hh15 dX11_cut_52 ?_
    refine gx_nE e (fun t16 ht16 e => ?_)
    refine gy_iinc (v := t16) (ls2 := [(3, .int (gI t16)), (0, .ref v0), (2, .int (gI v2))]) dX11_cut_53 2 rfl ht16 (Nat.le_of_ble_eq_true rfl) rfl ?_
    refine gx_goto (tgt := 31) dX11_cut_56 (by decide) ?_
    refine gx_sub (ls2 := [(0, .ref v0), (2, .int (gI v2)), (3, .int (gI t16))]) [1, 2, 0] rfl ?_
    exact hr31 _ _ _ _ e
def l_X11_cut_31 (n : Nat)  : Nat → Nat → Int → Int → gi_H → Option ((Int ⊕ String) × gi_H)
  | 0, _, _, _, _ => none
  | k + 1, v0, v2, v3, h => b_X11_cut_31 n  (l_X11_cut_31 n  k) v0 v2 v3 h
theorem zl_X11_cut_31 {n : Nat}  {res : Int ⊕ String} {h1 : gi_H}  : ∀ (k : Nat) (v0 : Nat) (v2 : Int) (v3 : Int) (h : gi_H), l_X11_cut_31 n  k v0 v2 v3 h = some (res, h1) → gx_Z mX11_cut false false 0 0 31 [(0, .ref v0), (2, .int (gI v2)), (3, .int (gI v3))] [] (gi_cv h) (gx_oI res) (gi_cv h1)
  | 0, _, _, _, _, e => gx_0E e
  | k + 1, _, _, _, _, e => zb_X11_cut_31 (n := n)  (zl_X11_cut_31  k) e
set_option maxRecDepth 100000 in
def f_X11_cut (n : Nat) (v0 : Nat) (v1 : Int) (h : gi_H) : Option ((Int ⊕ String) × gi_H) :=
  Option.bind (gi_rg v1) fun _ => if v1 < 0 then (b_X11_cut_12 n   h) else (Option.bind (gi_gI h v0 9 7) fun t3 => Option.bind (gi_rg t3) fun _ => if v1 < t3 then (Option.bind (gi_gR h v0 9 6) fun t6 => Option.bind (gi_aI h 1 t6 v1) fun t7 => l_X11_cut_31 n  n v0 t7 v1 h) else (b_X11_cut_12 n   h))
set_option maxRecDepth 100000 in
theorem z_X11_cut {n : Nat} {v0 : Nat} {v1 : Int} {h : gi_H} {res : Int ⊕ String} {h1 : gi_H} (e : f_X11_cut n v0 v1 h = some (res, h1)) : gx_Cw mX11_cut false [.ref v0, .int (gI v1)] (gi_cv h) (gx_oI res) (gi_cv h1) := by
  refine gx_enter (by decide +kernel) rfl (Nat.le_of_ble_eq_true rfl) ?_
  show gx_Z mX11_cut false false 0 0 0 [(0, .ref v0), (1, .int (gI v1))] [] (gi_cv h) (gx_oI res) (gi_cv h1)
  refine gx_iload_n dX11_cut_0 rfl 1 rfl ?_
  refine gx_bE e (fun _ g1 e => ?_)
  refine gx_iE e (fun c2 e => ?_) (fun c2 e => ?_)
  · refine gy_if_lt (tgt := 12) (gi_rgS g1) dX11_cut_1 (by decide) (fun _ => ?_) (fun z => absurd c2 z)
    refine gx_sub (ls2 := []) [] rfl ?_
    exact zb_X11_cut_12  e
  · refine gy_if_lt (tgt := 12) (gi_rgS g1) dX11_cut_1 (by decide) (fun z => absurd z c2) (fun _ => ?_)
    refine gx_iload_n dX11_cut_4 rfl 1 rfl ?_
    refine gx_aload_n dX11_cut_5 rfl 0 rfl ?_
    refine gx_bE e (fun t3 ht3 e => ?_)
    refine gy_fI ht3 dX11_cut_6 gf_RX11_252_9_7 (by decide) gkN_9_7 gkR_9_7 ?_
    refine gx_bE e (fun _ g4 e => ?_)
    refine gx_iE e (fun c5 e => ?_) (fun c5 e => ?_)
    · refine gy_icmp_lt (tgt := 22) (gi_rgS g1) (gi_rgS g4) dX11_cut_9 (by decide) (fun _ => ?_) (fun z => absurd c5 z)
      refine gx_aload_n dX11_cut_22 rfl 0 rfl ?_
      refine gx_bE e (fun t6 ht6 e => ?_)
      refine gy_fR ht6 dX11_cut_23 gf_RX11_49_9_6 (by decide) gkN_9_6 gkR_9_6 ?_
      refine gx_iload_n dX11_cut_26 rfl 1 rfl ?_
      refine gx_bE e (fun t7 ht7 e => ?_)
      refine gy_l1 ht7 dX11_cut_27 ?_
      refine gx_istore_n (ls2 := [(2, .int (gI t7)), (0, .ref v0), (1, .int (gI v1))]) dX11_cut_28 rfl (Nat.le_of_ble_eq_true rfl) rfl ?_
      refine gx_iload_n dX11_cut_29 rfl 2 rfl ?_
      refine gx_istore_n (ls2 := [(3, .int (gI v1)), (2, .int (gI t7)), (0, .ref v0), (1, .int (gI v1))]) dX11_cut_30 rfl (Nat.le_of_ble_eq_true rfl) rfl ?_
      refine gx_sub (ls2 := [(0, .ref v0), (2, .int (gI t7)), (3, .int (gI v1))]) [2, 1, 0] rfl ?_
      exact zl_X11_cut_31  n _ _ _ _ e
    · refine gy_icmp_lt (tgt := 22) (gi_rgS g1) (gi_rgS g4) dX11_cut_9 (by decide) (fun z => absurd z c5) (fun _ => ?_)
      refine gx_sub (ls2 := []) [] rfl ?_
      exact zb_X11_cut_12  e
/-! L_cut  -/
set_option maxRecDepth 100000 in
def f_L_cut (n : Nat) (v0 : Nat) (v1 : Int) (v2 : Nat) (h : gi_H) : Option (Int × gi_H) :=
  Option.bind (gi_is h v0 9) fun _ => Option.bind (f_X11_cut n v0 v1 h) fun q2 => gx_sm q2.1 (fun t3 => Option.bind (gi_rg t3) fun _ => Option.bind (gi_s2 q2.2 v2 (0 : Int) t3) fun h5 => some ((0 : Int), h5)) (fun t3 => if t3 = gx_IOB then (some ((1 : Int), q2.2)) else (none))
set_option maxRecDepth 100000 in
theorem z_L_cut {n : Nat} {v0 : Nat} {v1 : Int} {v2 : Nat} {h : gi_H} {res : Int} {h1 : gi_H} (e : f_L_cut n v0 v1 v2 h = some (res, h1)) : gx_Cw mL_cut false [.ref v0, .int (gI v1), .ref v2] (gi_cv h) (.inl (some (.int (gI res)))) (gi_cv h1) := by
  refine gx_enter (by decide +kernel) rfl (Nat.le_of_ble_eq_true rfl) ?_
  show gx_Z mL_cut false false 0 0 0 [(0, .ref v0), (1, .int (gI v1)), (2, .ref v2)] [] (gi_cv h) (.inl (some (.int (gI res)))) (gi_cv h1)
  refine gx_aload_n dL_cut_0 rfl 2 rfl ?_
  refine gy_iconst dL_cut_1 ?_
  refine gx_aload_n dL_cut_2 rfl 0 rfl ?_
  refine gx_iload_n dL_cut_3 rfl 1 rfl ?_
  refine gx_bE e (fun _ hu1 e => ?_)
  refine gx_bE e (fun q2 hq2 e => ?_)
  refine gx_smE e (fun t3 ht3 e => ?_) (fun t3 ht3 e => ?_)
  · have zq2 := z_X11_cut hq2
    rw [ht3] at zq2
    refine gx_callV (n := 1) (st := [.int (gI (0 : Int)), .ref v2]) (As := [.int (gI v1)]) (b := v0) dL_cut_4 zq2 rfl ⟨rfl, gw_cw_X11_cut, gw_1, gp_X11_cut, ⟨Nat.le_of_ble_eq_true rfl, Nat.le_of_ble_eq_true rfl⟩⟩ (gi_isS hu1) (by decide) gw_1220 gw_1221 gw_1222 rfl ⟨Nat.le_of_ble_eq_true rfl, Nat.le_of_ble_eq_true rfl⟩ (Nat.le_of_ble_eq_true rfl) (gy_k1 (x := .int (gI t3)) (kc2 := 1) (ks2 := 6) ⟨rfl, rfl⟩ ?_) gy_kn
    refine gx_bE e (fun _ g4 e => ?_)
    refine gy_i2l (gi_rgS g4) dL_cut_7 ?_
    refine gx_bE e (fun h5 hh5 e => ?_)
    refine gy_t2 hh5 dL_cut_8 ?_
    refine gx_goto (tgt := 15) dL_cut_9 (by decide) ?_
    refine gy_iconst dL_cut_15 ?_
    cases e
    exact gx_iret dL_cut_16 rfl ⟨Nat.le_of_ble_eq_true rfl, Nat.le_of_ble_eq_true rfl⟩ (fun z => z)
  · have zq2 := z_X11_cut hq2
    rw [ht3] at zq2
    refine gx_callV (n := 1) (st := [.int (gI (0 : Int)), .ref v2]) (As := [.int (gI v1)]) (b := v0) dL_cut_4 zq2 rfl ⟨rfl, gw_cw_X11_cut, gw_1, gp_X11_cut, ⟨Nat.le_of_ble_eq_true rfl, Nat.le_of_ble_eq_true rfl⟩⟩ (gi_isS hu1) (by decide) gw_1220 gw_1221 gw_1222 rfl ⟨Nat.le_of_ble_eq_true rfl, Nat.le_of_ble_eq_true rfl⟩ (Nat.le_of_ble_eq_true rfl) gy_kN (gy_kE (kc2 := 1) (ks2 := 6) ⟨rfl, rfl⟩ ?_)
    refine gx_iE e (fun c6 e => ?_) (fun c6 e => ?_)
    · rw [c6]
      refine gx_catch (ls2 := [(0, .ref v0), (1, .int (gI v1)), (2, .ref v2)]) [] (x := (0, 9, 12, 28)) rfl (fun z hz => by cases hz) (by decide +kernel) (by decide) gw_1028 (by decide +kernel) (Nat.le_of_ble_eq_true rfl) (Or.inl ⟨3, rfl, rfl, dL_cut_12⟩) rfl ?_
      refine gy_iconst dL_cut_13 ?_
      cases e
      exact gx_iret dL_cut_14 rfl ⟨Nat.le_of_ble_eq_true rfl, Nat.le_of_ble_eq_true rfl⟩ (fun z => z)
    cases e
/-! X12_cut  -/
set_option maxRecDepth 100000 in
def b_X12_cut_38 (n : Nat) (r38 : Nat → Int → Int → gi_H → Option (Int × gi_H)) (v0 : Nat) (v2 : Int) (v3 : Int)  (h : gi_H) : Option (Int × gi_H) :=
  Option.bind (gi_gI h v0 10 17) fun t11 => Option.bind (gi_rg v3) fun _ => Option.bind (gi_rg t11) fun _ => if t11 ≤ v3 then (some (v2, h)) else (Option.bind (gi_gR h v0 10 16) fun t15 => Option.bind (gi_gR h v0 10 16) fun t16 => Option.bind (gi_aI h 1 t16 (v3 + (1 : Int))) fun t17 => Option.bind (gi_s1 h t15 v3 t17) fun h18 => gx_nm (v3 + (1 : Int)) fun t19 => r38 v0 v2 t19 h18)
set_option maxRecDepth 100000 in
theorem zb_X12_cut_38 {al : Bool} {n : Nat} {r38 : Nat → Int → Int → gi_H → Option (Int × gi_H)} {res : Int} {h1 : gi_H} (hr38 : ∀ (x0 : Nat) (x2 : Int) (x3 : Int) (hh : gi_H), r38 x0 x2 x3 hh = some (res, h1) → gx_Z mX12_cut al al 0 0 38 [(0, .ref x0), (2, .int (gI x2)), (3, .int (gI x3))] [] (gi_cv hh) (.inl (some (.int (gI res)))) (gi_cv h1)) {v0 : Nat} {v2 : Int} {v3 : Int}  {h : gi_H} (e : b_X12_cut_38 n r38 v0 v2 v3 h = some (res, h1)) : gx_Z mX12_cut al al 0 0 38 [(0, .ref v0), (2, .int (gI v2)), (3, .int (gI v3))] [] (gi_cv h) (.inl (some (.int (gI res)))) (gi_cv h1) := by
  refine gx_iload_n dX12_cut_38 rfl 2 rfl ?_
  refine gx_aload_n dX12_cut_39 rfl 0 rfl ?_
  refine gx_bE e (fun t11 ht11 e => ?_)
  refine gy_fI ht11 dX12_cut_40 gf_RX12_299_10_17 (by decide) gkN_10_17 gkR_10_17 ?_
  refine gx_bE e (fun _ g12 e => ?_)
  refine gx_bE e (fun _ g13 e => ?_)
  refine gx_iE e (fun c14 e => ?_) (fun c14 e => ?_)
  · refine gy_icmp_ge (tgt := 66) (gi_rgS g12) (gi_rgS g13) dX12_cut_43 (by decide) (fun _ => ?_) (fun z => absurd c14 z)
    refine gx_iload_n dX12_cut_66 rfl 1 rfl ?_
    cases e
    exact gx_iret dX12_cut_67 rfl ⟨Nat.le_of_ble_eq_true rfl, Nat.le_of_ble_eq_true rfl⟩ (fun z => z)
  · refine gy_icmp_ge (tgt := 66) (gi_rgS g12) (gi_rgS g13) dX12_cut_43 (by decide) (fun z => absurd z c14) (fun _ => ?_)
    refine gx_aload_n dX12_cut_46 rfl 0 rfl ?_
    refine gx_bE e (fun t15 ht15 e => ?_)
    refine gy_fR ht15 dX12_cut_47 gf_RX12_49_10_16 (by decide) gkN_10_16 gkR_10_16 ?_
    refine gx_iload_n dX12_cut_50 rfl 2 rfl ?_
    refine gx_aload_n dX12_cut_51 rfl 0 rfl ?_
    refine gx_bE e (fun t16 ht16 e => ?_)
    refine gy_fR ht16 dX12_cut_52 gf_RX12_49_10_16 (by decide) gkN_10_16 gkR_10_16 ?_
    refine gx_iload_n dX12_cut_55 rfl 2 rfl ?_
    refine gy_iconst dX12_cut_56 ?_
    refine gy_iadd dX12_cut_57 ?_
    refine gx_bE e (fun t17 ht17 e => ?_)
    refine gy_l1 ht17 dX12_cut_58 ?_
    refine gx_bE e (fun h18 hh18 e => ?_)
    refine gy_t1 hh18 dX12_cut_59 ?_
    refine gx_nE e (fun t19 ht19 e => ?_)
    refine gy_iinc (v := t19) (ls2 := [(3, .int (gI t19)), (0, .ref v0), (2, .int (gI v2))]) dX12_cut_60 2 rfl ht19 (Nat.le_of_ble_eq_true rfl) rfl ?_
    refine gx_goto (tgt := 38) dX12_cut_63 (by decide) ?_
    refine gx_sub (ls2 := [(0, .ref v0), (2, .int (gI v2)), (3, .int (gI t19))]) [1, 2, 0] rfl ?_
    exact hr38 _ _ _ _ e
def l_X12_cut_38 (n : Nat)  : Nat → Nat → Int → Int → gi_H → Option (Int × gi_H)
  | 0, _, _, _, _ => none
  | k + 1, v0, v2, v3, h => b_X12_cut_38 n  (l_X12_cut_38 n  k) v0 v2 v3 h
theorem zl_X12_cut_38 {al : Bool} {n : Nat}  {res : Int} {h1 : gi_H}  : ∀ (k : Nat) (v0 : Nat) (v2 : Int) (v3 : Int) (h : gi_H), l_X12_cut_38 n  k v0 v2 v3 h = some (res, h1) → gx_Z mX12_cut al al 0 0 38 [(0, .ref v0), (2, .int (gI v2)), (3, .int (gI v3))] [] (gi_cv h) (.inl (some (.int (gI res)))) (gi_cv h1)
  | 0, _, _, _, _, e => gx_0E e
  | k + 1, _, _, _, _, e => zb_X12_cut_38 (n := n)  (zl_X12_cut_38  k) e
set_option maxRecDepth 100000 in
def f_X12_cut (n : Nat) (v0 : Nat) (v1 : Int) (h : gi_H) : Option (Int × gi_H) :=
  Option.bind (gi_gI h v0 10 17) fun t1 => Option.bind (f_X12_isBelow v1 t1 h) fun q2 => Option.bind (gi_is h v0 10) fun _ => Option.bind (f_X12_goes v0 q2 (1 : Int) (1 : Int) h) fun q4 => Option.bind (gi_rg q4.1) fun _ => if q4.1 = 0 then (some ((0 : Int), q4.2)) else (Option.bind (gi_gR q4.2 v0 10 16) fun t7 => Option.bind (gi_aI q4.2 1 t7 v1) fun t8 => Option.bind (gi_gI q4.2 v0 10 17) fun t9 => Option.bind (gi_pI q4.2 v0 10 17 (t9 - (1 : Int))) fun h10 => l_X12_cut_38 n  n v0 t8 v1 h10)
set_option maxRecDepth 100000 in
theorem z_X12_cut {al : Bool} {n : Nat} {v0 : Nat} {v1 : Int} {h : gi_H} {res : Int} {h1 : gi_H} (e : f_X12_cut n v0 v1 h = some (res, h1)) : gx_Cw mX12_cut al [.ref v0, .int (gI v1)] (gi_cv h) (.inl (some (.int (gI res)))) (gi_cv h1) := by
  refine gx_enter (by decide +kernel) rfl (Nat.le_of_ble_eq_true rfl) ?_
  show gx_Z mX12_cut al al 0 0 0 [(0, .ref v0), (1, .int (gI v1))] [] (gi_cv h) (.inl (some (.int (gI res)))) (gi_cv h1)
  refine gx_aload_n dX12_cut_0 rfl 0 rfl ?_
  refine gx_iload_n dX12_cut_1 rfl 1 rfl ?_
  refine gx_aload_n dX12_cut_2 rfl 0 rfl ?_
  refine gx_bE e (fun t1 ht1 e => ?_)
  refine gy_fI ht1 dX12_cut_3 gf_RX12_299_10_17 (by decide) gkN_10_17 gkR_10_17 ?_
  refine gx_bE e (fun q2 hq2 e => ?_)
  refine gx_callS (n := 2) (st := [.ref v0]) (As := [.int (gI v1), .int (gI t1)]) dX12_cut_6 (z_X12_isBelow hq2) rfl ⟨rfl, gw_cw_X12_isBelow, gw_14, gp_X12_isBelow, ⟨Nat.le_of_ble_eq_true rfl, Nat.le_of_ble_eq_true rfl⟩⟩ gw_1540 gw_1541 ⟨Nat.le_of_ble_eq_true rfl, Nat.le_of_ble_eq_true rfl⟩ (Nat.le_of_ble_eq_true rfl) (gy_k1 (x := .int (gI q2)) (kc2 := 0) (ks2 := 0) ⟨rfl, rfl⟩ ?_) gy_kn
  refine gy_iconst dX12_cut_9 ?_
  refine gy_iconst dX12_cut_10 ?_
  refine gx_bE e (fun _ hu3 e => ?_)
  refine gx_bE e (fun q4 hq4 e => ?_)
  refine gx_callV (n := 3) (st := []) (As := [.int (gI q2), .int (gI (1 : Int)), .int (gI (1 : Int))]) (b := v0) dX12_cut_11 (z_X12_goes hq4) rfl ⟨rfl, gw_cw_X12_goes, gw_14, gp_X12_goes, ⟨Nat.le_of_ble_eq_true rfl, Nat.le_of_ble_eq_true rfl⟩⟩ (gi_isS hu3) (by decide) gw_1480 gw_1482 gs_58 rfl ⟨Nat.le_of_ble_eq_true rfl, Nat.le_of_ble_eq_true rfl⟩ (Nat.le_of_ble_eq_true rfl) (gy_k1 (x := .int (gI q4.1)) (kc2 := 0) (ks2 := 0) ⟨rfl, rfl⟩ ?_) gy_kn
  refine gx_bE e (fun _ g5 e => ?_)
  refine gx_iE e (fun c6 e => ?_) (fun c6 e => ?_)
  · refine gy_if_ne (tgt := 19) (gi_rgS g5) dX12_cut_14 (by decide) (fun z => absurd c6 z) (fun _ => ?_)
    refine gy_iconst dX12_cut_17 ?_
    cases e
    exact gx_iret dX12_cut_18 rfl ⟨Nat.le_of_ble_eq_true rfl, Nat.le_of_ble_eq_true rfl⟩ (fun z => z)
  · refine gy_if_ne (tgt := 19) (gi_rgS g5) dX12_cut_14 (by decide) (fun _ => ?_) (fun z => absurd z c6)
    refine gx_aload_n dX12_cut_19 rfl 0 rfl ?_
    refine gx_bE e (fun t7 ht7 e => ?_)
    refine gy_fR ht7 dX12_cut_20 gf_RX12_49_10_16 (by decide) gkN_10_16 gkR_10_16 ?_
    refine gx_iload_n dX12_cut_23 rfl 1 rfl ?_
    refine gx_bE e (fun t8 ht8 e => ?_)
    refine gy_l1 ht8 dX12_cut_24 ?_
    refine gx_istore_n (ls2 := [(2, .int (gI t8)), (0, .ref v0), (1, .int (gI v1))]) dX12_cut_25 rfl (Nat.le_of_ble_eq_true rfl) rfl ?_
    refine gx_aload_n dX12_cut_26 rfl 1 rfl ?_
    refine gx_dup dX12_cut_27 rfl ?_
    refine gx_bE e (fun t9 ht9 e => ?_)
    refine gy_fI ht9 dX12_cut_28 gf_RX12_299_10_17 (by decide) gkN_10_17 gkR_10_17 ?_
    refine gy_iconst dX12_cut_31 ?_
    refine gy_isub dX12_cut_32 ?_
    refine gx_bE e (fun h10 hh10 e => ?_)
    refine gy_qI hh10 dX12_cut_33 gf_RX12_299_10_17 (by decide) gkN_10_17 rfl (Or.inl rfl) ?_
    refine gx_iload_n dX12_cut_36 rfl 2 rfl ?_
    refine gx_istore_n (ls2 := [(3, .int (gI v1)), (2, .int (gI t8)), (0, .ref v0), (1, .int (gI v1))]) dX12_cut_37 rfl (Nat.le_of_ble_eq_true rfl) rfl ?_
    refine gx_sub (ls2 := [(0, .ref v0), (2, .int (gI t8)), (3, .int (gI v1))]) [2, 1, 0] rfl ?_
    exact zl_X12_cut_38  n _ _ _ _ e
/-! X5_push  -/
set_option maxRecDepth 100000 in
def f_X5_push (v0 : Nat) (v1 : Int) (h : gi_H) : Option (gi_H) :=
  Option.bind (gi_gI h v0 4 4) fun t1 => Option.bind (gi_rg t1) fun _ => if t1 < 0 then (some h) else (Option.bind (gi_gI h v0 4 4) fun t4 => Option.bind (gi_gR h v0 4 3) fun t5 => Option.bind (gi_ln h t5) fun t6 => Option.bind (gi_rg t4) fun _ => Option.bind (gi_rg t6) fun _ => if t6 ≤ t4 then (some h) else (Option.bind (gi_gR h v0 4 3) fun t10 => Option.bind (gi_gI h v0 4 4) fun t11 => Option.bind (gi_s1 h t10 t11 v1) fun h12 => Option.bind (gi_gI h12 v0 4 4) fun t13 => Option.bind (gi_pI h12 v0 4 4 (t13 + (1 : Int))) fun h14 => some h14))
set_option maxRecDepth 100000 in
theorem z_X5_push {al : Bool} {v0 : Nat} {v1 : Int} {h : gi_H} {h1 : gi_H} (e : f_X5_push v0 v1 h = some h1) : gx_Cw mX5_push al [.ref v0, .int (gI v1)] (gi_cv h) (.inl none) (gi_cv h1) := by
  refine gx_enter (by decide +kernel) rfl (Nat.le_of_ble_eq_true rfl) ?_
  show gx_Z mX5_push al al 0 0 0 [(0, .ref v0), (1, .int (gI v1))] [] (gi_cv h) (.inl none) (gi_cv h1)
  refine gx_aload_n dX5_push_0 rfl 0 rfl ?_
  refine gx_bE e (fun t1 ht1 e => ?_)
  refine gy_fI ht1 dX5_push_1 gf_RX5_29_4_4 (by decide) gkN_4_4 gkR_4_4 ?_
  refine gx_bE e (fun _ g2 e => ?_)
  refine gx_iE e (fun c3 e => ?_) (fun c3 e => ?_)
  · refine gy_if_lt (tgt := 39) (gi_rgS g2) dX5_push_4 (by decide) (fun _ => ?_) (fun z => absurd c3 z)
    cases e
    exact gx_vret dX5_push_39 rfl ⟨Nat.le_of_ble_eq_true rfl, Nat.le_of_ble_eq_true rfl⟩ (fun z => z)
  · refine gy_if_lt (tgt := 39) (gi_rgS g2) dX5_push_4 (by decide) (fun z => absurd z c3) (fun _ => ?_)
    refine gx_aload_n dX5_push_7 rfl 0 rfl ?_
    refine gx_bE e (fun t4 ht4 e => ?_)
    refine gy_fI ht4 dX5_push_8 gf_RX5_29_4_4 (by decide) gkN_4_4 gkR_4_4 ?_
    refine gx_aload_n dX5_push_11 rfl 0 rfl ?_
    refine gx_bE e (fun t5 ht5 e => ?_)
    refine gy_fR ht5 dX5_push_12 gf_RX5_9_4_3 (by decide) gkN_4_3 gkR_4_3 ?_
    refine gx_bE e (fun t6 ht6 e => ?_)
    refine gy_al0 ht6 dX5_push_15 ?_
    refine gx_bE e (fun _ g7 e => ?_)
    refine gx_bE e (fun _ g8 e => ?_)
    refine gx_iE e (fun c9 e => ?_) (fun c9 e => ?_)
    · refine gy_icmp_ge (tgt := 39) (gi_rgS g7) (gi_rgS g8) dX5_push_16 (by decide) (fun _ => ?_) (fun z => absurd c9 z)
      cases e
      exact gx_vret dX5_push_39 rfl ⟨Nat.le_of_ble_eq_true rfl, Nat.le_of_ble_eq_true rfl⟩ (fun z => z)
    · refine gy_icmp_ge (tgt := 39) (gi_rgS g7) (gi_rgS g8) dX5_push_16 (by decide) (fun z => absurd z c9) (fun _ => ?_)
      refine gx_aload_n dX5_push_19 rfl 0 rfl ?_
      refine gx_bE e (fun t10 ht10 e => ?_)
      refine gy_fR ht10 dX5_push_20 gf_RX5_9_4_3 (by decide) gkN_4_3 gkR_4_3 ?_
      refine gx_aload_n dX5_push_23 rfl 0 rfl ?_
      refine gx_bE e (fun t11 ht11 e => ?_)
      refine gy_fI ht11 dX5_push_24 gf_RX5_29_4_4 (by decide) gkN_4_4 gkR_4_4 ?_
      refine gx_iload_n dX5_push_27 rfl 1 rfl ?_
      refine gx_bE e (fun h12 hh12 e => ?_)
      refine gy_t1 hh12 dX5_push_28 ?_
      refine gx_aload_n dX5_push_29 rfl 0 rfl ?_
      refine gx_dup dX5_push_30 rfl ?_
      refine gx_bE e (fun t13 ht13 e => ?_)
      refine gy_fI ht13 dX5_push_31 gf_RX5_29_4_4 (by decide) gkN_4_4 gkR_4_4 ?_
      refine gy_iconst dX5_push_34 ?_
      refine gy_iadd dX5_push_35 ?_
      refine gx_bE e (fun h14 hh14 e => ?_)
      refine gy_qI hh14 dX5_push_36 gf_RX5_29_4_4 (by decide) gkN_4_4 rfl (Or.inl rfl) ?_
      cases e
      exact gx_vret dX5_push_39 rfl ⟨Nat.le_of_ble_eq_true rfl, Nat.le_of_ble_eq_true rfl⟩ (fun z => z)
/-! X11_lookAt  -/
set_option maxRecDepth 100000 in
def b_X11_lookAt_16    (h : gi_H) : Option (Int) :=
  some (8 : Int)
set_option maxRecDepth 100000 in
theorem zb_X11_lookAt_16 {al : Bool}  {res : Int}    {h : gi_H} (e : b_X11_lookAt_16  h = some res) : gx_Z mX11_lookAt al al 0 0 16 [] [] (gi_cv h) (.inl (some (.int (gI res)))) (gi_cv h) := by
  refine gy_bipush dX11_lookAt_16 gcb_8 ?_
  cases e
  exact gx_iret dX11_lookAt_18 rfl ⟨Nat.le_of_ble_eq_true rfl, Nat.le_of_ble_eq_true rfl⟩ (fun z => z)
set_option maxRecDepth 100000 in
def f_X11_lookAt (v0 : Nat) (v1 : Int) (h : gi_H) : Option (Int) :=
  Option.bind (gi_rg v1) fun _ => if v1 < 0 then (b_X11_lookAt_16   h) else (Option.bind (gi_ln h v0) fun t3 => Option.bind (gi_rg t3) fun _ => if t3 ≤ v1 then (b_X11_lookAt_16   h) else (Option.bind (gi_aI h 1 v0 v1) fun t6 => some t6))
set_option maxRecDepth 100000 in
theorem z_X11_lookAt {al : Bool} {v0 : Nat} {v1 : Int} {h : gi_H} {res : Int} (e : f_X11_lookAt v0 v1 h = some res) : gx_Cw mX11_lookAt al [.ref v0, .int (gI v1)] (gi_cv h) (.inl (some (.int (gI res)))) (gi_cv h) := by
  refine gx_enter (by decide +kernel) rfl (Nat.le_of_ble_eq_true rfl) ?_
  show gx_Z mX11_lookAt al al 0 0 0 [(0, .ref v0), (1, .int (gI v1))] [] (gi_cv h) (.inl (some (.int (gI res)))) (gi_cv h)
  refine gx_iload_n dX11_lookAt_0 rfl 1 rfl ?_
  refine gx_bE e (fun _ g1 e => ?_)
  refine gx_iE e (fun c2 e => ?_) (fun c2 e => ?_)
  · refine gy_if_lt (tgt := 16) (gi_rgS g1) dX11_lookAt_1 (by decide) (fun _ => ?_) (fun z => absurd c2 z)
    refine gx_sub (ls2 := []) [] rfl ?_
    exact zb_X11_lookAt_16  e
  · refine gy_if_lt (tgt := 16) (gi_rgS g1) dX11_lookAt_1 (by decide) (fun z => absurd z c2) (fun _ => ?_)
    refine gx_iload_n dX11_lookAt_4 rfl 1 rfl ?_
    refine gx_aload_n dX11_lookAt_5 rfl 0 rfl ?_
    refine gx_bE e (fun t3 ht3 e => ?_)
    refine gy_al0 ht3 dX11_lookAt_6 ?_
    refine gx_bE e (fun _ g4 e => ?_)
    refine gx_iE e (fun c5 e => ?_) (fun c5 e => ?_)
    · refine gy_icmp_ge (tgt := 16) (gi_rgS g1) (gi_rgS g4) dX11_lookAt_7 (by decide) (fun _ => ?_) (fun z => absurd c5 z)
      refine gx_sub (ls2 := []) [] rfl ?_
      exact zb_X11_lookAt_16  e
    · refine gy_icmp_ge (tgt := 16) (gi_rgS g1) (gi_rgS g4) dX11_lookAt_7 (by decide) (fun z => absurd z c5) (fun _ => ?_)
      refine gx_aload_n dX11_lookAt_10 rfl 0 rfl ?_
      refine gx_iload_n dX11_lookAt_11 rfl 1 rfl ?_
      refine gx_bE e (fun t6 ht6 e => ?_)
      refine gy_l1 ht6 dX11_lookAt_12 ?_
      refine gx_goto (tgt := 18) dX11_lookAt_13 (by decide) ?_
      cases e
      exact gx_iret dX11_lookAt_18 rfl ⟨Nat.le_of_ble_eq_true rfl, Nat.le_of_ble_eq_true rfl⟩ (fun z => z)
/-! X5_next  -/
set_option maxRecDepth 100000 in
def b_X5_next_33    (h : gi_H) : Option (Int) :=
  some (-1 : Int)
set_option maxRecDepth 100000 in
theorem zb_X5_next_33 {al : Bool}  {res : Int}    {h : gi_H} (e : b_X5_next_33  h = some res) : gx_Z mX5_next al al 0 0 33 [] [] (gi_cv h) (.inl (some (.int (gI res)))) (gi_cv h) := by
  refine gy_iconst dX5_next_33 ?_
  cases e
  exact gx_iret dX5_next_34 rfl ⟨Nat.le_of_ble_eq_true rfl, Nat.le_of_ble_eq_true rfl⟩ (fun z => z)
set_option maxRecDepth 100000 in
def f_X5_next (v0 : Nat) (h : gi_H) : Option (Int) :=
  Option.bind (gi_gI h v0 4 4) fun t1 => Option.bind (gi_rg t1) fun _ => if t1 ≤ 0 then (b_X5_next_33   h) else (Option.bind (gi_gI h v0 4 4) fun t4 => Option.bind (gi_gR h v0 4 3) fun t5 => Option.bind (gi_ln h t5) fun t6 => Option.bind (gi_rg t4) fun _ => Option.bind (gi_rg t6) fun _ => if t6 < t4 then (b_X5_next_33   h) else (Option.bind (gi_gR h v0 4 3) fun t10 => Option.bind (gi_gI h v0 4 4) fun t11 => Option.bind (gi_aI h 1 t10 (t11 - (1 : Int))) fun t12 => some t12))
set_option maxRecDepth 100000 in
theorem z_X5_next {al : Bool} {v0 : Nat} {h : gi_H} {res : Int} (e : f_X5_next v0 h = some res) : gx_Cw mX5_next al [.ref v0] (gi_cv h) (.inl (some (.int (gI res)))) (gi_cv h) := by
  refine gx_enter (by decide +kernel) rfl (Nat.le_of_ble_eq_true rfl) ?_
  show gx_Z mX5_next al al 0 0 0 [(0, .ref v0)] [] (gi_cv h) (.inl (some (.int (gI res)))) (gi_cv h)
  refine gx_aload_n dX5_next_0 rfl 0 rfl ?_
  refine gx_bE e (fun t1 ht1 e => ?_)
  refine gy_fI ht1 dX5_next_1 gf_RX5_29_4_4 (by decide) gkN_4_4 gkR_4_4 ?_
  refine gx_bE e (fun _ g2 e => ?_)
  refine gx_iE e (fun c3 e => ?_) (fun c3 e => ?_)
  · refine gy_if_le (tgt := 33) (gi_rgS g2) dX5_next_4 (by decide) (fun _ => ?_) (fun z => absurd c3 z)
    refine gx_sub (ls2 := []) [] rfl ?_
    exact zb_X5_next_33  e
  · refine gy_if_le (tgt := 33) (gi_rgS g2) dX5_next_4 (by decide) (fun z => absurd z c3) (fun _ => ?_)
    refine gx_aload_n dX5_next_7 rfl 0 rfl ?_
    refine gx_bE e (fun t4 ht4 e => ?_)
    refine gy_fI ht4 dX5_next_8 gf_RX5_29_4_4 (by decide) gkN_4_4 gkR_4_4 ?_
    refine gx_aload_n dX5_next_11 rfl 0 rfl ?_
    refine gx_bE e (fun t5 ht5 e => ?_)
    refine gy_fR ht5 dX5_next_12 gf_RX5_9_4_3 (by decide) gkN_4_3 gkR_4_3 ?_
    refine gx_bE e (fun t6 ht6 e => ?_)
    refine gy_al0 ht6 dX5_next_15 ?_
    refine gx_bE e (fun _ g7 e => ?_)
    refine gx_bE e (fun _ g8 e => ?_)
    refine gx_iE e (fun c9 e => ?_) (fun c9 e => ?_)
    · refine gy_icmp_gt (tgt := 33) (gi_rgS g7) (gi_rgS g8) dX5_next_16 (by decide) (fun _ => ?_) (fun z => absurd c9 z)
      refine gx_sub (ls2 := []) [] rfl ?_
      exact zb_X5_next_33  e
    · refine gy_icmp_gt (tgt := 33) (gi_rgS g7) (gi_rgS g8) dX5_next_16 (by decide) (fun z => absurd z c9) (fun _ => ?_)
      refine gx_aload_n dX5_next_19 rfl 0 rfl ?_
      refine gx_bE e (fun t10 ht10 e => ?_)
      refine gy_fR ht10 dX5_next_20 gf_RX5_9_4_3 (by decide) gkN_4_3 gkR_4_3 ?_
      refine gx_aload_n dX5_next_23 rfl 0 rfl ?_
      refine gx_bE e (fun t11 ht11 e => ?_)
      refine gy_fI ht11 dX5_next_24 gf_RX5_29_4_4 (by decide) gkN_4_4 gkR_4_4 ?_
      refine gy_iconst dX5_next_27 ?_
      refine gy_isub dX5_next_28 ?_
      refine gx_bE e (fun t12 ht12 e => ?_)
      refine gy_l1 ht12 dX5_next_29 ?_
      refine gx_goto (tgt := 34) dX5_next_30 (by decide) ?_
      cases e
      exact gx_iret dX5_next_34 rfl ⟨Nat.le_of_ble_eq_true rfl, Nat.le_of_ble_eq_true rfl⟩ (fun z => z)
/-! X5_pop  -/
set_option maxRecDepth 100000 in
def f_X5_pop (v0 : Nat) (h : gi_H) : Option (Int × gi_H) :=
  Option.bind (gi_is h v0 4) fun _ => Option.bind (f_X5_next v0 h) fun q2 => Option.bind (gi_gI h v0 4 4) fun t3 => Option.bind (gi_rg t3) fun _ => if t3 ≤ 0 then (some (q2, h)) else (Option.bind (gi_gI h v0 4 4) fun t6 => Option.bind (gi_pI h v0 4 4 (t6 - (1 : Int))) fun h7 => some (q2, h7))
set_option maxRecDepth 100000 in
theorem z_X5_pop {al : Bool} {v0 : Nat} {h : gi_H} {res : Int} {h1 : gi_H} (e : f_X5_pop v0 h = some (res, h1)) : gx_Cw mX5_pop al [.ref v0] (gi_cv h) (.inl (some (.int (gI res)))) (gi_cv h1) := by
  refine gx_enter (by decide +kernel) rfl (Nat.le_of_ble_eq_true rfl) ?_
  show gx_Z mX5_pop al al 0 0 0 [(0, .ref v0)] [] (gi_cv h) (.inl (some (.int (gI res)))) (gi_cv h1)
  refine gx_aload_n dX5_pop_0 rfl 0 rfl ?_
  refine gx_bE e (fun _ hu1 e => ?_)
  refine gx_bE e (fun q2 hq2 e => ?_)
  refine gx_callV (n := 0) (st := []) (As := []) (b := v0) dX5_pop_1 (z_X5_next hq2) rfl ⟨rfl, gw_cw_X5_next, gw_9, gp_X5_next, ⟨Nat.le_of_ble_eq_true rfl, Nat.le_of_ble_eq_true rfl⟩⟩ (gi_isS hu1) (by decide) gw_1257 gw_1259 gs_49 rfl ⟨Nat.le_of_ble_eq_true rfl, Nat.le_of_ble_eq_true rfl⟩ (Nat.le_of_ble_eq_true rfl) (gy_k1 (x := .int (gI q2)) (kc2 := 0) (ks2 := 0) ⟨rfl, rfl⟩ ?_) gy_kn
  refine gx_istore_n (ls2 := [(1, .int (gI q2)), (0, .ref v0)]) dX5_pop_4 rfl (Nat.le_of_ble_eq_true rfl) rfl ?_
  refine gx_aload_n dX5_pop_5 rfl 1 rfl ?_
  refine gx_bE e (fun t3 ht3 e => ?_)
  refine gy_fI ht3 dX5_pop_6 gf_RX5_29_4_4 (by decide) gkN_4_4 gkR_4_4 ?_
  refine gx_bE e (fun _ g4 e => ?_)
  refine gx_iE e (fun c5 e => ?_) (fun c5 e => ?_)
  · refine gy_if_le (tgt := 22) (gi_rgS g4) dX5_pop_9 (by decide) (fun _ => ?_) (fun z => absurd c5 z)
    refine gx_iload_n dX5_pop_22 rfl 0 rfl ?_
    cases e
    exact gx_iret dX5_pop_23 rfl ⟨Nat.le_of_ble_eq_true rfl, Nat.le_of_ble_eq_true rfl⟩ (fun z => z)
  · refine gy_if_le (tgt := 22) (gi_rgS g4) dX5_pop_9 (by decide) (fun z => absurd z c5) (fun _ => ?_)
    refine gx_aload_n dX5_pop_12 rfl 1 rfl ?_
    refine gx_dup dX5_pop_13 rfl ?_
    refine gx_bE e (fun t6 ht6 e => ?_)
    refine gy_fI ht6 dX5_pop_14 gf_RX5_29_4_4 (by decide) gkN_4_4 gkR_4_4 ?_
    refine gy_iconst dX5_pop_17 ?_
    refine gy_isub dX5_pop_18 ?_
    refine gx_bE e (fun h7 hh7 e => ?_)
    refine gy_qI hh7 dX5_pop_19 gf_RX5_29_4_4 (by decide) gkN_4_4 rfl (Or.inl rfl) ?_
    refine gx_iload_n dX5_pop_22 rfl 0 rfl ?_
    cases e
    exact gx_iret dX5_pop_23 rfl ⟨Nat.le_of_ble_eq_true rfl, Nat.le_of_ble_eq_true rfl⟩ (fun z => z)
/-! X5_worthOfTree  -/
set_option maxRecDepth 100000 in
def b_X5_worthOfTree_121 (n : Nat)  (v0 : Nat)  (h : gi_H) : Option (Int × gi_H) :=
  Option.bind (gi_is h v0 4) fun _ => Option.bind (f_X5_pop v0 h) fun q11 => some (q11.1, q11.2)
set_option maxRecDepth 100000 in
theorem zb_X5_worthOfTree_121 {al : Bool} {n : Nat}  {res : Int} {h1 : gi_H}  {v0 : Nat}  {h : gi_H} (e : b_X5_worthOfTree_121 n v0 h = some (res, h1)) : gx_Z mX5_worthOfTree al al 0 0 121 [(0, .ref v0)] [] (gi_cv h) (.inl (some (.int (gI res)))) (gi_cv h1) := by
  refine gx_aload_n dX5_worthOfTree_121 rfl 0 rfl ?_
  refine gx_bE e (fun _ hu10 e => ?_)
  refine gx_bE e (fun q11 hq11 e => ?_)
  refine gx_callV (n := 0) (st := []) (As := []) (b := v0) dX5_worthOfTree_122 (z_X5_pop hq11) rfl ⟨rfl, gw_cw_X5_pop, gw_9, gp_X5_pop, ⟨Nat.le_of_ble_eq_true rfl, Nat.le_of_ble_eq_true rfl⟩⟩ (gi_isS hu10) (by decide) gw_1253 gw_1255 gs_48 rfl ⟨Nat.le_of_ble_eq_true rfl, Nat.le_of_ble_eq_true rfl⟩ (Nat.le_of_ble_eq_true rfl) (gy_k1 (x := .int (gI q11.1)) (kc2 := 0) (ks2 := 0) ⟨rfl, rfl⟩ ?_) gy_kn
  cases e
  exact gx_iret dX5_worthOfTree_125 rfl ⟨Nat.le_of_ble_eq_true rfl, Nat.le_of_ble_eq_true rfl⟩ (fun z => z)
set_option maxRecDepth 100000 in
def b_X5_worthOfTree_106 (n : Nat) (r20 : Nat → Int → gi_H → Option (Int × gi_H)) (v0 : Nat) (v1 : Int) (v3 : Int)  (h : gi_H) : Option (Int × gi_H) :=
  Option.bind (gi_dg v3 (1009 : Int)) fun _ => Option.bind (gi_is h v0 4) fun _ => Option.bind (f_X5_push v0 (v3 % (1009 : Int)) h) fun q25 => gx_nm (v1 + (-1 : Int)) fun t26 => r20 v0 t26 q25
set_option maxRecDepth 100000 in
theorem zb_X5_worthOfTree_106 {al : Bool} {n : Nat} {r20 : Nat → Int → gi_H → Option (Int × gi_H)} {res : Int} {h1 : gi_H} (hr20 : ∀ (x0 : Nat) (x1 : Int) (hh : gi_H), r20 x0 x1 hh = some (res, h1) → gx_Z mX5_worthOfTree al al 0 0 20 [(0, .ref x0), (1, .int (gI x1))] [] (gi_cv hh) (.inl (some (.int (gI res)))) (gi_cv h1)) {v0 : Nat} {v1 : Int} {v3 : Int}  {h : gi_H} (e : b_X5_worthOfTree_106 n r20 v0 v1 v3 h = some (res, h1)) : gx_Z mX5_worthOfTree al al 0 0 106 [(0, .ref v0), (1, .int (gI v1)), (3, .int (gI v3))] [] (gi_cv h) (.inl (some (.int (gI res)))) (gi_cv h1) := by
  refine gx_aload_n dX5_worthOfTree_106 rfl 0 rfl ?_
  refine gx_iload_n dX5_worthOfTree_107 rfl 2 rfl ?_
  refine gy_sipush dX5_worthOfTree_108 gcs_1009 ?_
  refine gx_bE e (fun _ hu23 e => ?_)
  refine gy_irem hu23 dX5_worthOfTree_111 ?_
  refine gx_bE e (fun _ hu24 e => ?_)
  refine gx_bE e (fun q25 hq25 e => ?_)
  refine gx_callV (n := 1) (st := []) (As := [.int (gI (v3 % (1009 : Int)))]) (b := v0) dX5_worthOfTree_112 (z_X5_push hq25) rfl ⟨rfl, gw_cw_X5_push, gw_9, gp_X5_push, ⟨Nat.le_of_ble_eq_true rfl, Nat.le_of_ble_eq_true rfl⟩⟩ (gi_isS hu24) (by decide) gw_1238 gw_1240 gs_46 rfl ⟨Nat.le_of_ble_eq_true rfl, Nat.le_of_ble_eq_true rfl⟩ (Nat.le_of_ble_eq_true rfl) (gy_k0 (kc2 := 0) (ks2 := 0) ⟨rfl, rfl⟩ ?_) gy_kn
  refine gx_nE e (fun t26 ht26 e => ?_)
  refine gy_iinc (v := t26) (ls2 := [(1, .int (gI t26)), (0, .ref v0), (3, .int (gI v3))]) dX5_worthOfTree_115 1 rfl ht26 (Nat.le_of_ble_eq_true rfl) rfl ?_
  refine gx_goto (tgt := 20) dX5_worthOfTree_118 (by decide) ?_
  refine gx_sub (ls2 := [(0, .ref v0), (1, .int (gI t26))]) [1, 0] rfl ?_
  exact hr20 _ _ _ e
set_option maxRecDepth 100000 in
def b_X5_worthOfTree_88 (n : Nat) (r20 : Nat → Int → gi_H → Option (Int × gi_H)) (r38 : Nat → Int → Int → Int → Int → gi_H → Option (Int × gi_H)) (v0 : Nat) (v1 : Int) (v2 : Int) (v3 : Int) (v4 : Int) (s0 : Int) (h : gi_H) : Option (Int × gi_H) :=
  gx_nm (v3 + ((v4 + (1 : Int)) * s0)) fun t37 => gx_nm (v4 + (1 : Int)) fun t38 => r38 v0 v1 v2 t37 t38 h
set_option maxRecDepth 100000 in
theorem zb_X5_worthOfTree_88 {al : Bool} {n : Nat} {r20 : Nat → Int → gi_H → Option (Int × gi_H)} {r38 : Nat → Int → Int → Int → Int → gi_H → Option (Int × gi_H)} {res : Int} {h1 : gi_H} (hr20 : ∀ (x0 : Nat) (x1 : Int) (hh : gi_H), r20 x0 x1 hh = some (res, h1) → gx_Z mX5_worthOfTree al al 0 0 20 [(0, .ref x0), (1, .int (gI x1))] [] (gi_cv hh) (.inl (some (.int (gI res)))) (gi_cv h1)) (hr38 : ∀ (x0 : Nat) (x1 : Int) (x2 : Int) (x3 : Int) (x4 : Int) (hh : gi_H), r38 x0 x1 x2 x3 x4 hh = some (res, h1) → gx_Z mX5_worthOfTree al al 0 0 38 [(0, .ref x0), (1, .int (gI x1)), (2, .int (gI x2)), (3, .int (gI x3)), (4, .int (gI x4))] [] (gi_cv hh) (.inl (some (.int (gI res)))) (gi_cv h1)) {v0 : Nat} {v1 : Int} {v2 : Int} {v3 : Int} {v4 : Int} {s0 : Int} {h : gi_H} (e : b_X5_worthOfTree_88 n r20 r38 v0 v1 v2 v3 v4 s0 h = some (res, h1)) : gx_Z mX5_worthOfTree al al 0 0 88 [(0, .ref v0), (1, .int (gI v1)), (2, .int (gI v2)), (3, .int (gI v3)), (4, .int (gI v4))] [.int (gI s0)] (gi_cv h) (.inl (some (.int (gI res)))) (gi_cv h1) := by
  refine gx_istore (ls2 := [(6, .int (gI s0)), (0, .ref v0), (1, .int (gI v1)), (2, .int (gI v2)), (3, .int (gI v3)), (4, .int (gI v4))]) dX5_worthOfTree_88 (Nat.le_of_ble_eq_true rfl) rfl ?_
  refine gx_iload_n dX5_worthOfTree_90 rfl 4 rfl ?_
  refine gx_iload dX5_worthOfTree_91 5 rfl ?_
  refine gy_iconst dX5_worthOfTree_93 ?_
  refine gy_iadd dX5_worthOfTree_94 ?_
  refine gx_iload dX5_worthOfTree_95 0 rfl ?_
  refine gy_imul dX5_worthOfTree_97 ?_
  refine gy_iadd dX5_worthOfTree_98 ?_
  refine gx_nE e (fun t37 ht37 e => ?_)
  rw [ht37]
  refine gx_istore_n (ls2 := [(3, .int (gI t37)), (6, .int (gI s0)), (0, .ref v0), (1, .int (gI v1)), (2, .int (gI v2)), (4, .int (gI v4))]) dX5_worthOfTree_99 rfl (Nat.le_of_ble_eq_true rfl) rfl ?_
  refine gx_nE e (fun t38 ht38 e => ?_)
  refine gy_iinc (v := t38) (ls2 := [(4, .int (gI t38)), (3, .int (gI t37)), (6, .int (gI s0)), (0, .ref v0), (1, .int (gI v1)), (2, .int (gI v2))]) dX5_worthOfTree_100 5 rfl ht38 (Nat.le_of_ble_eq_true rfl) rfl ?_
  refine gx_goto (tgt := 38) dX5_worthOfTree_103 (by decide) ?_
  refine gx_sub (ls2 := [(0, .ref v0), (1, .int (gI v1)), (2, .int (gI v2)), (3, .int (gI t37)), (4, .int (gI t38))]) [3, 4, 5, 1, 0] rfl ?_
  exact hr38 _ _ _ _ _ _ e
set_option maxRecDepth 100000 in
def b_X5_worthOfTree_38 (n : Nat) (r20 : Nat → Int → gi_H → Option (Int × gi_H)) (r38 : Nat → Int → Int → Int → Int → gi_H → Option (Int × gi_H)) (v0 : Nat) (v1 : Int) (v2 : Int) (v3 : Int) (v4 : Int)  (h : gi_H) : Option (Int × gi_H) :=
  Option.bind (gi_gR h v0 4 1) fun t15 => Option.bind (gi_is h t15 2) fun _ => Option.bind (f_X3_grammar t15 h) fun q17 => Option.bind (gi_is h q17 3) fun _ => Option.bind (f_X4_length q17 v2 h) fun q19 => Option.bind (gi_rg v4) fun _ => Option.bind (gi_rg q19) fun _ => if q19 ≤ v4 then (b_X5_worthOfTree_106 n r20 v0 v1 v3 h) else (Option.bind (gi_gR h v0 4 1) fun t27 => Option.bind (gi_is h t27 2) fun _ => Option.bind (f_X3_grammar t27 h) fun q29 => Option.bind (gi_is h q29 3) fun _ => Option.bind (f_X4_symbol q29 v2 v4 h) fun q31 => Option.bind (f_X11_isTerminal q31 h) fun q32 => Option.bind (gi_rg q32) fun _ => if q32 = 0 then (Option.bind (gi_is h v0 4) fun _ => Option.bind (f_X5_pop v0 h) fun q36 => b_X5_worthOfTree_88 n r20 r38 v0 v1 v2 v3 v4 q36.1 q36.2) else (b_X5_worthOfTree_88 n r20 r38 v0 v1 v2 v3 v4 (q31 + (1 : Int)) h))
set_option maxRecDepth 100000 in
theorem zb_X5_worthOfTree_38 {al : Bool} {n : Nat} {r20 : Nat → Int → gi_H → Option (Int × gi_H)} {r38 : Nat → Int → Int → Int → Int → gi_H → Option (Int × gi_H)} {res : Int} {h1 : gi_H} (hr20 : ∀ (x0 : Nat) (x1 : Int) (hh : gi_H), r20 x0 x1 hh = some (res, h1) → gx_Z mX5_worthOfTree al al 0 0 20 [(0, .ref x0), (1, .int (gI x1))] [] (gi_cv hh) (.inl (some (.int (gI res)))) (gi_cv h1)) (hr38 : ∀ (x0 : Nat) (x1 : Int) (x2 : Int) (x3 : Int) (x4 : Int) (hh : gi_H), r38 x0 x1 x2 x3 x4 hh = some (res, h1) → gx_Z mX5_worthOfTree al al 0 0 38 [(0, .ref x0), (1, .int (gI x1)), (2, .int (gI x2)), (3, .int (gI x3)), (4, .int (gI x4))] [] (gi_cv hh) (.inl (some (.int (gI res)))) (gi_cv h1)) {v0 : Nat} {v1 : Int} {v2 : Int} {v3 : Int} {v4 : Int}  {h : gi_H} (e : b_X5_worthOfTree_38 n r20 r38 v0 v1 v2 v3 v4 h = some (res, h1)) : gx_Z mX5_worthOfTree al al 0 0 38 [(0, .ref v0), (1, .int (gI v1)), (2, .int (gI v2)), (3, .int (gI v3)), (4, .int (gI v4))] [] (gi_cv h) (.inl (some (.int (gI res)))) (gi_cv h1) := by
  refine gx_iload dX5_worthOfTree_38 4 rfl ?_
  refine gx_aload_n dX5_worthOfTree_40 rfl 0 rfl ?_
  refine gx_bE e (fun t15 ht15 e => ?_)
  refine gy_fR ht15 dX5_worthOfTree_41 gf_RX5_18_4_1 (by decide) gkN_4_1 gkR_4_1 ?_
  refine gx_bE e (fun _ hu16 e => ?_)
  refine gx_bE e (fun q17 hq17 e => ?_)
  refine gx_callV (n := 0) (st := [.int (gI v4)]) (As := []) (b := t15) dX5_worthOfTree_44 (z_X3_grammar hq17) rfl ⟨rfl, gw_cw_X3_grammar, gw_6, gp_X3_grammar, ⟨Nat.le_of_ble_eq_true rfl, Nat.le_of_ble_eq_true rfl⟩⟩ (gi_isS hu16) (by decide) gw_604 gw_556 gw_557 rfl ⟨Nat.le_of_ble_eq_true rfl, Nat.le_of_ble_eq_true rfl⟩ (Nat.le_of_ble_eq_true rfl) (gy_k1 (x := .ref q17) (kc2 := 0) (ks2 := 0) ⟨rfl, rfl⟩ ?_) gy_kn
  refine gx_iload_n dX5_worthOfTree_47 rfl 2 rfl ?_
  refine gx_bE e (fun _ hu18 e => ?_)
  refine gx_bE e (fun q19 hq19 e => ?_)
  refine gx_callV (n := 1) (st := [.int (gI v4)]) (As := [.int (gI v2)]) (b := q17) dX5_worthOfTree_48 (z_X4_length hq19) rfl ⟨rfl, gw_cw_X4_length, gw_3, gp_X4_length, ⟨Nat.le_of_ble_eq_true rfl, Nat.le_of_ble_eq_true rfl⟩⟩ (gi_isS hu18) (by decide) gw_1250 gw_424 gw_425 rfl ⟨Nat.le_of_ble_eq_true rfl, Nat.le_of_ble_eq_true rfl⟩ (Nat.le_of_ble_eq_true rfl) (gy_k1 (x := .int (gI q19)) (kc2 := 0) (ks2 := 0) ⟨rfl, rfl⟩ ?_) gy_kn
  refine gx_bE e (fun _ g20 e => ?_)
  refine gx_bE e (fun _ g21 e => ?_)
  refine gx_iE e (fun c22 e => ?_) (fun c22 e => ?_)
  · refine gy_icmp_ge (tgt := 106) (gi_rgS g20) (gi_rgS g21) dX5_worthOfTree_51 (by decide) (fun _ => ?_) (fun z => absurd c22 z)
    refine gx_sub (ls2 := [(0, .ref v0), (1, .int (gI v1)), (3, .int (gI v3))]) [0, 1, 3] rfl ?_
    exact zb_X5_worthOfTree_106 hr20 e
  · refine gy_icmp_ge (tgt := 106) (gi_rgS g20) (gi_rgS g21) dX5_worthOfTree_51 (by decide) (fun z => absurd z c22) (fun _ => ?_)
    refine gx_aload_n dX5_worthOfTree_54 rfl 0 rfl ?_
    refine gx_bE e (fun t27 ht27 e => ?_)
    refine gy_fR ht27 dX5_worthOfTree_55 gf_RX5_18_4_1 (by decide) gkN_4_1 gkR_4_1 ?_
    refine gx_bE e (fun _ hu28 e => ?_)
    refine gx_bE e (fun q29 hq29 e => ?_)
    refine gx_callV (n := 0) (st := []) (As := []) (b := t27) dX5_worthOfTree_58 (z_X3_grammar hq29) rfl ⟨rfl, gw_cw_X3_grammar, gw_6, gp_X3_grammar, ⟨Nat.le_of_ble_eq_true rfl, Nat.le_of_ble_eq_true rfl⟩⟩ (gi_isS hu28) (by decide) gw_604 gw_556 gw_557 rfl ⟨Nat.le_of_ble_eq_true rfl, Nat.le_of_ble_eq_true rfl⟩ (Nat.le_of_ble_eq_true rfl) (gy_k1 (x := .ref q29) (kc2 := 0) (ks2 := 0) ⟨rfl, rfl⟩ ?_) gy_kn
    refine gx_iload_n dX5_worthOfTree_61 rfl 2 rfl ?_
    refine gx_iload dX5_worthOfTree_62 4 rfl ?_
    refine gx_bE e (fun _ hu30 e => ?_)
    refine gx_bE e (fun q31 hq31 e => ?_)
    refine gx_callV (n := 2) (st := []) (As := [.int (gI v2), .int (gI v4)]) (b := q29) dX5_worthOfTree_64 (z_X4_symbol hq31) rfl ⟨rfl, gw_cw_X4_symbol, gw_3, gp_X4_symbol, ⟨Nat.le_of_ble_eq_true rfl, Nat.le_of_ble_eq_true rfl⟩⟩ (gi_isS hu30) (by decide) gw_1251 gw_428 gw_429 rfl ⟨Nat.le_of_ble_eq_true rfl, Nat.le_of_ble_eq_true rfl⟩ (Nat.le_of_ble_eq_true rfl) (gy_k1 (x := .int (gI q31)) (kc2 := 0) (ks2 := 0) ⟨rfl, rfl⟩ ?_) gy_kn
    refine gx_istore (ls2 := [(5, .int (gI q31)), (0, .ref v0), (1, .int (gI v1)), (2, .int (gI v2)), (3, .int (gI v3)), (4, .int (gI v4))]) dX5_worthOfTree_67 (Nat.le_of_ble_eq_true rfl) rfl ?_
    refine gx_iload dX5_worthOfTree_69 0 rfl ?_
    refine gx_bE e (fun q32 hq32 e => ?_)
    refine gx_callSN (n := 1) (st := []) (As := [.int (gI q31)]) dX5_worthOfTree_71 (z_X11_isTerminal hq32) rfl ⟨rfl, gw_cw_X11_isTerminal, gw_1, gp_X11_isTerminal, ⟨Nat.le_of_ble_eq_true rfl, Nat.le_of_ble_eq_true rfl⟩⟩ (host := "Grammarsmith") (by decide +kernel) gw_646 ⟨Nat.le_of_ble_eq_true rfl, Nat.le_of_ble_eq_true rfl⟩ (Nat.le_of_ble_eq_true rfl) (gy_k1 (x := .int (gI q32)) (kc2 := 0) (ks2 := 0) ⟨rfl, rfl⟩ ?_) gy_kn
    refine gx_bE e (fun _ g33 e => ?_)
    refine gx_iE e (fun c34 e => ?_) (fun c34 e => ?_)
    · refine gy_if_eq (tgt := 84) (gi_rgS g33) dX5_worthOfTree_74 (by decide) (fun _ => ?_) (fun z => absurd c34 z)
      refine gx_aload_n dX5_worthOfTree_84 rfl 1 rfl ?_
      refine gx_bE e (fun _ hu35 e => ?_)
      refine gx_bE e (fun q36 hq36 e => ?_)
      refine gx_callV (n := 0) (st := []) (As := []) (b := v0) dX5_worthOfTree_85 (z_X5_pop hq36) rfl ⟨rfl, gw_cw_X5_pop, gw_9, gp_X5_pop, ⟨Nat.le_of_ble_eq_true rfl, Nat.le_of_ble_eq_true rfl⟩⟩ (gi_isS hu35) (by decide) gw_1253 gw_1255 gs_48 rfl ⟨Nat.le_of_ble_eq_true rfl, Nat.le_of_ble_eq_true rfl⟩ (Nat.le_of_ble_eq_true rfl) (gy_k1 (x := .int (gI q36.1)) (kc2 := 0) (ks2 := 0) ⟨rfl, rfl⟩ ?_) gy_kn
      refine gx_sub (ls2 := [(0, .ref v0), (1, .int (gI v1)), (2, .int (gI v2)), (3, .int (gI v3)), (4, .int (gI v4))]) [1, 2, 3, 4, 5] rfl ?_
      exact zb_X5_worthOfTree_88 hr20 hr38 e
    · refine gy_if_eq (tgt := 84) (gi_rgS g33) dX5_worthOfTree_74 (by decide) (fun z => absurd z c34) (fun _ => ?_)
      refine gx_iload dX5_worthOfTree_77 0 rfl ?_
      refine gy_iconst dX5_worthOfTree_79 ?_
      refine gy_iadd dX5_worthOfTree_80 ?_
      refine gx_goto (tgt := 88) dX5_worthOfTree_81 (by decide) ?_
      refine gx_sub (ls2 := [(0, .ref v0), (1, .int (gI v1)), (2, .int (gI v2)), (3, .int (gI v3)), (4, .int (gI v4))]) [1, 2, 3, 4, 5] rfl ?_
      exact zb_X5_worthOfTree_88 hr20 hr38 e
def l_X5_worthOfTree_38 (n : Nat) (r20 : Nat → Int → gi_H → Option (Int × gi_H)) : Nat → Nat → Int → Int → Int → Int → gi_H → Option (Int × gi_H)
  | 0, _, _, _, _, _, _ => none
  | k + 1, v0, v1, v2, v3, v4, h => b_X5_worthOfTree_38 n r20 (l_X5_worthOfTree_38 n r20 k) v0 v1 v2 v3 v4 h
theorem zl_X5_worthOfTree_38 {al : Bool} {n : Nat} {r20 : Nat → Int → gi_H → Option (Int × gi_H)} {res : Int} {h1 : gi_H} (hr20 : ∀ (x0 : Nat) (x1 : Int) (hh : gi_H), r20 x0 x1 hh = some (res, h1) → gx_Z mX5_worthOfTree al al 0 0 20 [(0, .ref x0), (1, .int (gI x1))] [] (gi_cv hh) (.inl (some (.int (gI res)))) (gi_cv h1)) : ∀ (k : Nat) (v0 : Nat) (v1 : Int) (v2 : Int) (v3 : Int) (v4 : Int) (h : gi_H), l_X5_worthOfTree_38 n r20 k v0 v1 v2 v3 v4 h = some (res, h1) → gx_Z mX5_worthOfTree al al 0 0 38 [(0, .ref v0), (1, .int (gI v1)), (2, .int (gI v2)), (3, .int (gI v3)), (4, .int (gI v4))] [] (gi_cv h) (.inl (some (.int (gI res)))) (gi_cv h1)
  | 0, _, _, _, _, _, _, e => gx_0E e
  | k + 1, _, _, _, _, _, _, e => zb_X5_worthOfTree_38 (n := n) hr20 (zl_X5_worthOfTree_38 hr20 k) e
set_option maxRecDepth 100000 in
def b_X5_worthOfTree_20 (n : Nat) (r20 : Nat → Int → gi_H → Option (Int × gi_H)) (v0 : Nat) (v1 : Int)  (h : gi_H) : Option (Int × gi_H) :=
  Option.bind (gi_rg v1) fun _ => if v1 < 0 then (b_X5_worthOfTree_121 n  v0 h) else (Option.bind (gi_gR h v0 4 5) fun t12 => Option.bind (gi_aI h 1 t12 v1) fun t13 => gx_nm (t13 + (1 : Int)) fun t14 => l_X5_worthOfTree_38 n r20 n v0 v1 t13 t14 (0 : Int) h)
set_option maxRecDepth 100000 in
theorem zb_X5_worthOfTree_20 {al : Bool} {n : Nat} {r20 : Nat → Int → gi_H → Option (Int × gi_H)} {res : Int} {h1 : gi_H} (hr20 : ∀ (x0 : Nat) (x1 : Int) (hh : gi_H), r20 x0 x1 hh = some (res, h1) → gx_Z mX5_worthOfTree al al 0 0 20 [(0, .ref x0), (1, .int (gI x1))] [] (gi_cv hh) (.inl (some (.int (gI res)))) (gi_cv h1)) {v0 : Nat} {v1 : Int}  {h : gi_H} (e : b_X5_worthOfTree_20 n r20 v0 v1 h = some (res, h1)) : gx_Z mX5_worthOfTree al al 0 0 20 [(0, .ref v0), (1, .int (gI v1))] [] (gi_cv h) (.inl (some (.int (gI res)))) (gi_cv h1) := by
  refine gx_iload_n dX5_worthOfTree_20 rfl 1 rfl ?_
  refine gx_bE e (fun _ g8 e => ?_)
  refine gx_iE e (fun c9 e => ?_) (fun c9 e => ?_)
  · refine gy_if_lt (tgt := 121) (gi_rgS g8) dX5_worthOfTree_21 (by decide) (fun _ => ?_) (fun z => absurd c9 z)
    refine gx_sub (ls2 := [(0, .ref v0)]) [0] rfl ?_
    exact zb_X5_worthOfTree_121  e
  · refine gy_if_lt (tgt := 121) (gi_rgS g8) dX5_worthOfTree_21 (by decide) (fun z => absurd z c9) (fun _ => ?_)
    refine gx_aload_n dX5_worthOfTree_24 rfl 0 rfl ?_
    refine gx_bE e (fun t12 ht12 e => ?_)
    refine gy_fR ht12 dX5_worthOfTree_25 gf_RX5_15_4_5 (by decide) gkN_4_5 gkR_4_5 ?_
    refine gx_iload_n dX5_worthOfTree_28 rfl 1 rfl ?_
    refine gx_bE e (fun t13 ht13 e => ?_)
    refine gy_l1 ht13 dX5_worthOfTree_29 ?_
    refine gx_istore_n (ls2 := [(2, .int (gI t13)), (0, .ref v0), (1, .int (gI v1))]) dX5_worthOfTree_30 rfl (Nat.le_of_ble_eq_true rfl) rfl ?_
    refine gx_iload_n dX5_worthOfTree_31 rfl 0 rfl ?_
    refine gy_iconst dX5_worthOfTree_32 ?_
    refine gy_iadd dX5_worthOfTree_33 ?_
    refine gx_nE e (fun t14 ht14 e => ?_)
    rw [ht14]
    refine gx_istore_n (ls2 := [(3, .int (gI t14)), (2, .int (gI t13)), (0, .ref v0), (1, .int (gI v1))]) dX5_worthOfTree_34 rfl (Nat.le_of_ble_eq_true rfl) rfl ?_
    refine gy_iconst dX5_worthOfTree_35 ?_
    refine gx_istore (ls2 := [(4, .int (gI (0 : Int))), (3, .int (gI t14)), (2, .int (gI t13)), (0, .ref v0), (1, .int (gI v1))]) dX5_worthOfTree_36 (Nat.le_of_ble_eq_true rfl) rfl ?_
    refine gx_sub (ls2 := [(0, .ref v0), (1, .int (gI v1)), (2, .int (gI t13)), (3, .int (gI t14)), (4, .int (gI (0 : Int)))]) [3, 4, 2, 1, 0] rfl ?_
    exact zl_X5_worthOfTree_38 hr20 n _ _ _ _ _ _ e
def l_X5_worthOfTree_20 (n : Nat)  : Nat → Nat → Int → gi_H → Option (Int × gi_H)
  | 0, _, _, _ => none
  | k + 1, v0, v1, h => b_X5_worthOfTree_20 n  (l_X5_worthOfTree_20 n  k) v0 v1 h
theorem zl_X5_worthOfTree_20 {al : Bool} {n : Nat}  {res : Int} {h1 : gi_H}  : ∀ (k : Nat) (v0 : Nat) (v1 : Int) (h : gi_H), l_X5_worthOfTree_20 n  k v0 v1 h = some (res, h1) → gx_Z mX5_worthOfTree al al 0 0 20 [(0, .ref v0), (1, .int (gI v1))] [] (gi_cv h) (.inl (some (.int (gI res)))) (gi_cv h1)
  | 0, _, _, _, e => gx_0E e
  | k + 1, _, _, _, e => zb_X5_worthOfTree_20 (n := n)  (zl_X5_worthOfTree_20  k) e
set_option maxRecDepth 100000 in
def f_X5_worthOfTree (n : Nat) (v0 : Nat) (h : gi_H) : Option (Int × gi_H) :=
  Option.bind (gi_pI h v0 4 4 (0 : Int)) fun h1 => Option.bind (gi_gI h1 v0 4 6) fun t2 => Option.bind (gi_gR h1 v0 4 5) fun t3 => Option.bind (gi_ln h1 t3) fun t4 => Option.bind (gi_rg t2) fun _ => Option.bind (gi_rg t4) fun _ => gx_nm ((gi_min t2 t4) - (1 : Int)) fun t7 => l_X5_worthOfTree_20 n  n v0 t7 h1
set_option maxRecDepth 100000 in
theorem z_X5_worthOfTree {al : Bool} {n : Nat} {v0 : Nat} {h : gi_H} {res : Int} {h1 : gi_H} (e : f_X5_worthOfTree n v0 h = some (res, h1)) : gx_Cw mX5_worthOfTree al [.ref v0] (gi_cv h) (.inl (some (.int (gI res)))) (gi_cv h1) := by
  refine gx_enter (by decide +kernel) rfl (Nat.le_of_ble_eq_true rfl) ?_
  show gx_Z mX5_worthOfTree al al 0 0 0 [(0, .ref v0)] [] (gi_cv h) (.inl (some (.int (gI res)))) (gi_cv h1)
  refine gx_aload_n dX5_worthOfTree_0 rfl 0 rfl ?_
  refine gy_iconst dX5_worthOfTree_1 ?_
  refine gx_bE e (fun h1 hh1 e => ?_)
  refine gy_qI hh1 dX5_worthOfTree_2 gf_RX5_29_4_4 (by decide) gkN_4_4 rfl (Or.inl rfl) ?_
  refine gx_aload_n dX5_worthOfTree_5 rfl 0 rfl ?_
  refine gx_bE e (fun t2 ht2 e => ?_)
  refine gy_fI ht2 dX5_worthOfTree_6 gf_RX5_33_4_6 (by decide) gkN_4_6 gkR_4_6 ?_
  refine gx_aload_n dX5_worthOfTree_9 rfl 0 rfl ?_
  refine gx_bE e (fun t3 ht3 e => ?_)
  refine gy_fR ht3 dX5_worthOfTree_10 gf_RX5_15_4_5 (by decide) gkN_4_5 gkR_4_5 ?_
  refine gx_bE e (fun t4 ht4 e => ?_)
  refine gy_al0 ht4 dX5_worthOfTree_13 ?_
  refine gx_bE e (fun _ g5 e => ?_)
  refine gx_bE e (fun _ g6 e => ?_)
  refine gy_mmin (gi_rgS g5) (gi_rgS g6) dX5_worthOfTree_14 gw_1249 (Nat.le_of_ble_eq_true rfl) (Nat.le_of_ble_eq_true rfl) ⟨Nat.le_of_ble_eq_true rfl, Nat.le_of_ble_eq_true rfl⟩ ?_
  refine gy_iconst dX5_worthOfTree_17 ?_
  refine gy_isub dX5_worthOfTree_18 ?_
  refine gx_nE e (fun t7 ht7 e => ?_)
  rw [ht7]
  refine gx_istore_n (ls2 := [(1, .int (gI t7)), (0, .ref v0)]) dX5_worthOfTree_19 rfl (Nat.le_of_ble_eq_true rfl) rfl ?_
  refine gx_sub (ls2 := [(0, .ref v0), (1, .int (gI t7))]) [1, 0] rfl ?_
  exact zl_X5_worthOfTree_20  n _ _ _ e
/-! X10_keepWorth 4 -/
set_option maxRecDepth 100000 in
def f_X10_keepWorth_4 (v0 : Nat) (v1 : Int) (h : gi_H) : Option (gi_H) :=
  Option.bind (gi_pI h v0 4 0 v1) fun h1 => some h1
set_option maxRecDepth 100000 in
theorem z_X10_keepWorth_4 {al : Bool} {v0 : Nat} {v1 : Int} {h : gi_H} {h1 : gi_H} (e : f_X10_keepWorth_4 v0 v1 h = some h1) : gx_Cw mX10_keepWorth al [.ref v0, .int (gI v1)] (gi_cv h) (.inl none) (gi_cv h1) := by
  refine gx_enter (by decide +kernel) rfl (Nat.le_of_ble_eq_true rfl) ?_
  show gx_Z mX10_keepWorth al al 0 0 0 [(0, .ref v0), (1, .int (gI v1))] [] (gi_cv h) (.inl none) (gi_cv h1)
  refine gx_aload_n dX10_keepWorth_0 rfl 0 rfl ?_
  refine gx_iload_n dX10_keepWorth_1 rfl 1 rfl ?_
  refine gx_bE e (fun h1 hh1 e => ?_)
  refine gy_qI hh1 dX10_keepWorth_2 gf_RX10_7_4_0 (by decide) gkN_4_0 rfl (Or.inl rfl) ?_
  cases e
  exact gx_vret dX10_keepWorth_5 rfl ⟨Nat.le_of_ble_eq_true rfl, Nat.le_of_ble_eq_true rfl⟩ (fun z => z)
/-! X5_lowestIn  -/
set_option maxRecDepth 100000 in
def b_X5_lowestIn_2 (n : Nat) (r2 : Nat → Int → Int → Int → gi_H → Option (Int)) (v0 : Nat) (v1 : Int) (v2 : Int) (v3 : Int)  (h : gi_H) : Option (Int) :=
  Option.bind (gi_gR h v0 4 1) fun t1 => Option.bind (gi_is h t1 2) fun _ => Option.bind (f_X3_grammar t1 h) fun q3 => Option.bind (gi_is h q3 3) fun _ => Option.bind (f_X4_count q3 h) fun q5 => Option.bind (gi_rg v3) fun _ => Option.bind (gi_rg q5) fun _ => if q5 ≤ v3 then (some (-1 : Int)) else (Option.bind (gi_is h v0 4) fun _ => Option.bind (f_X5_isIn v0 v3 v1 v2 h) fun q10 => Option.bind (gi_rg q10) fun _ => if q10 = 0 then (gx_nm (v3 + (1 : Int)) fun t13 => r2 v0 v1 v2 t13 h) else (some v3))
set_option maxRecDepth 100000 in
theorem zb_X5_lowestIn_2 {al : Bool} {n : Nat} {r2 : Nat → Int → Int → Int → gi_H → Option (Int)} {res : Int} (hr2 : ∀ (x0 : Nat) (x1 : Int) (x2 : Int) (x3 : Int) (hh : gi_H), r2 x0 x1 x2 x3 hh = some res → gx_Z mX5_lowestIn al al 0 0 2 [(0, .ref x0), (1, .int (gI x1)), (2, .int (gI x2)), (3, .int (gI x3))] [] (gi_cv hh) (.inl (some (.int (gI res)))) (gi_cv hh)) {v0 : Nat} {v1 : Int} {v2 : Int} {v3 : Int}  {h : gi_H} (e : b_X5_lowestIn_2 n r2 v0 v1 v2 v3 h = some res) : gx_Z mX5_lowestIn al al 0 0 2 [(0, .ref v0), (1, .int (gI v1)), (2, .int (gI v2)), (3, .int (gI v3))] [] (gi_cv h) (.inl (some (.int (gI res)))) (gi_cv h) := by
  refine gx_iload_n dX5_lowestIn_2 rfl 3 rfl ?_
  refine gx_aload_n dX5_lowestIn_3 rfl 0 rfl ?_
  refine gx_bE e (fun t1 ht1 e => ?_)
  refine gy_fR ht1 dX5_lowestIn_4 gf_RX5_18_4_1 (by decide) gkN_4_1 gkR_4_1 ?_
  refine gx_bE e (fun _ hu2 e => ?_)
  refine gx_bE e (fun q3 hq3 e => ?_)
  refine gx_callV (n := 0) (st := [.int (gI v3)]) (As := []) (b := t1) dX5_lowestIn_7 (z_X3_grammar hq3) rfl ⟨rfl, gw_cw_X3_grammar, gw_6, gp_X3_grammar, ⟨Nat.le_of_ble_eq_true rfl, Nat.le_of_ble_eq_true rfl⟩⟩ (gi_isS hu2) (by decide) gw_604 gw_556 gw_557 rfl ⟨Nat.le_of_ble_eq_true rfl, Nat.le_of_ble_eq_true rfl⟩ (Nat.le_of_ble_eq_true rfl) (gy_k1 (x := .ref q3) (kc2 := 0) (ks2 := 0) ⟨rfl, rfl⟩ ?_) gy_kn
  refine gx_bE e (fun _ hu4 e => ?_)
  refine gx_bE e (fun q5 hq5 e => ?_)
  refine gx_callV (n := 0) (st := [.int (gI v3)]) (As := []) (b := q3) dX5_lowestIn_10 (z_X4_count hq5) rfl ⟨rfl, gw_cw_X4_count, gw_3, gp_X4_count, ⟨Nat.le_of_ble_eq_true rfl, Nat.le_of_ble_eq_true rfl⟩⟩ (gi_isS hu4) (by decide) gw_605 gw_393 gw_394 rfl ⟨Nat.le_of_ble_eq_true rfl, Nat.le_of_ble_eq_true rfl⟩ (Nat.le_of_ble_eq_true rfl) (gy_k1 (x := .int (gI q5)) (kc2 := 0) (ks2 := 0) ⟨rfl, rfl⟩ ?_) gy_kn
  refine gx_bE e (fun _ g6 e => ?_)
  refine gx_bE e (fun _ g7 e => ?_)
  refine gx_iE e (fun c8 e => ?_) (fun c8 e => ?_)
  · refine gy_icmp_ge (tgt := 34) (gi_rgS g6) (gi_rgS g7) dX5_lowestIn_13 (by decide) (fun _ => ?_) (fun z => absurd c8 z)
    refine gy_iconst dX5_lowestIn_34 ?_
    cases e
    exact gx_iret dX5_lowestIn_35 rfl ⟨Nat.le_of_ble_eq_true rfl, Nat.le_of_ble_eq_true rfl⟩ (fun z => z)
  · refine gy_icmp_ge (tgt := 34) (gi_rgS g6) (gi_rgS g7) dX5_lowestIn_13 (by decide) (fun z => absurd z c8) (fun _ => ?_)
    refine gx_aload_n dX5_lowestIn_16 rfl 0 rfl ?_
    refine gx_iload_n dX5_lowestIn_17 rfl 3 rfl ?_
    refine gx_iload_n dX5_lowestIn_18 rfl 1 rfl ?_
    refine gx_iload_n dX5_lowestIn_19 rfl 2 rfl ?_
    refine gx_bE e (fun _ hu9 e => ?_)
    refine gx_bE e (fun q10 hq10 e => ?_)
    refine gx_callV (n := 3) (st := []) (As := [.int (gI v3), .int (gI v1), .int (gI v2)]) (b := v0) dX5_lowestIn_20 (z_X5_isIn hq10) rfl ⟨rfl, gw_cw_X5_isIn, gw_9, gp_X5_isIn, ⟨Nat.le_of_ble_eq_true rfl, Nat.le_of_ble_eq_true rfl⟩⟩ (gi_isS hu9) (by decide) gw_606 gw_608 gs_32 rfl ⟨Nat.le_of_ble_eq_true rfl, Nat.le_of_ble_eq_true rfl⟩ (Nat.le_of_ble_eq_true rfl) (gy_k1 (x := .int (gI q10)) (kc2 := 0) (ks2 := 0) ⟨rfl, rfl⟩ ?_) gy_kn
    refine gx_bE e (fun _ g11 e => ?_)
    refine gx_iE e (fun c12 e => ?_) (fun c12 e => ?_)
    · refine gy_if_eq (tgt := 28) (gi_rgS g11) dX5_lowestIn_23 (by decide) (fun _ => ?_) (fun z => absurd c12 z)
      refine gx_nE e (fun t13 ht13 e => ?_)
      refine gy_iinc (v := t13) (ls2 := [(3, .int (gI t13)), (0, .ref v0), (1, .int (gI v1)), (2, .int (gI v2))]) dX5_lowestIn_28 3 rfl ht13 (Nat.le_of_ble_eq_true rfl) rfl ?_
      refine gx_goto (tgt := 2) dX5_lowestIn_31 (by decide) ?_
      refine gx_sub (ls2 := [(0, .ref v0), (1, .int (gI v1)), (2, .int (gI v2)), (3, .int (gI t13))]) [1, 2, 3, 0] rfl ?_
      exact hr2 _ _ _ _ _ e
    · refine gy_if_eq (tgt := 28) (gi_rgS g11) dX5_lowestIn_23 (by decide) (fun z => absurd z c12) (fun _ => ?_)
      refine gx_iload_n dX5_lowestIn_26 rfl 3 rfl ?_
      cases e
      exact gx_iret dX5_lowestIn_27 rfl ⟨Nat.le_of_ble_eq_true rfl, Nat.le_of_ble_eq_true rfl⟩ (fun z => z)
def l_X5_lowestIn_2 (n : Nat)  : Nat → Nat → Int → Int → Int → gi_H → Option (Int)
  | 0, _, _, _, _, _ => none
  | k + 1, v0, v1, v2, v3, h => b_X5_lowestIn_2 n  (l_X5_lowestIn_2 n  k) v0 v1 v2 v3 h
theorem zl_X5_lowestIn_2 {al : Bool} {n : Nat}  {res : Int}  : ∀ (k : Nat) (v0 : Nat) (v1 : Int) (v2 : Int) (v3 : Int) (h : gi_H), l_X5_lowestIn_2 n  k v0 v1 v2 v3 h = some res → gx_Z mX5_lowestIn al al 0 0 2 [(0, .ref v0), (1, .int (gI v1)), (2, .int (gI v2)), (3, .int (gI v3))] [] (gi_cv h) (.inl (some (.int (gI res)))) (gi_cv h)
  | 0, _, _, _, _, _, e => gx_0E e
  | k + 1, _, _, _, _, _, e => zb_X5_lowestIn_2 (n := n)  (zl_X5_lowestIn_2  k) e
set_option maxRecDepth 100000 in
def f_X5_lowestIn (n : Nat) (v0 : Nat) (v1 : Int) (v2 : Int) (h : gi_H) : Option (Int) :=
  l_X5_lowestIn_2 n  n v0 v1 v2 (0 : Int) h
set_option maxRecDepth 100000 in
theorem z_X5_lowestIn {al : Bool} {n : Nat} {v0 : Nat} {v1 : Int} {v2 : Int} {h : gi_H} {res : Int} (e : f_X5_lowestIn n v0 v1 v2 h = some res) : gx_Cw mX5_lowestIn al [.ref v0, .int (gI v1), .int (gI v2)] (gi_cv h) (.inl (some (.int (gI res)))) (gi_cv h) := by
  refine gx_enter (by decide +kernel) rfl (Nat.le_of_ble_eq_true rfl) ?_
  show gx_Z mX5_lowestIn al al 0 0 0 [(0, .ref v0), (1, .int (gI v1)), (2, .int (gI v2))] [] (gi_cv h) (.inl (some (.int (gI res)))) (gi_cv h)
  refine gy_iconst dX5_lowestIn_0 ?_
  refine gx_istore_n (ls2 := [(3, .int (gI (0 : Int))), (0, .ref v0), (1, .int (gI v1)), (2, .int (gI v2))]) dX5_lowestIn_1 rfl (Nat.le_of_ble_eq_true rfl) rfl ?_
  refine gx_sub (ls2 := [(0, .ref v0), (1, .int (gI v1)), (2, .int (gI v2)), (3, .int (gI (0 : Int)))]) [1, 2, 3, 0] rfl ?_
  exact zl_X5_lowestIn_2  n _ _ _ _ _ e
/-! X5_apply  -/
set_option maxRecDepth 100000 in
def b_X5_apply_40 (n : Nat)  (v0 : Nat) (v1 : Int)  (h : gi_H) : Option (gi_H) :=
  Option.bind (gi_rg v1) fun _ => if v1 = (-1 : Int) then (some h) else (Option.bind (gi_gI h v0 4 6) fun t11 => Option.bind (gi_rg t11) fun _ => if t11 < 0 then (some h) else (Option.bind (gi_gI h v0 4 6) fun t14 => Option.bind (gi_gR h v0 4 5) fun t15 => Option.bind (gi_ln h t15) fun t16 => Option.bind (gi_rg t14) fun _ => Option.bind (gi_rg t16) fun _ => if t16 ≤ t14 then (some h) else (Option.bind (gi_gR h v0 4 5) fun t20 => Option.bind (gi_gI h v0 4 6) fun t21 => Option.bind (gi_s1 h t20 t21 v1) fun h22 => Option.bind (gi_gI h22 v0 4 6) fun t23 => Option.bind (gi_pI h22 v0 4 6 (t23 + (1 : Int))) fun h24 => some h24)))
set_option maxRecDepth 100000 in
theorem zb_X5_apply_40 {al : Bool} {n : Nat}  {h1 : gi_H}  {v0 : Nat} {v1 : Int}  {h : gi_H} (e : b_X5_apply_40 n v0 v1 h = some h1) : gx_Z mX5_apply al al 0 0 40 [(0, .ref v0), (1, .int (gI v1))] [] (gi_cv h) (.inl none) (gi_cv h1) := by
  refine gx_iload_n dX5_apply_40 rfl 1 rfl ?_
  refine gy_iconst dX5_apply_41 ?_
  refine gx_bE e (fun _ g9 e => ?_)
  refine gx_iE e (fun c10 e => ?_) (fun c10 e => ?_)
  · refine gy_icmp_eq (tgt := 84) (gi_rgS g9) (by decide) dX5_apply_42 (by decide) (fun _ => ?_) (fun z => absurd c10 z)
    cases e
    exact gx_vret dX5_apply_84 rfl ⟨Nat.le_of_ble_eq_true rfl, Nat.le_of_ble_eq_true rfl⟩ (fun z => z)
  · refine gy_icmp_eq (tgt := 84) (gi_rgS g9) (by decide) dX5_apply_42 (by decide) (fun z => absurd z c10) (fun _ => ?_)
    refine gx_aload_n dX5_apply_45 rfl 0 rfl ?_
    refine gx_bE e (fun t11 ht11 e => ?_)
    refine gy_fI ht11 dX5_apply_46 gf_RX5_33_4_6 (by decide) gkN_4_6 gkR_4_6 ?_
    refine gx_bE e (fun _ g12 e => ?_)
    refine gx_iE e (fun c13 e => ?_) (fun c13 e => ?_)
    · refine gy_if_lt (tgt := 84) (gi_rgS g12) dX5_apply_49 (by decide) (fun _ => ?_) (fun z => absurd c13 z)
      cases e
      exact gx_vret dX5_apply_84 rfl ⟨Nat.le_of_ble_eq_true rfl, Nat.le_of_ble_eq_true rfl⟩ (fun z => z)
    · refine gy_if_lt (tgt := 84) (gi_rgS g12) dX5_apply_49 (by decide) (fun z => absurd z c13) (fun _ => ?_)
      refine gx_aload_n dX5_apply_52 rfl 0 rfl ?_
      refine gx_bE e (fun t14 ht14 e => ?_)
      refine gy_fI ht14 dX5_apply_53 gf_RX5_33_4_6 (by decide) gkN_4_6 gkR_4_6 ?_
      refine gx_aload_n dX5_apply_56 rfl 0 rfl ?_
      refine gx_bE e (fun t15 ht15 e => ?_)
      refine gy_fR ht15 dX5_apply_57 gf_RX5_15_4_5 (by decide) gkN_4_5 gkR_4_5 ?_
      refine gx_bE e (fun t16 ht16 e => ?_)
      refine gy_al0 ht16 dX5_apply_60 ?_
      refine gx_bE e (fun _ g17 e => ?_)
      refine gx_bE e (fun _ g18 e => ?_)
      refine gx_iE e (fun c19 e => ?_) (fun c19 e => ?_)
      · refine gy_icmp_ge (tgt := 84) (gi_rgS g17) (gi_rgS g18) dX5_apply_61 (by decide) (fun _ => ?_) (fun z => absurd c19 z)
        cases e
        exact gx_vret dX5_apply_84 rfl ⟨Nat.le_of_ble_eq_true rfl, Nat.le_of_ble_eq_true rfl⟩ (fun z => z)
      · refine gy_icmp_ge (tgt := 84) (gi_rgS g17) (gi_rgS g18) dX5_apply_61 (by decide) (fun z => absurd z c19) (fun _ => ?_)
        refine gx_aload_n dX5_apply_64 rfl 0 rfl ?_
        refine gx_bE e (fun t20 ht20 e => ?_)
        refine gy_fR ht20 dX5_apply_65 gf_RX5_15_4_5 (by decide) gkN_4_5 gkR_4_5 ?_
        refine gx_aload_n dX5_apply_68 rfl 0 rfl ?_
        refine gx_bE e (fun t21 ht21 e => ?_)
        refine gy_fI ht21 dX5_apply_69 gf_RX5_33_4_6 (by decide) gkN_4_6 gkR_4_6 ?_
        refine gx_iload_n dX5_apply_72 rfl 1 rfl ?_
        refine gx_bE e (fun h22 hh22 e => ?_)
        refine gy_t1 hh22 dX5_apply_73 ?_
        refine gx_aload_n dX5_apply_74 rfl 0 rfl ?_
        refine gx_dup dX5_apply_75 rfl ?_
        refine gx_bE e (fun t23 ht23 e => ?_)
        refine gy_fI ht23 dX5_apply_76 gf_RX5_33_4_6 (by decide) gkN_4_6 gkR_4_6 ?_
        refine gy_iconst dX5_apply_79 ?_
        refine gy_iadd dX5_apply_80 ?_
        refine gx_bE e (fun h24 hh24 e => ?_)
        refine gy_qI hh24 dX5_apply_81 gf_RX5_33_4_6 (by decide) gkN_4_6 rfl (Or.inl rfl) ?_
        cases e
        exact gx_vret dX5_apply_84 rfl ⟨Nat.le_of_ble_eq_true rfl, Nat.le_of_ble_eq_true rfl⟩ (fun z => z)
set_option maxRecDepth 100000 in
def b_X5_apply_14 (n : Nat) (r14 : Nat → Int → Int → gi_H → Option (gi_H)) (v0 : Nat) (v1 : Int) (v2 : Int)  (h : gi_H) : Option (gi_H) :=
  Option.bind (gi_rg v2) fun _ => if v2 < 0 then (b_X5_apply_40 n  v0 v1 h) else (Option.bind (gi_gR h v0 4 1) fun t25 => Option.bind (gi_is h t25 2) fun _ => Option.bind (f_X3_grammar t25 h) fun q27 => Option.bind (gi_is h q27 3) fun _ => Option.bind (f_X4_symbol q27 v1 v2 h) fun q29 => Option.bind (gi_is h v0 4) fun _ => Option.bind (f_X5_push v0 q29 h) fun q31 => gx_nm (v2 + (-1 : Int)) fun t32 => r14 v0 v1 t32 q31)
set_option maxRecDepth 100000 in
theorem zb_X5_apply_14 {al : Bool} {n : Nat} {r14 : Nat → Int → Int → gi_H → Option (gi_H)} {h1 : gi_H} (hr14 : ∀ (x0 : Nat) (x1 : Int) (x2 : Int) (hh : gi_H), r14 x0 x1 x2 hh = some h1 → gx_Z mX5_apply al al 0 0 14 [(0, .ref x0), (1, .int (gI x1)), (2, .int (gI x2))] [] (gi_cv hh) (.inl none) (gi_cv h1)) {v0 : Nat} {v1 : Int} {v2 : Int}  {h : gi_H} (e : b_X5_apply_14 n r14 v0 v1 v2 h = some h1) : gx_Z mX5_apply al al 0 0 14 [(0, .ref v0), (1, .int (gI v1)), (2, .int (gI v2))] [] (gi_cv h) (.inl none) (gi_cv h1) := by
  refine gx_iload_n dX5_apply_14 rfl 2 rfl ?_
  refine gx_bE e (fun _ g7 e => ?_)
  refine gx_iE e (fun c8 e => ?_) (fun c8 e => ?_)
  · refine gy_if_lt (tgt := 40) (gi_rgS g7) dX5_apply_15 (by decide) (fun _ => ?_) (fun z => absurd c8 z)
    refine gx_sub (ls2 := [(0, .ref v0), (1, .int (gI v1))]) [0, 1] rfl ?_
    exact zb_X5_apply_40  e
  · refine gy_if_lt (tgt := 40) (gi_rgS g7) dX5_apply_15 (by decide) (fun z => absurd z c8) (fun _ => ?_)
    refine gx_aload_n dX5_apply_18 rfl 0 rfl ?_
    refine gx_aload_n dX5_apply_19 rfl 0 rfl ?_
    refine gx_bE e (fun t25 ht25 e => ?_)
    refine gy_fR ht25 dX5_apply_20 gf_RX5_18_4_1 (by decide) gkN_4_1 gkR_4_1 ?_
    refine gx_bE e (fun _ hu26 e => ?_)
    refine gx_bE e (fun q27 hq27 e => ?_)
    refine gx_callV (n := 0) (st := [.ref v0]) (As := []) (b := t25) dX5_apply_23 (z_X3_grammar hq27) rfl ⟨rfl, gw_cw_X3_grammar, gw_6, gp_X3_grammar, ⟨Nat.le_of_ble_eq_true rfl, Nat.le_of_ble_eq_true rfl⟩⟩ (gi_isS hu26) (by decide) gw_604 gw_556 gw_557 rfl ⟨Nat.le_of_ble_eq_true rfl, Nat.le_of_ble_eq_true rfl⟩ (Nat.le_of_ble_eq_true rfl) (gy_k1 (x := .ref q27) (kc2 := 0) (ks2 := 0) ⟨rfl, rfl⟩ ?_) gy_kn
    refine gx_iload_n dX5_apply_26 rfl 1 rfl ?_
    refine gx_iload_n dX5_apply_27 rfl 2 rfl ?_
    refine gx_bE e (fun _ hu28 e => ?_)
    refine gx_bE e (fun q29 hq29 e => ?_)
    refine gx_callV (n := 2) (st := [.ref v0]) (As := [.int (gI v1), .int (gI v2)]) (b := q27) dX5_apply_28 (z_X4_symbol hq29) rfl ⟨rfl, gw_cw_X4_symbol, gw_3, gp_X4_symbol, ⟨Nat.le_of_ble_eq_true rfl, Nat.le_of_ble_eq_true rfl⟩⟩ (gi_isS hu28) (by decide) gw_1251 gw_428 gw_429 rfl ⟨Nat.le_of_ble_eq_true rfl, Nat.le_of_ble_eq_true rfl⟩ (Nat.le_of_ble_eq_true rfl) (gy_k1 (x := .int (gI q29)) (kc2 := 0) (ks2 := 0) ⟨rfl, rfl⟩ ?_) gy_kn
    refine gx_bE e (fun _ hu30 e => ?_)
    refine gx_bE e (fun q31 hq31 e => ?_)
    refine gx_callV (n := 1) (st := []) (As := [.int (gI q29)]) (b := v0) dX5_apply_31 (z_X5_push hq31) rfl ⟨rfl, gw_cw_X5_push, gw_9, gp_X5_push, ⟨Nat.le_of_ble_eq_true rfl, Nat.le_of_ble_eq_true rfl⟩⟩ (gi_isS hu30) (by decide) gw_1238 gw_1240 gs_46 rfl ⟨Nat.le_of_ble_eq_true rfl, Nat.le_of_ble_eq_true rfl⟩ (Nat.le_of_ble_eq_true rfl) (gy_k0 (kc2 := 0) (ks2 := 0) ⟨rfl, rfl⟩ ?_) gy_kn
    refine gx_nE e (fun t32 ht32 e => ?_)
    refine gy_iinc (v := t32) (ls2 := [(2, .int (gI t32)), (0, .ref v0), (1, .int (gI v1))]) dX5_apply_34 2 rfl ht32 (Nat.le_of_ble_eq_true rfl) rfl ?_
    refine gx_goto (tgt := 14) dX5_apply_37 (by decide) ?_
    refine gx_sub (ls2 := [(0, .ref v0), (1, .int (gI v1)), (2, .int (gI t32))]) [1, 2, 0] rfl ?_
    exact hr14 _ _ _ _ e
def l_X5_apply_14 (n : Nat)  : Nat → Nat → Int → Int → gi_H → Option (gi_H)
  | 0, _, _, _, _ => none
  | k + 1, v0, v1, v2, h => b_X5_apply_14 n  (l_X5_apply_14 n  k) v0 v1 v2 h
theorem zl_X5_apply_14 {al : Bool} {n : Nat}  {h1 : gi_H}  : ∀ (k : Nat) (v0 : Nat) (v1 : Int) (v2 : Int) (h : gi_H), l_X5_apply_14 n  k v0 v1 v2 h = some h1 → gx_Z mX5_apply al al 0 0 14 [(0, .ref v0), (1, .int (gI v1)), (2, .int (gI v2))] [] (gi_cv h) (.inl none) (gi_cv h1)
  | 0, _, _, _, _, e => gx_0E e
  | k + 1, _, _, _, _, e => zb_X5_apply_14 (n := n)  (zl_X5_apply_14  k) e
set_option maxRecDepth 100000 in
def f_X5_apply (n : Nat) (v0 : Nat) (v1 : Int) (h : gi_H) : Option (gi_H) :=
  Option.bind (gi_gR h v0 4 1) fun t1 => Option.bind (gi_is h t1 2) fun _ => Option.bind (f_X3_grammar t1 h) fun q3 => Option.bind (gi_is h q3 3) fun _ => Option.bind (f_X4_length q3 v1 h) fun q5 => gx_nm (q5 - (1 : Int)) fun t6 => l_X5_apply_14 n  n v0 v1 t6 h
set_option maxRecDepth 100000 in
theorem z_X5_apply {al : Bool} {n : Nat} {v0 : Nat} {v1 : Int} {h : gi_H} {h1 : gi_H} (e : f_X5_apply n v0 v1 h = some h1) : gx_Cw mX5_apply al [.ref v0, .int (gI v1)] (gi_cv h) (.inl none) (gi_cv h1) := by
  refine gx_enter (by decide +kernel) rfl (Nat.le_of_ble_eq_true rfl) ?_
  show gx_Z mX5_apply al al 0 0 0 [(0, .ref v0), (1, .int (gI v1))] [] (gi_cv h) (.inl none) (gi_cv h1)
  refine gx_aload_n dX5_apply_0 rfl 0 rfl ?_
  refine gx_bE e (fun t1 ht1 e => ?_)
  refine gy_fR ht1 dX5_apply_1 gf_RX5_18_4_1 (by decide) gkN_4_1 gkR_4_1 ?_
  refine gx_bE e (fun _ hu2 e => ?_)
  refine gx_bE e (fun q3 hq3 e => ?_)
  refine gx_callV (n := 0) (st := []) (As := []) (b := t1) dX5_apply_4 (z_X3_grammar hq3) rfl ⟨rfl, gw_cw_X3_grammar, gw_6, gp_X3_grammar, ⟨Nat.le_of_ble_eq_true rfl, Nat.le_of_ble_eq_true rfl⟩⟩ (gi_isS hu2) (by decide) gw_604 gw_556 gw_557 rfl ⟨Nat.le_of_ble_eq_true rfl, Nat.le_of_ble_eq_true rfl⟩ (Nat.le_of_ble_eq_true rfl) (gy_k1 (x := .ref q3) (kc2 := 0) (ks2 := 0) ⟨rfl, rfl⟩ ?_) gy_kn
  refine gx_iload_n dX5_apply_7 rfl 1 rfl ?_
  refine gx_bE e (fun _ hu4 e => ?_)
  refine gx_bE e (fun q5 hq5 e => ?_)
  refine gx_callV (n := 1) (st := []) (As := [.int (gI v1)]) (b := q3) dX5_apply_8 (z_X4_length hq5) rfl ⟨rfl, gw_cw_X4_length, gw_3, gp_X4_length, ⟨Nat.le_of_ble_eq_true rfl, Nat.le_of_ble_eq_true rfl⟩⟩ (gi_isS hu4) (by decide) gw_1250 gw_424 gw_425 rfl ⟨Nat.le_of_ble_eq_true rfl, Nat.le_of_ble_eq_true rfl⟩ (Nat.le_of_ble_eq_true rfl) (gy_k1 (x := .int (gI q5)) (kc2 := 0) (ks2 := 0) ⟨rfl, rfl⟩ ?_) gy_kn
  refine gy_iconst dX5_apply_11 ?_
  refine gy_isub dX5_apply_12 ?_
  refine gx_nE e (fun t6 ht6 e => ?_)
  rw [ht6]
  refine gx_istore_n (ls2 := [(2, .int (gI t6)), (0, .ref v0), (1, .int (gI v1))]) dX5_apply_13 rfl (Nat.le_of_ble_eq_true rfl) rfl ?_
  refine gx_sub (ls2 := [(0, .ref v0), (1, .int (gI v1)), (2, .int (gI t6))]) [1, 2, 0] rfl ?_
  exact zl_X5_apply_14  n _ _ _ _ e
