/-! X9_clashes  -/
set_option maxRecDepth 100000 in
def f_X9_clashes (n : Nat) (v0 : Nat) (h : gi_H) : Option (Int × gi_H) :=
  Option.bind (gi_is h v0 8) fun _ => Option.bind (f_X9_cellsInConflict n v0 (0 : Int) h) fun q2 => some (q2.1, q2.2)
set_option maxRecDepth 100000 in
theorem z_X9_clashes {al : Bool} {n : Nat} {v0 : Nat} {h : gi_H} {res : Int} {h1 : gi_H} (e : f_X9_clashes n v0 h = some (res, h1)) : gx_Cw mX9_clashes al [.ref v0] (gi_cv h) (.inl (some (.int (gI res)))) (gi_cv h1) := by
  refine gx_enter (by decide +kernel) rfl (Nat.le_of_ble_eq_true rfl) ?_
  show gx_Z mX9_clashes al al 0 0 0 [(0, .ref v0)] [] (gi_cv h) (.inl (some (.int (gI res)))) (gi_cv h1)
  refine gx_aload_n dX9_clashes_0 rfl 0 rfl ?_
  refine gy_iconst dX9_clashes_1 ?_
  refine gx_bE e (fun _ hu1 e => ?_)
  refine gx_bE e (fun q2 hq2 e => ?_)
  refine gx_callV (n := 1) (st := []) (As := [.int (gI (0 : Int))]) (b := v0) dX9_clashes_2 (z_X9_cellsInConflict hq2) rfl ⟨rfl, gw_cw_X9_cellsInConflict, gw_10, gp_X9_cellsInConflict, ⟨Nat.le_of_ble_eq_true rfl, Nat.le_of_ble_eq_true rfl⟩⟩ (gi_isS hu1) (by decide) gw_1092 gw_1094 gs_39 rfl ⟨Nat.le_of_ble_eq_true rfl, Nat.le_of_ble_eq_true rfl⟩ (Nat.le_of_ble_eq_true rfl) (gy_k1 (x := .int (gI q2.1)) (kc2 := 0) (ks2 := 0) ⟨rfl, rfl⟩ ?_) gy_kn
  cases e
  exact gx_iret dX9_clashes_5 rfl ⟨Nat.le_of_ble_eq_true rfl, Nat.le_of_ble_eq_true rfl⟩ (fun z => z)
/-! X11_conflicts  -/
set_option maxRecDepth 100000 in
def f_X11_conflicts (n : Nat) (v0 : Nat) (v1 : Int) (h : gi_H) : Option ((Int ⊕ String) × gi_H) :=
  Option.bind (f_X11_requireKind v1 h) fun q1 => gx_sm q1.1 (fun t2 => Option.bind (gi_is q1.2 v0 9) fun _ => Option.bind (f_X11_table n v0 v1 q1.2) fun q4 => if gi_S q4.2 q4.1 = (0, 4) then (Option.bind (gi_is q4.2 q4.1 4) fun _ => Option.bind (f_X5_clashes n q4.1 q4.2) fun q7 => some (.inl q7, q4.2)) else (Option.bind (gi_is q4.2 q4.1 8) fun _ => Option.bind (f_X9_clashes n q4.1 q4.2) fun q9 => some (.inl q9.1, q9.2))) (fun t2 => some (.inr t2, q1.2))
set_option maxRecDepth 100000 in
theorem z_X11_conflicts {n : Nat} {v0 : Nat} {v1 : Int} {h : gi_H} {res : Int ⊕ String} {h1 : gi_H} (e : f_X11_conflicts n v0 v1 h = some (res, h1)) : gx_Cw mX11_conflicts false [.ref v0, .int (gI v1)] (gi_cv h) (gx_oI res) (gi_cv h1) := by
  refine gx_enter (by decide +kernel) rfl (Nat.le_of_ble_eq_true rfl) ?_
  show gx_Z mX11_conflicts false false 0 0 0 [(0, .ref v0), (1, .int (gI v1))] [] (gi_cv h) (gx_oI res) (gi_cv h1)
  refine gx_iload_n dX11_conflicts_0 rfl 1 rfl ?_
  refine gx_bE e (fun q1 hq1 e => ?_)
  refine gx_smE e (fun t2 ht2 e => ?_) (fun t2 ht2 e => ?_)
  · have zq1 := z_X11_requireKind hq1
    rw [ht2] at zq1
    refine gx_callS (n := 1) (st := []) (As := [.int (gI v1)]) dX11_conflicts_1 zq1 rfl ⟨rfl, gw_cw_X11_requireKind, gw_1, gp_X11_requireKind, ⟨Nat.le_of_ble_eq_true rfl, Nat.le_of_ble_eq_true rfl⟩⟩ gw_971 gw_972 ⟨Nat.le_of_ble_eq_true rfl, Nat.le_of_ble_eq_true rfl⟩ (Nat.le_of_ble_eq_true rfl) (gy_k0 (kc2 := 1) (ks2 := 6) ⟨rfl, rfl⟩ ?_) gy_kn
    refine gx_aload_n dX11_conflicts_4 rfl 0 rfl ?_
    refine gx_iload_n dX11_conflicts_5 rfl 1 rfl ?_
    refine gx_bE e (fun _ hu3 e => ?_)
    refine gx_bE e (fun q4 hq4 e => ?_)
    refine gx_callV (n := 1) (st := []) (As := [.int (gI v1)]) (b := v0) dX11_conflicts_6 (z_X11_table hq4) rfl ⟨rfl, gw_cw_X11_table, gw_1, gp_X11_table, ⟨Nat.le_of_ble_eq_true rfl, Nat.le_of_ble_eq_true rfl⟩⟩ (gi_isS hu3) (by decide) gw_975 gw_977 gs_25 rfl ⟨Nat.le_of_ble_eq_true rfl, Nat.le_of_ble_eq_true rfl⟩ (Nat.le_of_ble_eq_true rfl) (gy_k1 (x := .ref q4.1) (kc2 := 1) (ks2 := 6) ⟨rfl, rfl⟩ ?_) gy_kn
    refine gx_iE e (fun c5 e => ?_) (fun c5 e => ?_)
    · refine gx_bE e (fun _ hu6 e => ?_)
      refine gx_bE e (fun q7 hq7 e => ?_)
      refine gx_callA (n := 0) (st := []) (As := []) (b := q4.1) dX11_conflicts_9 (z_X5_clashes hq7) rfl ⟨rfl, gw_cw_X5_clashes, gw_9, gp_X5_clashes, ⟨Nat.le_of_ble_eq_true rfl, Nat.le_of_ble_eq_true rfl⟩⟩ (gi_isS hu6) (by decide) (x := ⟨"Grammarsmith$Table", "clashes", "()I"⟩) (owner := "Grammarsmith$Table") gw_1083 gw_1085 gw_1086 gw_1087 (by decide +kernel) (by decide +kernel) ⟨Nat.le_of_ble_eq_true rfl, Nat.le_of_ble_eq_true rfl⟩ (Nat.le_of_ble_eq_true rfl) (gy_k1 (x := .int (gI q7)) (kc2 := 1) (ks2 := 6) ⟨rfl, rfl⟩ ?_) gy_kn
      cases e
      exact gx_iret dX11_conflicts_12 rfl ⟨Nat.le_of_ble_eq_true rfl, Nat.le_of_ble_eq_true rfl⟩ (fun z => z)
    · refine gx_bE e (fun _ hu8 e => ?_)
      refine gx_bE e (fun q9 hq9 e => ?_)
      refine gx_callA (n := 0) (st := []) (As := []) (b := q4.1) dX11_conflicts_9 (z_X9_clashes hq9) rfl ⟨rfl, gw_cw_X9_clashes, gw_10, gp_X9_clashes, ⟨Nat.le_of_ble_eq_true rfl, Nat.le_of_ble_eq_true rfl⟩⟩ (gi_isS hu8) (by decide) (x := ⟨"Grammarsmith$Table", "clashes", "()I"⟩) (owner := "Grammarsmith$Table") gw_1083 gw_1085 gw_1089 gw_1090 (by decide +kernel) (by decide +kernel) ⟨Nat.le_of_ble_eq_true rfl, Nat.le_of_ble_eq_true rfl⟩ (Nat.le_of_ble_eq_true rfl) (gy_k1 (x := .int (gI q9.1)) (kc2 := 1) (ks2 := 6) ⟨rfl, rfl⟩ ?_) gy_kn
      cases e
      exact gx_iret dX11_conflicts_12 rfl ⟨Nat.le_of_ble_eq_true rfl, Nat.le_of_ble_eq_true rfl⟩ (fun z => z)
  · have zq1 := z_X11_requireKind hq1
    rw [ht2] at zq1
    refine gx_callS (n := 1) (st := []) (As := [.int (gI v1)]) dX11_conflicts_1 zq1 rfl ⟨rfl, gw_cw_X11_requireKind, gw_1, gp_X11_requireKind, ⟨Nat.le_of_ble_eq_true rfl, Nat.le_of_ble_eq_true rfl⟩⟩ gw_971 gw_972 ⟨Nat.le_of_ble_eq_true rfl, Nat.le_of_ble_eq_true rfl⟩ (Nat.le_of_ble_eq_true rfl) gy_kN (gy_kE (kc2 := 1) (ks2 := 6) ⟨rfl, rfl⟩ ?_)
    cases e
    exact gx_out rfl ⟨Nat.le_of_ble_eq_true rfl, Nat.le_of_ble_eq_true rfl⟩ (fun z => z)
/-! L_conflicts  -/
set_option maxRecDepth 100000 in
def f_L_conflicts (n : Nat) (v0 : Nat) (v1 : Int) (h : gi_H) : Option (Int × gi_H) :=
  Option.bind (gi_is h v0 9) fun _ => Option.bind (f_X11_conflicts n v0 v1 h) fun q2 => gx_sm q2.1 (fun t3 => some (t3, q2.2)) (fun t3 => if t3 = gx_IOB then (some ((-101 : Int), q2.2)) else (none))
set_option maxRecDepth 100000 in
theorem z_L_conflicts {n : Nat} {v0 : Nat} {v1 : Int} {h : gi_H} {res : Int} {h1 : gi_H} (e : f_L_conflicts n v0 v1 h = some (res, h1)) : gx_Cw mL_conflicts false [.ref v0, .int (gI v1)] (gi_cv h) (.inl (some (.int (gI res)))) (gi_cv h1) := by
  refine gx_enter (by decide +kernel) rfl (Nat.le_of_ble_eq_true rfl) ?_
  show gx_Z mL_conflicts false false 0 0 0 [(0, .ref v0), (1, .int (gI v1))] [] (gi_cv h) (.inl (some (.int (gI res)))) (gi_cv h1)
  refine gx_aload_n dL_conflicts_0 rfl 0 rfl ?_
  refine gx_iload_n dL_conflicts_1 rfl 1 rfl ?_
  refine gx_bE e (fun _ hu1 e => ?_)
  refine gx_bE e (fun q2 hq2 e => ?_)
  refine gx_smE e (fun t3 ht3 e => ?_) (fun t3 ht3 e => ?_)
  · have zq2 := z_X11_conflicts hq2
    rw [ht3] at zq2
    refine gx_callV (n := 1) (st := []) (As := [.int (gI v1)]) (b := v0) dL_conflicts_2 zq2 rfl ⟨rfl, gw_cw_X11_conflicts, gw_1, gp_X11_conflicts, ⟨Nat.le_of_ble_eq_true rfl, Nat.le_of_ble_eq_true rfl⟩⟩ (gi_isS hu1) (by decide) gw_1079 gw_1080 gw_1081 rfl ⟨Nat.le_of_ble_eq_true rfl, Nat.le_of_ble_eq_true rfl⟩ (Nat.le_of_ble_eq_true rfl) (gy_k1 (x := .int (gI t3)) (kc2 := 1) (ks2 := 6) ⟨rfl, rfl⟩ ?_) gy_kn
    cases e
    exact gx_iret dL_conflicts_5 rfl ⟨Nat.le_of_ble_eq_true rfl, Nat.le_of_ble_eq_true rfl⟩ (fun z => z)
  · have zq2 := z_X11_conflicts hq2
    rw [ht3] at zq2
    refine gx_callV (n := 1) (st := []) (As := [.int (gI v1)]) (b := v0) dL_conflicts_2 zq2 rfl ⟨rfl, gw_cw_X11_conflicts, gw_1, gp_X11_conflicts, ⟨Nat.le_of_ble_eq_true rfl, Nat.le_of_ble_eq_true rfl⟩⟩ (gi_isS hu1) (by decide) gw_1079 gw_1080 gw_1081 rfl ⟨Nat.le_of_ble_eq_true rfl, Nat.le_of_ble_eq_true rfl⟩ (Nat.le_of_ble_eq_true rfl) gy_kN (gy_kE (kc2 := 1) (ks2 := 6) ⟨rfl, rfl⟩ ?_)
    refine gx_iE e (fun c4 e => ?_) (fun c4 e => ?_)
    · rw [c4]
      refine gx_catch (ls2 := [(0, .ref v0), (1, .int (gI v1))]) [] (x := (0, 5, 6, 33)) rfl (fun z hz => by cases hz) (by decide +kernel) (by decide) gw_866 (by decide +kernel) (Nat.le_of_ble_eq_true rfl) (Or.inl ⟨2, rfl, rfl, dL_conflicts_6⟩) rfl ?_
      refine gy_bipush dL_conflicts_7 gcb_m101 ?_
      cases e
      exact gx_iret dL_conflicts_9 rfl ⟨Nat.le_of_ble_eq_true rfl, Nat.le_of_ble_eq_true rfl⟩ (fun z => z)
    cases e
/-! X5_easedClashes  -/
set_option maxRecDepth 100000 in
def f_X5_easedClashes (v0 : Nat) (h : gi_H) : Option (Int) :=
  some (0 : Int)
set_option maxRecDepth 100000 in
theorem z_X5_easedClashes {al : Bool} {v0 : Nat} {h : gi_H} {res : Int} (e : f_X5_easedClashes v0 h = some res) : gx_Cw mX5_easedClashes al [.ref v0] (gi_cv h) (.inl (some (.int (gI res)))) (gi_cv h) := by
  refine gx_enter (by decide +kernel) rfl (Nat.le_of_ble_eq_true rfl) ?_
  show gx_Z mX5_easedClashes al al 0 0 0 [(0, .ref v0)] [] (gi_cv h) (.inl (some (.int (gI res)))) (gi_cv h)
  refine gy_iconst dX5_easedClashes_0 ?_
  cases e
  exact gx_iret dX5_easedClashes_1 rfl ⟨Nat.le_of_ble_eq_true rfl, Nat.le_of_ble_eq_true rfl⟩ (fun z => z)
/-! X9_easedClashes  -/
set_option maxRecDepth 100000 in
def f_X9_easedClashes (n : Nat) (v0 : Nat) (h : gi_H) : Option (Int × gi_H) :=
  Option.bind (gi_is h v0 8) fun _ => Option.bind (f_X9_cellsInConflict n v0 (1 : Int) h) fun q2 => some (q2.1, q2.2)
set_option maxRecDepth 100000 in
theorem z_X9_easedClashes {al : Bool} {n : Nat} {v0 : Nat} {h : gi_H} {res : Int} {h1 : gi_H} (e : f_X9_easedClashes n v0 h = some (res, h1)) : gx_Cw mX9_easedClashes al [.ref v0] (gi_cv h) (.inl (some (.int (gI res)))) (gi_cv h1) := by
  refine gx_enter (by decide +kernel) rfl (Nat.le_of_ble_eq_true rfl) ?_
  show gx_Z mX9_easedClashes al al 0 0 0 [(0, .ref v0)] [] (gi_cv h) (.inl (some (.int (gI res)))) (gi_cv h1)
  refine gx_aload_n dX9_easedClashes_0 rfl 0 rfl ?_
  refine gy_iconst dX9_easedClashes_1 ?_
  refine gx_bE e (fun _ hu1 e => ?_)
  refine gx_bE e (fun q2 hq2 e => ?_)
  refine gx_callV (n := 1) (st := []) (As := [.int (gI (1 : Int))]) (b := v0) dX9_easedClashes_2 (z_X9_cellsInConflict hq2) rfl ⟨rfl, gw_cw_X9_cellsInConflict, gw_10, gp_X9_cellsInConflict, ⟨Nat.le_of_ble_eq_true rfl, Nat.le_of_ble_eq_true rfl⟩⟩ (gi_isS hu1) (by decide) gw_1092 gw_1094 gs_39 rfl ⟨Nat.le_of_ble_eq_true rfl, Nat.le_of_ble_eq_true rfl⟩ (Nat.le_of_ble_eq_true rfl) (gy_k1 (x := .int (gI q2.1)) (kc2 := 0) (ks2 := 0) ⟨rfl, rfl⟩ ?_) gy_kn
  cases e
  exact gx_iret dX9_easedClashes_5 rfl ⟨Nat.le_of_ble_eq_true rfl, Nat.le_of_ble_eq_true rfl⟩ (fun z => z)
/-! X11_settled  -/
set_option maxRecDepth 100000 in
def f_X11_settled (n : Nat) (v0 : Nat) (v1 : Int) (h : gi_H) : Option ((Int ⊕ String) × gi_H) :=
  Option.bind (f_X11_requireKind v1 h) fun q1 => gx_sm q1.1 (fun t2 => Option.bind (gi_is q1.2 v0 9) fun _ => Option.bind (f_X11_table n v0 v1 q1.2) fun q4 => if gi_S q4.2 q4.1 = (0, 4) then (Option.bind (gi_is q4.2 q4.1 4) fun _ => Option.bind (f_X5_easedClashes q4.1 q4.2) fun q7 => some (.inl q7, q4.2)) else (Option.bind (gi_is q4.2 q4.1 8) fun _ => Option.bind (f_X9_easedClashes n q4.1 q4.2) fun q9 => some (.inl q9.1, q9.2))) (fun t2 => some (.inr t2, q1.2))
set_option maxRecDepth 100000 in
theorem z_X11_settled {n : Nat} {v0 : Nat} {v1 : Int} {h : gi_H} {res : Int ⊕ String} {h1 : gi_H} (e : f_X11_settled n v0 v1 h = some (res, h1)) : gx_Cw mX11_settled false [.ref v0, .int (gI v1)] (gi_cv h) (gx_oI res) (gi_cv h1) := by
  refine gx_enter (by decide +kernel) rfl (Nat.le_of_ble_eq_true rfl) ?_
  show gx_Z mX11_settled false false 0 0 0 [(0, .ref v0), (1, .int (gI v1))] [] (gi_cv h) (gx_oI res) (gi_cv h1)
  refine gx_iload_n dX11_settled_0 rfl 1 rfl ?_
  refine gx_bE e (fun q1 hq1 e => ?_)
  refine gx_smE e (fun t2 ht2 e => ?_) (fun t2 ht2 e => ?_)
  · have zq1 := z_X11_requireKind hq1
    rw [ht2] at zq1
    refine gx_callS (n := 1) (st := []) (As := [.int (gI v1)]) dX11_settled_1 zq1 rfl ⟨rfl, gw_cw_X11_requireKind, gw_1, gp_X11_requireKind, ⟨Nat.le_of_ble_eq_true rfl, Nat.le_of_ble_eq_true rfl⟩⟩ gw_971 gw_972 ⟨Nat.le_of_ble_eq_true rfl, Nat.le_of_ble_eq_true rfl⟩ (Nat.le_of_ble_eq_true rfl) (gy_k0 (kc2 := 1) (ks2 := 6) ⟨rfl, rfl⟩ ?_) gy_kn
    refine gx_aload_n dX11_settled_4 rfl 0 rfl ?_
    refine gx_iload_n dX11_settled_5 rfl 1 rfl ?_
    refine gx_bE e (fun _ hu3 e => ?_)
    refine gx_bE e (fun q4 hq4 e => ?_)
    refine gx_callV (n := 1) (st := []) (As := [.int (gI v1)]) (b := v0) dX11_settled_6 (z_X11_table hq4) rfl ⟨rfl, gw_cw_X11_table, gw_1, gp_X11_table, ⟨Nat.le_of_ble_eq_true rfl, Nat.le_of_ble_eq_true rfl⟩⟩ (gi_isS hu3) (by decide) gw_975 gw_977 gs_25 rfl ⟨Nat.le_of_ble_eq_true rfl, Nat.le_of_ble_eq_true rfl⟩ (Nat.le_of_ble_eq_true rfl) (gy_k1 (x := .ref q4.1) (kc2 := 1) (ks2 := 6) ⟨rfl, rfl⟩ ?_) gy_kn
    refine gx_iE e (fun c5 e => ?_) (fun c5 e => ?_)
    · refine gx_bE e (fun _ hu6 e => ?_)
      refine gx_bE e (fun q7 hq7 e => ?_)
      refine gx_callA (n := 0) (st := []) (As := []) (b := q4.1) dX11_settled_9 (z_X5_easedClashes hq7) rfl ⟨rfl, gw_cw_X5_easedClashes, gw_9, gp_X5_easedClashes, ⟨Nat.le_of_ble_eq_true rfl, Nat.le_of_ble_eq_true rfl⟩⟩ (gi_isS hu6) (by decide) (x := ⟨"Grammarsmith$Table", "easedClashes", "()I"⟩) (owner := "Grammarsmith$Table") gw_1148 gw_1150 gw_1151 gw_1152 (by decide +kernel) (by decide +kernel) ⟨Nat.le_of_ble_eq_true rfl, Nat.le_of_ble_eq_true rfl⟩ (Nat.le_of_ble_eq_true rfl) (gy_k1 (x := .int (gI q7)) (kc2 := 1) (ks2 := 6) ⟨rfl, rfl⟩ ?_) gy_kn
      cases e
      exact gx_iret dX11_settled_12 rfl ⟨Nat.le_of_ble_eq_true rfl, Nat.le_of_ble_eq_true rfl⟩ (fun z => z)
    · refine gx_bE e (fun _ hu8 e => ?_)
      refine gx_bE e (fun q9 hq9 e => ?_)
      refine gx_callA (n := 0) (st := []) (As := []) (b := q4.1) dX11_settled_9 (z_X9_easedClashes hq9) rfl ⟨rfl, gw_cw_X9_easedClashes, gw_10, gp_X9_easedClashes, ⟨Nat.le_of_ble_eq_true rfl, Nat.le_of_ble_eq_true rfl⟩⟩ (gi_isS hu8) (by decide) (x := ⟨"Grammarsmith$Table", "easedClashes", "()I"⟩) (owner := "Grammarsmith$Table") gw_1148 gw_1150 gw_1154 gw_1155 (by decide +kernel) (by decide +kernel) ⟨Nat.le_of_ble_eq_true rfl, Nat.le_of_ble_eq_true rfl⟩ (Nat.le_of_ble_eq_true rfl) (gy_k1 (x := .int (gI q9.1)) (kc2 := 1) (ks2 := 6) ⟨rfl, rfl⟩ ?_) gy_kn
      cases e
      exact gx_iret dX11_settled_12 rfl ⟨Nat.le_of_ble_eq_true rfl, Nat.le_of_ble_eq_true rfl⟩ (fun z => z)
  · have zq1 := z_X11_requireKind hq1
    rw [ht2] at zq1
    refine gx_callS (n := 1) (st := []) (As := [.int (gI v1)]) dX11_settled_1 zq1 rfl ⟨rfl, gw_cw_X11_requireKind, gw_1, gp_X11_requireKind, ⟨Nat.le_of_ble_eq_true rfl, Nat.le_of_ble_eq_true rfl⟩⟩ gw_971 gw_972 ⟨Nat.le_of_ble_eq_true rfl, Nat.le_of_ble_eq_true rfl⟩ (Nat.le_of_ble_eq_true rfl) gy_kN (gy_kE (kc2 := 1) (ks2 := 6) ⟨rfl, rfl⟩ ?_)
    cases e
    exact gx_out rfl ⟨Nat.le_of_ble_eq_true rfl, Nat.le_of_ble_eq_true rfl⟩ (fun z => z)
/-! L_settled  -/
set_option maxRecDepth 100000 in
def f_L_settled (n : Nat) (v0 : Nat) (v1 : Int) (h : gi_H) : Option (Int × gi_H) :=
  Option.bind (gi_is h v0 9) fun _ => Option.bind (f_X11_settled n v0 v1 h) fun q2 => gx_sm q2.1 (fun t3 => some (t3, q2.2)) (fun t3 => if t3 = gx_IOB then (some ((-101 : Int), q2.2)) else (none))
set_option maxRecDepth 100000 in
theorem z_L_settled {n : Nat} {v0 : Nat} {v1 : Int} {h : gi_H} {res : Int} {h1 : gi_H} (e : f_L_settled n v0 v1 h = some (res, h1)) : gx_Cw mL_settled false [.ref v0, .int (gI v1)] (gi_cv h) (.inl (some (.int (gI res)))) (gi_cv h1) := by
  refine gx_enter (by decide +kernel) rfl (Nat.le_of_ble_eq_true rfl) ?_
  show gx_Z mL_settled false false 0 0 0 [(0, .ref v0), (1, .int (gI v1))] [] (gi_cv h) (.inl (some (.int (gI res)))) (gi_cv h1)
  refine gx_aload_n dL_settled_0 rfl 0 rfl ?_
  refine gx_iload_n dL_settled_1 rfl 1 rfl ?_
  refine gx_bE e (fun _ hu1 e => ?_)
  refine gx_bE e (fun q2 hq2 e => ?_)
  refine gx_smE e (fun t3 ht3 e => ?_) (fun t3 ht3 e => ?_)
  · have zq2 := z_X11_settled hq2
    rw [ht3] at zq2
    refine gx_callV (n := 1) (st := []) (As := [.int (gI v1)]) (b := v0) dL_settled_2 zq2 rfl ⟨rfl, gw_cw_X11_settled, gw_1, gp_X11_settled, ⟨Nat.le_of_ble_eq_true rfl, Nat.le_of_ble_eq_true rfl⟩⟩ (gi_isS hu1) (by decide) gw_1144 gw_1145 gw_1146 rfl ⟨Nat.le_of_ble_eq_true rfl, Nat.le_of_ble_eq_true rfl⟩ (Nat.le_of_ble_eq_true rfl) (gy_k1 (x := .int (gI t3)) (kc2 := 1) (ks2 := 6) ⟨rfl, rfl⟩ ?_) gy_kn
    cases e
    exact gx_iret dL_settled_5 rfl ⟨Nat.le_of_ble_eq_true rfl, Nat.le_of_ble_eq_true rfl⟩ (fun z => z)
  · have zq2 := z_X11_settled hq2
    rw [ht3] at zq2
    refine gx_callV (n := 1) (st := []) (As := [.int (gI v1)]) (b := v0) dL_settled_2 zq2 rfl ⟨rfl, gw_cw_X11_settled, gw_1, gp_X11_settled, ⟨Nat.le_of_ble_eq_true rfl, Nat.le_of_ble_eq_true rfl⟩⟩ (gi_isS hu1) (by decide) gw_1144 gw_1145 gw_1146 rfl ⟨Nat.le_of_ble_eq_true rfl, Nat.le_of_ble_eq_true rfl⟩ (Nat.le_of_ble_eq_true rfl) gy_kN (gy_kE (kc2 := 1) (ks2 := 6) ⟨rfl, rfl⟩ ?_)
    refine gx_iE e (fun c4 e => ?_) (fun c4 e => ?_)
    · rw [c4]
      refine gx_catch (ls2 := [(0, .ref v0), (1, .int (gI v1))]) [] (x := (0, 5, 6, 33)) rfl (fun z hz => by cases hz) (by decide +kernel) (by decide) gw_866 (by decide +kernel) (Nat.le_of_ble_eq_true rfl) (Or.inl ⟨2, rfl, rfl, dL_settled_6⟩) rfl ?_
      refine gy_bipush dL_settled_7 gcb_m101 ?_
      cases e
      exact gx_iret dL_settled_9 rfl ⟨Nat.le_of_ble_eq_true rfl, Nat.le_of_ble_eq_true rfl⟩ (fun z => z)
    cases e
/-! X11_chosen  -/
set_option maxRecDepth 100000 in
def b_X11_chosen_35 (n : Nat) (r2 : Nat → Int → gi_H → Option (Int × gi_H)) (v0 : Nat) (v1 : Int)  (h : gi_H) : Option (Int × gi_H) :=
  gx_nm (v1 + (1 : Int)) fun t10 => r2 v0 t10 h
set_option maxRecDepth 100000 in
theorem zb_X11_chosen_35 {al : Bool} {n : Nat} {r2 : Nat → Int → gi_H → Option (Int × gi_H)} {res : Int} {h1 : gi_H} (hr2 : ∀ (x0 : Nat) (x1 : Int) (hh : gi_H), r2 x0 x1 hh = some (res, h1) → gx_Z mX11_chosen al al 0 0 2 [(0, .ref x0), (1, .int (gI x1))] [] (gi_cv hh) (.inl (some (.int (gI res)))) (gi_cv h1)) {v0 : Nat} {v1 : Int}  {h : gi_H} (e : b_X11_chosen_35 n r2 v0 v1 h = some (res, h1)) : gx_Z mX11_chosen al al 0 0 35 [(0, .ref v0), (1, .int (gI v1))] [] (gi_cv h) (.inl (some (.int (gI res)))) (gi_cv h1) := by
  refine gx_nE e (fun t10 ht10 e => ?_)
  refine gy_iinc (v := t10) (ls2 := [(1, .int (gI t10)), (0, .ref v0)]) dX11_chosen_35 1 rfl ht10 (Nat.le_of_ble_eq_true rfl) rfl ?_
  refine gx_goto (tgt := 2) dX11_chosen_38 (by decide) ?_
  refine gx_sub (ls2 := [(0, .ref v0), (1, .int (gI t10))]) [1, 0] rfl ?_
  exact hr2 _ _ _ e
set_option maxRecDepth 100000 in
def b_X11_chosen_2 (n : Nat) (r2 : Nat → Int → gi_H → Option (Int × gi_H)) (v0 : Nat) (v1 : Int)  (h : gi_H) : Option (Int × gi_H) :=
  Option.bind (gi_rg v1) fun _ => if (3 : Int) < v1 then (some ((-1 : Int), h)) else (Option.bind (gi_is h v0 9) fun _ => Option.bind (f_X11_table n v0 v1 h) fun q4 => if gi_S q4.2 q4.1 = (0, 4) then (Option.bind (gi_is q4.2 q4.1 4) fun _ => Option.bind (f_X5_extent n q4.1 q4.2) fun q7 => Option.bind (gi_rg q7) fun _ => if q7 = (-2 : Int) then (b_X11_chosen_35 n r2 v0 v1 q4.2) else (if gi_S q4.2 q4.1 = (0, 4) then (Option.bind (gi_is q4.2 q4.1 4) fun _ => Option.bind (f_X5_clashes n q4.1 q4.2) fun q13 => if gi_S q4.2 q4.1 = (0, 4) then (Option.bind (gi_is q4.2 q4.1 4) fun _ => Option.bind (f_X5_easedClashes q4.1 q4.2) fun q16 => Option.bind (gi_rg q13) fun _ => Option.bind (gi_rg q16) fun _ => if q13 = q16 then (some (v1, q4.2)) else (b_X11_chosen_35 n r2 v0 v1 q4.2)) else (Option.bind (gi_is q4.2 q4.1 8) fun _ => Option.bind (f_X9_easedClashes n q4.1 q4.2) fun q21 => Option.bind (gi_rg q13) fun _ => Option.bind (gi_rg q21.1) fun _ => if q13 = q21.1 then (some (v1, q21.2)) else (b_X11_chosen_35 n r2 v0 v1 q21.2))) else (Option.bind (gi_is q4.2 q4.1 8) fun _ => Option.bind (f_X9_clashes n q4.1 q4.2) fun q26 => if gi_S q26.2 q4.1 = (0, 4) then (Option.bind (gi_is q26.2 q4.1 4) fun _ => Option.bind (f_X5_easedClashes q4.1 q26.2) fun q29 => Option.bind (gi_rg q26.1) fun _ => Option.bind (gi_rg q29) fun _ => if q26.1 = q29 then (some (v1, q26.2)) else (b_X11_chosen_35 n r2 v0 v1 q26.2)) else (Option.bind (gi_is q26.2 q4.1 8) fun _ => Option.bind (f_X9_easedClashes n q4.1 q26.2) fun q34 => Option.bind (gi_rg q26.1) fun _ => Option.bind (gi_rg q34.1) fun _ => if q26.1 = q34.1 then (some (v1, q34.2)) else (b_X11_chosen_35 n r2 v0 v1 q34.2))))) else (Option.bind (gi_is q4.2 q4.1 8) fun _ => Option.bind (f_X9_extent q4.1 q4.2) fun q39 => Option.bind (gi_rg q39) fun _ => if q39 = (-2 : Int) then (b_X11_chosen_35 n r2 v0 v1 q4.2) else (if gi_S q4.2 q4.1 = (0, 4) then (Option.bind (gi_is q4.2 q4.1 4) fun _ => Option.bind (f_X5_clashes n q4.1 q4.2) fun q44 => if gi_S q4.2 q4.1 = (0, 4) then (Option.bind (gi_is q4.2 q4.1 4) fun _ => Option.bind (f_X5_easedClashes q4.1 q4.2) fun q47 => Option.bind (gi_rg q44) fun _ => Option.bind (gi_rg q47) fun _ => if q44 = q47 then (some (v1, q4.2)) else (b_X11_chosen_35 n r2 v0 v1 q4.2)) else (Option.bind (gi_is q4.2 q4.1 8) fun _ => Option.bind (f_X9_easedClashes n q4.1 q4.2) fun q52 => Option.bind (gi_rg q44) fun _ => Option.bind (gi_rg q52.1) fun _ => if q44 = q52.1 then (some (v1, q52.2)) else (b_X11_chosen_35 n r2 v0 v1 q52.2))) else (Option.bind (gi_is q4.2 q4.1 8) fun _ => Option.bind (f_X9_clashes n q4.1 q4.2) fun q57 => if gi_S q57.2 q4.1 = (0, 4) then (Option.bind (gi_is q57.2 q4.1 4) fun _ => Option.bind (f_X5_easedClashes q4.1 q57.2) fun q60 => Option.bind (gi_rg q57.1) fun _ => Option.bind (gi_rg q60) fun _ => if q57.1 = q60 then (some (v1, q57.2)) else (b_X11_chosen_35 n r2 v0 v1 q57.2)) else (Option.bind (gi_is q57.2 q4.1 8) fun _ => Option.bind (f_X9_easedClashes n q4.1 q57.2) fun q65 => Option.bind (gi_rg q57.1) fun _ => Option.bind (gi_rg q65.1) fun _ => if q57.1 = q65.1 then (some (v1, q65.2)) else (b_X11_chosen_35 n r2 v0 v1 q65.2))))))
set_option maxRecDepth 100000 in
theorem zb_X11_chosen_2 {al : Bool} {n : Nat} {r2 : Nat → Int → gi_H → Option (Int × gi_H)} {res : Int} {h1 : gi_H} (hr2 : ∀ (x0 : Nat) (x1 : Int) (hh : gi_H), r2 x0 x1 hh = some (res, h1) → gx_Z mX11_chosen al al 0 0 2 [(0, .ref x0), (1, .int (gI x1))] [] (gi_cv hh) (.inl (some (.int (gI res)))) (gi_cv h1)) {v0 : Nat} {v1 : Int}  {h : gi_H} (e : b_X11_chosen_2 n r2 v0 v1 h = some (res, h1)) : gx_Z mX11_chosen al al 0 0 2 [(0, .ref v0), (1, .int (gI v1))] [] (gi_cv h) (.inl (some (.int (gI res)))) (gi_cv h1) := by
  refine gx_iload_n dX11_chosen_2 rfl 1 rfl ?_
  refine gy_iconst dX11_chosen_3 ?_
  refine gx_bE e (fun _ g1 e => ?_)
  refine gx_iE e (fun c2 e => ?_) (fun c2 e => ?_)
  · refine gy_icmp_gt (tgt := 41) (gi_rgS g1) (by decide) dX11_chosen_4 (by decide) (fun _ => ?_) (fun z => absurd c2 z)
    refine gy_iconst dX11_chosen_41 ?_
    cases e
    exact gx_iret dX11_chosen_42 rfl ⟨Nat.le_of_ble_eq_true rfl, Nat.le_of_ble_eq_true rfl⟩ (fun z => z)
  · refine gy_icmp_gt (tgt := 41) (gi_rgS g1) (by decide) dX11_chosen_4 (by decide) (fun z => absurd z c2) (fun _ => ?_)
    refine gx_aload_n dX11_chosen_7 rfl 0 rfl ?_
    refine gx_iload_n dX11_chosen_8 rfl 1 rfl ?_
    refine gx_bE e (fun _ hu3 e => ?_)
    refine gx_bE e (fun q4 hq4 e => ?_)
    refine gx_callV (n := 1) (st := []) (As := [.int (gI v1)]) (b := v0) dX11_chosen_9 (z_X11_table hq4) rfl ⟨rfl, gw_cw_X11_table, gw_1, gp_X11_table, ⟨Nat.le_of_ble_eq_true rfl, Nat.le_of_ble_eq_true rfl⟩⟩ (gi_isS hu3) (by decide) gw_975 gw_977 gs_25 rfl ⟨Nat.le_of_ble_eq_true rfl, Nat.le_of_ble_eq_true rfl⟩ (Nat.le_of_ble_eq_true rfl) (gy_k1 (x := .ref q4.1) (kc2 := 0) (ks2 := 0) ⟨rfl, rfl⟩ ?_) gy_kn
    refine gx_astore_n (ls2 := [(2, .ref q4.1), (0, .ref v0), (1, .int (gI v1))]) dX11_chosen_12 rfl (Nat.le_of_ble_eq_true rfl) rfl ?_
    refine gx_aload_n dX11_chosen_13 rfl 0 rfl ?_
    refine gx_iE e (fun c5 e => ?_) (fun c5 e => ?_)
    · refine gx_bE e (fun _ hu6 e => ?_)
      refine gx_bE e (fun q7 hq7 e => ?_)
      refine gx_callA (n := 0) (st := []) (As := []) (b := q4.1) dX11_chosen_14 (z_X5_extent hq7) rfl ⟨rfl, gw_cw_X5_extent, gw_9, gp_X5_extent, ⟨Nat.le_of_ble_eq_true rfl, Nat.le_of_ble_eq_true rfl⟩⟩ (gi_isS hu6) (by decide) (x := ⟨"Grammarsmith$Table", "extent", "()I"⟩) (owner := "Grammarsmith$Table") gw_1043 gw_1045 gw_1046 gw_1047 (by decide +kernel) (by decide +kernel) ⟨Nat.le_of_ble_eq_true rfl, Nat.le_of_ble_eq_true rfl⟩ (Nat.le_of_ble_eq_true rfl) (gy_k1 (x := .int (gI q7)) (kc2 := 0) (ks2 := 0) ⟨rfl, rfl⟩ ?_) gy_kn
      refine gy_bipush dX11_chosen_17 gcb_m2 ?_
      refine gx_bE e (fun _ g8 e => ?_)
      refine gx_iE e (fun c9 e => ?_) (fun c9 e => ?_)
      · refine gy_icmp_eq (tgt := 35) (gi_rgS g8) (by decide) dX11_chosen_19 (by decide) (fun _ => ?_) (fun z => absurd c9 z)
        refine gx_sub (ls2 := [(0, .ref v0), (1, .int (gI v1))]) [1, 2] rfl ?_
        exact zb_X11_chosen_35 hr2 e
      · refine gy_icmp_eq (tgt := 35) (gi_rgS g8) (by decide) dX11_chosen_19 (by decide) (fun z => absurd z c9) (fun _ => ?_)
        refine gx_aload_n dX11_chosen_22 rfl 0 rfl ?_
        refine gx_iE e (fun c11 e => ?_) (fun c11 e => ?_)
        · refine gx_bE e (fun _ hu12 e => ?_)
          refine gx_bE e (fun q13 hq13 e => ?_)
          refine gx_callA (n := 0) (st := []) (As := []) (b := q4.1) dX11_chosen_23 (z_X5_clashes hq13) rfl ⟨rfl, gw_cw_X5_clashes, gw_9, gp_X5_clashes, ⟨Nat.le_of_ble_eq_true rfl, Nat.le_of_ble_eq_true rfl⟩⟩ (gi_isS hu12) (by decide) (x := ⟨"Grammarsmith$Table", "clashes", "()I"⟩) (owner := "Grammarsmith$Table") gw_1083 gw_1085 gw_1086 gw_1087 (by decide +kernel) (by decide +kernel) ⟨Nat.le_of_ble_eq_true rfl, Nat.le_of_ble_eq_true rfl⟩ (Nat.le_of_ble_eq_true rfl) (gy_k1 (x := .int (gI q13)) (kc2 := 0) (ks2 := 0) ⟨rfl, rfl⟩ ?_) gy_kn
          refine gx_aload_n dX11_chosen_26 rfl 0 rfl ?_
          refine gx_iE e (fun c14 e => ?_) (fun c14 e => ?_)
          · refine gx_bE e (fun _ hu15 e => ?_)
            refine gx_bE e (fun q16 hq16 e => ?_)
            refine gx_callA (n := 0) (st := [.int (gI q13)]) (As := []) (b := q4.1) dX11_chosen_27 (z_X5_easedClashes hq16) rfl ⟨rfl, gw_cw_X5_easedClashes, gw_9, gp_X5_easedClashes, ⟨Nat.le_of_ble_eq_true rfl, Nat.le_of_ble_eq_true rfl⟩⟩ (gi_isS hu15) (by decide) (x := ⟨"Grammarsmith$Table", "easedClashes", "()I"⟩) (owner := "Grammarsmith$Table") gw_1148 gw_1150 gw_1151 gw_1152 (by decide +kernel) (by decide +kernel) ⟨Nat.le_of_ble_eq_true rfl, Nat.le_of_ble_eq_true rfl⟩ (Nat.le_of_ble_eq_true rfl) (gy_k1 (x := .int (gI q16)) (kc2 := 0) (ks2 := 0) ⟨rfl, rfl⟩ ?_) gy_kn
            refine gx_bE e (fun _ g17 e => ?_)
            refine gx_bE e (fun _ g18 e => ?_)
            refine gx_iE e (fun c19 e => ?_) (fun c19 e => ?_)
            · refine gy_icmp_ne (tgt := 35) (gi_rgS g17) (gi_rgS g18) dX11_chosen_30 (by decide) (fun z => absurd c19 z) (fun _ => ?_)
              refine gx_iload_n dX11_chosen_33 rfl 2 rfl ?_
              cases e
              exact gx_iret dX11_chosen_34 rfl ⟨Nat.le_of_ble_eq_true rfl, Nat.le_of_ble_eq_true rfl⟩ (fun z => z)
            · refine gy_icmp_ne (tgt := 35) (gi_rgS g17) (gi_rgS g18) dX11_chosen_30 (by decide) (fun _ => ?_) (fun z => absurd z c19)
              refine gx_sub (ls2 := [(0, .ref v0), (1, .int (gI v1))]) [1, 2] rfl ?_
              exact zb_X11_chosen_35 hr2 e
          · refine gx_bE e (fun _ hu20 e => ?_)
            refine gx_bE e (fun q21 hq21 e => ?_)
            refine gx_callA (n := 0) (st := [.int (gI q13)]) (As := []) (b := q4.1) dX11_chosen_27 (z_X9_easedClashes hq21) rfl ⟨rfl, gw_cw_X9_easedClashes, gw_10, gp_X9_easedClashes, ⟨Nat.le_of_ble_eq_true rfl, Nat.le_of_ble_eq_true rfl⟩⟩ (gi_isS hu20) (by decide) (x := ⟨"Grammarsmith$Table", "easedClashes", "()I"⟩) (owner := "Grammarsmith$Table") gw_1148 gw_1150 gw_1154 gw_1155 (by decide +kernel) (by decide +kernel) ⟨Nat.le_of_ble_eq_true rfl, Nat.le_of_ble_eq_true rfl⟩ (Nat.le_of_ble_eq_true rfl) (gy_k1 (x := .int (gI q21.1)) (kc2 := 0) (ks2 := 0) ⟨rfl, rfl⟩ ?_) gy_kn
            refine gx_bE e (fun _ g22 e => ?_)
            refine gx_bE e (fun _ g23 e => ?_)
            refine gx_iE e (fun c24 e => ?_) (fun c24 e => ?_)
            · refine gy_icmp_ne (tgt := 35) (gi_rgS g22) (gi_rgS g23) dX11_chosen_30 (by decide) (fun z => absurd c24 z) (fun _ => ?_)
              refine gx_iload_n dX11_chosen_33 rfl 2 rfl ?_
              cases e
              exact gx_iret dX11_chosen_34 rfl ⟨Nat.le_of_ble_eq_true rfl, Nat.le_of_ble_eq_true rfl⟩ (fun z => z)
            · refine gy_icmp_ne (tgt := 35) (gi_rgS g22) (gi_rgS g23) dX11_chosen_30 (by decide) (fun _ => ?_) (fun z => absurd z c24)
              refine gx_sub (ls2 := [(0, .ref v0), (1, .int (gI v1))]) [1, 2] rfl ?_
              exact zb_X11_chosen_35 hr2 e
        · refine gx_bE e (fun _ hu25 e => ?_)
          refine gx_bE e (fun q26 hq26 e => ?_)
          refine gx_callA (n := 0) (st := []) (As := []) (b := q4.1) dX11_chosen_23 (z_X9_clashes hq26) rfl ⟨rfl, gw_cw_X9_clashes, gw_10, gp_X9_clashes, ⟨Nat.le_of_ble_eq_true rfl, Nat.le_of_ble_eq_true rfl⟩⟩ (gi_isS hu25) (by decide) (x := ⟨"Grammarsmith$Table", "clashes", "()I"⟩) (owner := "Grammarsmith$Table") gw_1083 gw_1085 gw_1089 gw_1090 (by decide +kernel) (by decide +kernel) ⟨Nat.le_of_ble_eq_true rfl, Nat.le_of_ble_eq_true rfl⟩ (Nat.le_of_ble_eq_true rfl) (gy_k1 (x := .int (gI q26.1)) (kc2 := 0) (ks2 := 0) ⟨rfl, rfl⟩ ?_) gy_kn
          refine gx_aload_n dX11_chosen_26 rfl 0 rfl ?_
          refine gx_iE e (fun c27 e => ?_) (fun c27 e => ?_)
          · refine gx_bE e (fun _ hu28 e => ?_)
            refine gx_bE e (fun q29 hq29 e => ?_)
            refine gx_callA (n := 0) (st := [.int (gI q26.1)]) (As := []) (b := q4.1) dX11_chosen_27 (z_X5_easedClashes hq29) rfl ⟨rfl, gw_cw_X5_easedClashes, gw_9, gp_X5_easedClashes, ⟨Nat.le_of_ble_eq_true rfl, Nat.le_of_ble_eq_true rfl⟩⟩ (gi_isS hu28) (by decide) (x := ⟨"Grammarsmith$Table", "easedClashes", "()I"⟩) (owner := "Grammarsmith$Table") gw_1148 gw_1150 gw_1151 gw_1152 (by decide +kernel) (by decide +kernel) ⟨Nat.le_of_ble_eq_true rfl, Nat.le_of_ble_eq_true rfl⟩ (Nat.le_of_ble_eq_true rfl) (gy_k1 (x := .int (gI q29)) (kc2 := 0) (ks2 := 0) ⟨rfl, rfl⟩ ?_) gy_kn
            refine gx_bE e (fun _ g30 e => ?_)
            refine gx_bE e (fun _ g31 e => ?_)
            refine gx_iE e (fun c32 e => ?_) (fun c32 e => ?_)
            · refine gy_icmp_ne (tgt := 35) (gi_rgS g30) (gi_rgS g31) dX11_chosen_30 (by decide) (fun z => absurd c32 z) (fun _ => ?_)
              refine gx_iload_n dX11_chosen_33 rfl 2 rfl ?_
              cases e
              exact gx_iret dX11_chosen_34 rfl ⟨Nat.le_of_ble_eq_true rfl, Nat.le_of_ble_eq_true rfl⟩ (fun z => z)
            · refine gy_icmp_ne (tgt := 35) (gi_rgS g30) (gi_rgS g31) dX11_chosen_30 (by decide) (fun _ => ?_) (fun z => absurd z c32)
              refine gx_sub (ls2 := [(0, .ref v0), (1, .int (gI v1))]) [1, 2] rfl ?_
              exact zb_X11_chosen_35 hr2 e
          · refine gx_bE e (fun _ hu33 e => ?_)
            refine gx_bE e (fun q34 hq34 e => ?_)
            refine gx_callA (n := 0) (st := [.int (gI q26.1)]) (As := []) (b := q4.1) dX11_chosen_27 (z_X9_easedClashes hq34) rfl ⟨rfl, gw_cw_X9_easedClashes, gw_10, gp_X9_easedClashes, ⟨Nat.le_of_ble_eq_true rfl, Nat.le_of_ble_eq_true rfl⟩⟩ (gi_isS hu33) (by decide) (x := ⟨"Grammarsmith$Table", "easedClashes", "()I"⟩) (owner := "Grammarsmith$Table") gw_1148 gw_1150 gw_1154 gw_1155 (by decide +kernel) (by decide +kernel) ⟨Nat.le_of_ble_eq_true rfl, Nat.le_of_ble_eq_true rfl⟩ (Nat.le_of_ble_eq_true rfl) (gy_k1 (x := .int (gI q34.1)) (kc2 := 0) (ks2 := 0) ⟨rfl, rfl⟩ ?_) gy_kn
            refine gx_bE e (fun _ g35 e => ?_)
            refine gx_bE e (fun _ g36 e => ?_)
            refine gx_iE e (fun c37 e => ?_) (fun c37 e => ?_)
            · refine gy_icmp_ne (tgt := 35) (gi_rgS g35) (gi_rgS g36) dX11_chosen_30 (by decide) (fun z => absurd c37 z) (fun _ => ?_)
              refine gx_iload_n dX11_chosen_33 rfl 2 rfl ?_
              cases e
              exact gx_iret dX11_chosen_34 rfl ⟨Nat.le_of_ble_eq_true rfl, Nat.le_of_ble_eq_true rfl⟩ (fun z => z)
            · refine gy_icmp_ne (tgt := 35) (gi_rgS g35) (gi_rgS g36) dX11_chosen_30 (by decide) (fun _ => ?_) (fun z => absurd z c37)
              refine gx_sub (ls2 := [(0, .ref v0), (1, .int (gI v1))]) [1, 2] rfl ?_
              exact zb_X11_chosen_35 hr2 e
    · refine gx_bE e (fun _ hu38 e => ?_)
      refine gx_bE e (fun q39 hq39 e => ?_)
      refine gx_callA (n := 0) (st := []) (As := []) (b := q4.1) dX11_chosen_14 (z_X9_extent hq39) rfl ⟨rfl, gw_cw_X9_extent, gw_10, gp_X9_extent, ⟨Nat.le_of_ble_eq_true rfl, Nat.le_of_ble_eq_true rfl⟩⟩ (gi_isS hu38) (by decide) (x := ⟨"Grammarsmith$Table", "extent", "()I"⟩) (owner := "Grammarsmith$Table") gw_1043 gw_1045 gw_1069 gw_1070 (by decide +kernel) (by decide +kernel) ⟨Nat.le_of_ble_eq_true rfl, Nat.le_of_ble_eq_true rfl⟩ (Nat.le_of_ble_eq_true rfl) (gy_k1 (x := .int (gI q39)) (kc2 := 0) (ks2 := 0) ⟨rfl, rfl⟩ ?_) gy_kn
      refine gy_bipush dX11_chosen_17 gcb_m2 ?_
      refine gx_bE e (fun _ g40 e => ?_)
      refine gx_iE e (fun c41 e => ?_) (fun c41 e => ?_)
      · refine gy_icmp_eq (tgt := 35) (gi_rgS g40) (by decide) dX11_chosen_19 (by decide) (fun _ => ?_) (fun z => absurd c41 z)
        refine gx_sub (ls2 := [(0, .ref v0), (1, .int (gI v1))]) [1, 2] rfl ?_
        exact zb_X11_chosen_35 hr2 e
      · refine gy_icmp_eq (tgt := 35) (gi_rgS g40) (by decide) dX11_chosen_19 (by decide) (fun z => absurd z c41) (fun _ => ?_)
        refine gx_aload_n dX11_chosen_22 rfl 0 rfl ?_
        refine gx_iE e (fun c42 e => ?_) (fun c42 e => ?_)
        · refine gx_bE e (fun _ hu43 e => ?_)
          refine gx_bE e (fun q44 hq44 e => ?_)
          refine gx_callA (n := 0) (st := []) (As := []) (b := q4.1) dX11_chosen_23 (z_X5_clashes hq44) rfl ⟨rfl, gw_cw_X5_clashes, gw_9, gp_X5_clashes, ⟨Nat.le_of_ble_eq_true rfl, Nat.le_of_ble_eq_true rfl⟩⟩ (gi_isS hu43) (by decide) (x := ⟨"Grammarsmith$Table", "clashes", "()I"⟩) (owner := "Grammarsmith$Table") gw_1083 gw_1085 gw_1086 gw_1087 (by decide +kernel) (by decide +kernel) ⟨Nat.le_of_ble_eq_true rfl, Nat.le_of_ble_eq_true rfl⟩ (Nat.le_of_ble_eq_true rfl) (gy_k1 (x := .int (gI q44)) (kc2 := 0) (ks2 := 0) ⟨rfl, rfl⟩ ?_) gy_kn
          refine gx_aload_n dX11_chosen_26 rfl 0 rfl ?_
          refine gx_iE e (fun c45 e => ?_) (fun c45 e => ?_)
          · refine gx_bE e (fun _ hu46 e => ?_)
            refine gx_bE e (fun q47 hq47 e => ?_)
            refine gx_callA (n := 0) (st := [.int (gI q44)]) (As := []) (b := q4.1) dX11_chosen_27 (z_X5_easedClashes hq47) rfl ⟨rfl, gw_cw_X5_easedClashes, gw_9, gp_X5_easedClashes, ⟨Nat.le_of_ble_eq_true rfl, Nat.le_of_ble_eq_true rfl⟩⟩ (gi_isS hu46) (by decide) (x := ⟨"Grammarsmith$Table", "easedClashes", "()I"⟩) (owner := "Grammarsmith$Table") gw_1148 gw_1150 gw_1151 gw_1152 (by decide +kernel) (by decide +kernel) ⟨Nat.le_of_ble_eq_true rfl, Nat.le_of_ble_eq_true rfl⟩ (Nat.le_of_ble_eq_true rfl) (gy_k1 (x := .int (gI q47)) (kc2 := 0) (ks2 := 0) ⟨rfl, rfl⟩ ?_) gy_kn
            refine gx_bE e (fun _ g48 e => ?_)
            refine gx_bE e (fun _ g49 e => ?_)
            refine gx_iE e (fun c50 e => ?_) (fun c50 e => ?_)
            · refine gy_icmp_ne (tgt := 35) (gi_rgS g48) (gi_rgS g49) dX11_chosen_30 (by decide) (fun z => absurd c50 z) (fun _ => ?_)
              refine gx_iload_n dX11_chosen_33 rfl 2 rfl ?_
              cases e
              exact gx_iret dX11_chosen_34 rfl ⟨Nat.le_of_ble_eq_true rfl, Nat.le_of_ble_eq_true rfl⟩ (fun z => z)
            · refine gy_icmp_ne (tgt := 35) (gi_rgS g48) (gi_rgS g49) dX11_chosen_30 (by decide) (fun _ => ?_) (fun z => absurd z c50)
              refine gx_sub (ls2 := [(0, .ref v0), (1, .int (gI v1))]) [1, 2] rfl ?_
              exact zb_X11_chosen_35 hr2 e
          · refine gx_bE e (fun _ hu51 e => ?_)
            refine gx_bE e (fun q52 hq52 e => ?_)
            refine gx_callA (n := 0) (st := [.int (gI q44)]) (As := []) (b := q4.1) dX11_chosen_27 (z_X9_easedClashes hq52) rfl ⟨rfl, gw_cw_X9_easedClashes, gw_10, gp_X9_easedClashes, ⟨Nat.le_of_ble_eq_true rfl, Nat.le_of_ble_eq_true rfl⟩⟩ (gi_isS hu51) (by decide) (x := ⟨"Grammarsmith$Table", "easedClashes", "()I"⟩) (owner := "Grammarsmith$Table") gw_1148 gw_1150 gw_1154 gw_1155 (by decide +kernel) (by decide +kernel) ⟨Nat.le_of_ble_eq_true rfl, Nat.le_of_ble_eq_true rfl⟩ (Nat.le_of_ble_eq_true rfl) (gy_k1 (x := .int (gI q52.1)) (kc2 := 0) (ks2 := 0) ⟨rfl, rfl⟩ ?_) gy_kn
            refine gx_bE e (fun _ g53 e => ?_)
            refine gx_bE e (fun _ g54 e => ?_)
            refine gx_iE e (fun c55 e => ?_) (fun c55 e => ?_)
            · refine gy_icmp_ne (tgt := 35) (gi_rgS g53) (gi_rgS g54) dX11_chosen_30 (by decide) (fun z => absurd c55 z) (fun _ => ?_)
              refine gx_iload_n dX11_chosen_33 rfl 2 rfl ?_
              cases e
              exact gx_iret dX11_chosen_34 rfl ⟨Nat.le_of_ble_eq_true rfl, Nat.le_of_ble_eq_true rfl⟩ (fun z => z)
            · refine gy_icmp_ne (tgt := 35) (gi_rgS g53) (gi_rgS g54) dX11_chosen_30 (by decide) (fun _ => ?_) (fun z => absurd z c55)
              refine gx_sub (ls2 := [(0, .ref v0), (1, .int (gI v1))]) [1, 2] rfl ?_
              exact zb_X11_chosen_35 hr2 e
        · refine gx_bE e (fun _ hu56 e => ?_)
          refine gx_bE e (fun q57 hq57 e => ?_)
          refine gx_callA (n := 0) (st := []) (As := []) (b := q4.1) dX11_chosen_23 (z_X9_clashes hq57) rfl ⟨rfl, gw_cw_X9_clashes, gw_10, gp_X9_clashes, ⟨Nat.le_of_ble_eq_true rfl, Nat.le_of_ble_eq_true rfl⟩⟩ (gi_isS hu56) (by decide) (x := ⟨"Grammarsmith$Table", "clashes", "()I"⟩) (owner := "Grammarsmith$Table") gw_1083 gw_1085 gw_1089 gw_1090 (by decide +kernel) (by decide +kernel) ⟨Nat.le_of_ble_eq_true rfl, Nat.le_of_ble_eq_true rfl⟩ (Nat.le_of_ble_eq_true rfl) (gy_k1 (x := .int (gI q57.1)) (kc2 := 0) (ks2 := 0) ⟨rfl, rfl⟩ ?_) gy_kn
          refine gx_aload_n dX11_chosen_26 rfl 0 rfl ?_
          refine gx_iE e (fun c58 e => ?_) (fun c58 e => ?_)
          · refine gx_bE e (fun _ hu59 e => ?_)
            refine gx_bE e (fun q60 hq60 e => ?_)
            refine gx_callA (n := 0) (st := [.int (gI q57.1)]) (As := []) (b := q4.1) dX11_chosen_27 (z_X5_easedClashes hq60) rfl ⟨rfl, gw_cw_X5_easedClashes, gw_9, gp_X5_easedClashes, ⟨Nat.le_of_ble_eq_true rfl, Nat.le_of_ble_eq_true rfl⟩⟩ (gi_isS hu59) (by decide) (x := ⟨"Grammarsmith$Table", "easedClashes", "()I"⟩) (owner := "Grammarsmith$Table") gw_1148 gw_1150 gw_1151 gw_1152 (by decide +kernel) (by decide +kernel) ⟨Nat.le_of_ble_eq_true rfl, Nat.le_of_ble_eq_true rfl⟩ (Nat.le_of_ble_eq_true rfl) (gy_k1 (x := .int (gI q60)) (kc2 := 0) (ks2 := 0) ⟨rfl, rfl⟩ ?_) gy_kn
            refine gx_bE e (fun _ g61 e => ?_)
            refine gx_bE e (fun _ g62 e => ?_)
            refine gx_iE e (fun c63 e => ?_) (fun c63 e => ?_)
            · refine gy_icmp_ne (tgt := 35) (gi_rgS g61) (gi_rgS g62) dX11_chosen_30 (by decide) (fun z => absurd c63 z) (fun _ => ?_)
              refine gx_iload_n dX11_chosen_33 rfl 2 rfl ?_
              cases e
              exact gx_iret dX11_chosen_34 rfl ⟨Nat.le_of_ble_eq_true rfl, Nat.le_of_ble_eq_true rfl⟩ (fun z => z)
            · refine gy_icmp_ne (tgt := 35) (gi_rgS g61) (gi_rgS g62) dX11_chosen_30 (by decide) (fun _ => ?_) (fun z => absurd z c63)
              refine gx_sub (ls2 := [(0, .ref v0), (1, .int (gI v1))]) [1, 2] rfl ?_
              exact zb_X11_chosen_35 hr2 e
          · refine gx_bE e (fun _ hu64 e => ?_)
            refine gx_bE e (fun q65 hq65 e => ?_)
            refine gx_callA (n := 0) (st := [.int (gI q57.1)]) (As := []) (b := q4.1) dX11_chosen_27 (z_X9_easedClashes hq65) rfl ⟨rfl, gw_cw_X9_easedClashes, gw_10, gp_X9_easedClashes, ⟨Nat.le_of_ble_eq_true rfl, Nat.le_of_ble_eq_true rfl⟩⟩ (gi_isS hu64) (by decide) (x := ⟨"Grammarsmith$Table", "easedClashes", "()I"⟩) (owner := "Grammarsmith$Table") gw_1148 gw_1150 gw_1154 gw_1155 (by decide +kernel) (by decide +kernel) ⟨Nat.le_of_ble_eq_true rfl, Nat.le_of_ble_eq_true rfl⟩ (Nat.le_of_ble_eq_true rfl) (gy_k1 (x := .int (gI q65.1)) (kc2 := 0) (ks2 := 0) ⟨rfl, rfl⟩ ?_) gy_kn
            refine gx_bE e (fun _ g66 e => ?_)
            refine gx_bE e (fun _ g67 e => ?_)
            refine gx_iE e (fun c68 e => ?_) (fun c68 e => ?_)
            · refine gy_icmp_ne (tgt := 35) (gi_rgS g66) (gi_rgS g67) dX11_chosen_30 (by decide) (fun z => absurd c68 z) (fun _ => ?_)
              refine gx_iload_n dX11_chosen_33 rfl 2 rfl ?_
              cases e
              exact gx_iret dX11_chosen_34 rfl ⟨Nat.le_of_ble_eq_true rfl, Nat.le_of_ble_eq_true rfl⟩ (fun z => z)
            · refine gy_icmp_ne (tgt := 35) (gi_rgS g66) (gi_rgS g67) dX11_chosen_30 (by decide) (fun _ => ?_) (fun z => absurd z c68)
              refine gx_sub (ls2 := [(0, .ref v0), (1, .int (gI v1))]) [1, 2] rfl ?_
              exact zb_X11_chosen_35 hr2 e
def l_X11_chosen_2 (n : Nat)  : Nat → Nat → Int → gi_H → Option (Int × gi_H)
  | 0, _, _, _ => none
  | k + 1, v0, v1, h => b_X11_chosen_2 n  (l_X11_chosen_2 n  k) v0 v1 h
theorem zl_X11_chosen_2 {al : Bool} {n : Nat}  {res : Int} {h1 : gi_H}  : ∀ (k : Nat) (v0 : Nat) (v1 : Int) (h : gi_H), l_X11_chosen_2 n  k v0 v1 h = some (res, h1) → gx_Z mX11_chosen al al 0 0 2 [(0, .ref v0), (1, .int (gI v1))] [] (gi_cv h) (.inl (some (.int (gI res)))) (gi_cv h1)
  | 0, _, _, _, e => gx_0E e
  | k + 1, _, _, _, e => zb_X11_chosen_2 (n := n)  (zl_X11_chosen_2  k) e
set_option maxRecDepth 100000 in
def f_X11_chosen (n : Nat) (v0 : Nat) (h : gi_H) : Option (Int × gi_H) :=
  l_X11_chosen_2 n  n v0 (0 : Int) h
set_option maxRecDepth 100000 in
theorem z_X11_chosen {al : Bool} {n : Nat} {v0 : Nat} {h : gi_H} {res : Int} {h1 : gi_H} (e : f_X11_chosen n v0 h = some (res, h1)) : gx_Cw mX11_chosen al [.ref v0] (gi_cv h) (.inl (some (.int (gI res)))) (gi_cv h1) := by
  refine gx_enter (by decide +kernel) rfl (Nat.le_of_ble_eq_true rfl) ?_
  show gx_Z mX11_chosen al al 0 0 0 [(0, .ref v0)] [] (gi_cv h) (.inl (some (.int (gI res)))) (gi_cv h1)
  refine gy_iconst dX11_chosen_0 ?_
  refine gx_istore_n (ls2 := [(1, .int (gI (0 : Int))), (0, .ref v0)]) dX11_chosen_1 rfl (Nat.le_of_ble_eq_true rfl) rfl ?_
  refine gx_sub (ls2 := [(0, .ref v0), (1, .int (gI (0 : Int)))]) [1, 0] rfl ?_
  exact zl_X11_chosen_2  n _ _ _ e
/-! L_tables  -/
set_option maxRecDepth 100000 in
def b_L_tables_306 (n : Nat)    (h : gi_H) : Option (Int × gi_H) :=
  some ((0 : Int), h)
set_option maxRecDepth 100000 in
theorem zb_L_tables_306 {n : Nat}  {res : Int} {h1 : gi_H}    {h : gi_H} (e : b_L_tables_306 n  h = some (res, h1)) : gx_Z mL_tables false false 63 378 306 [] [] (gi_cv h) (.inl (some (.int (gI res)))) (gi_cv h1) := by
  refine gy_iconst dL_tables_306 ?_
  cases e
  exact gx_zret (by decide +kernel) dL_tables_307 rfl ⟨Nat.le_of_ble_eq_true rfl, Nat.le_of_ble_eq_true rfl⟩ (fun z => z)
set_option maxRecDepth 100000 in
def b_L_tables_302 (n : Nat)    (h : gi_H) : Option (Int × gi_H) :=
  some ((1 : Int), h)
set_option maxRecDepth 100000 in
theorem zb_L_tables_302 {n : Nat}  {res : Int} {h1 : gi_H}    {h : gi_H} (e : b_L_tables_302 n  h = some (res, h1)) : gx_Z mL_tables false false 63 378 302 [] [] (gi_cv h) (.inl (some (.int (gI res)))) (gi_cv h1) := by
  refine gy_iconst dL_tables_302 ?_
  refine gx_goto (tgt := 307) dL_tables_303 (by decide) ?_
  cases e
  exact gx_zret (by decide +kernel) dL_tables_307 rfl ⟨Nat.le_of_ble_eq_true rfl, Nat.le_of_ble_eq_true rfl⟩ (fun z => z)
set_option maxRecDepth 100000 in
def b_L_tables_288 (n : Nat)  (v3 : Int) (v8 : Int) (v9 : Int)  (h : gi_H) : Option (Int × gi_H) :=
  Option.bind (gi_rg v8) fun _ => if v8 = 0 then (b_L_tables_302 n   h) else (Option.bind (gi_rg v9) fun _ => if v9 = 0 then (Option.bind (gi_rg v3) fun _ => if 0 ≤ v3 then (b_L_tables_306 n   h) else (b_L_tables_302 n   h)) else (b_L_tables_302 n   h))
set_option maxRecDepth 100000 in
theorem zb_L_tables_288 {n : Nat}  {res : Int} {h1 : gi_H}  {v3 : Int} {v8 : Int} {v9 : Int}  {h : gi_H} (e : b_L_tables_288 n v3 v8 v9 h = some (res, h1)) : gx_Z mL_tables false false 63 378 288 [(3, .int (gI v3)), (8, .int (gI v8)), (9, .int (gI v9))] [] (gi_cv h) (.inl (some (.int (gI res)))) (gi_cv h1) := by
  refine gx_iload dL_tables_288 1 rfl ?_
  refine gx_bE e (fun _ g25 e => ?_)
  refine gx_iE e (fun c26 e => ?_) (fun c26 e => ?_)
  · refine gy_if_eq (tgt := 302) (gi_rgS g25) dL_tables_290 (by decide) (fun _ => ?_) (fun z => absurd c26 z)
    refine gx_sub (ls2 := []) [] rfl ?_
    exact zb_L_tables_302  e
  · refine gy_if_eq (tgt := 302) (gi_rgS g25) dL_tables_290 (by decide) (fun z => absurd z c26) (fun _ => ?_)
    refine gx_iload dL_tables_293 2 rfl ?_
    refine gx_bE e (fun _ g27 e => ?_)
    refine gx_iE e (fun c28 e => ?_) (fun c28 e => ?_)
    · refine gy_if_ne (tgt := 302) (gi_rgS g27) dL_tables_295 (by decide) (fun z => absurd c28 z) (fun _ => ?_)
      refine gx_iload_n dL_tables_298 rfl 0 rfl ?_
      refine gx_bE e (fun _ g29 e => ?_)
      refine gx_iE e (fun c30 e => ?_) (fun c30 e => ?_)
      · refine gy_if_ge (tgt := 306) (gi_rgS g29) dL_tables_299 (by decide) (fun _ => ?_) (fun z => absurd c30 z)
        refine gx_sub (ls2 := []) [] rfl ?_
        exact zb_L_tables_306  e
      · refine gy_if_ge (tgt := 306) (gi_rgS g29) dL_tables_299 (by decide) (fun z => absurd z c30) (fun _ => ?_)
        refine gx_sub (ls2 := []) [] rfl ?_
        exact zb_L_tables_302  e
    · refine gy_if_ne (tgt := 302) (gi_rgS g27) dL_tables_295 (by decide) (fun _ => ?_) (fun z => absurd z c28)
      refine gx_sub (ls2 := []) [] rfl ?_
      exact zb_L_tables_302  e
set_option maxRecDepth 100000 in
def b_L_tables_262 (n : Nat)  (v0 : Nat) (v3 : Int) (v4 : Int) (v5 : Int) (v7 : Int) (v8 : Int) (s0 : Int) (h : gi_H) : Option (Int × gi_H) :=
  Option.bind (gi_rg v4) fun _ => if v4 = 0 then (b_L_tables_306 n   h) else (Option.bind (gi_is h v0 9) fun _ => Option.bind (f_X11_chosen n v0 h) fun q19 => Option.bind (gi_rg q19.1) fun _ => Option.bind (gi_rg v5) fun _ => if q19.1 = v5 then (Option.bind (gi_rg v7) fun _ => if v7 = 0 then (b_L_tables_288 n  v3 v8 s0 q19.2) else (Option.bind (gi_rg v8) fun _ => if v8 = 0 then (b_L_tables_306 n   q19.2) else (b_L_tables_288 n  v3 v8 s0 q19.2))) else (b_L_tables_306 n   q19.2))
set_option maxRecDepth 100000 in
theorem zb_L_tables_262 {n : Nat}  {res : Int} {h1 : gi_H}  {v0 : Nat} {v3 : Int} {v4 : Int} {v5 : Int} {v7 : Int} {v8 : Int} {s0 : Int} {h : gi_H} (e : b_L_tables_262 n v0 v3 v4 v5 v7 v8 s0 h = some (res, h1)) : gx_Z mL_tables false false 63 378 262 [(0, .ref v0), (3, .int (gI v3)), (4, .int (gI v4)), (5, .int (gI v5)), (7, .int (gI v7)), (8, .int (gI v8))] [.int (gI s0)] (gi_cv h) (.inl (some (.int (gI res)))) (gi_cv h1) := by
  refine gx_istore (ls2 := [(9, .int (gI s0)), (0, .ref v0), (3, .int (gI v3)), (4, .int (gI v4)), (5, .int (gI v5)), (7, .int (gI v7)), (8, .int (gI v8))]) dL_tables_262 (Nat.le_of_ble_eq_true rfl) rfl ?_
  refine gx_iload dL_tables_264 3 rfl ?_
  refine gx_bE e (fun _ g16 e => ?_)
  refine gx_iE e (fun c17 e => ?_) (fun c17 e => ?_)
  · refine gy_if_eq (tgt := 306) (gi_rgS g16) dL_tables_266 (by decide) (fun _ => ?_) (fun z => absurd c17 z)
    refine gx_sub (ls2 := []) [] rfl ?_
    exact zb_L_tables_306  e
  · refine gy_if_eq (tgt := 306) (gi_rgS g16) dL_tables_266 (by decide) (fun z => absurd z c17) (fun _ => ?_)
    refine gx_aload_n dL_tables_269 rfl 1 rfl ?_
    refine gx_bE e (fun _ hu18 e => ?_)
    refine gx_bE e (fun q19 hq19 e => ?_)
    refine gx_callV (n := 0) (st := []) (As := []) (b := v0) dL_tables_270 (z_X11_chosen hq19) rfl ⟨rfl, gw_cw_X11_chosen, gw_1, gp_X11_chosen, ⟨Nat.le_of_ble_eq_true rfl, Nat.le_of_ble_eq_true rfl⟩⟩ (gi_isS hu18) (by decide) gw_1157 gw_1158 gw_1159 rfl ⟨Nat.le_of_ble_eq_true rfl, Nat.le_of_ble_eq_true rfl⟩ (Nat.le_of_ble_eq_true rfl) (gy_k1 (x := .int (gI q19.1)) (kc2 := 63) (ks2 := 378) ⟨rfl, rfl⟩ ?_) gy_kn
    refine gx_iload dL_tables_273 4 rfl ?_
    refine gx_bE e (fun _ g20 e => ?_)
    refine gx_bE e (fun _ g21 e => ?_)
    refine gx_iE e (fun c22 e => ?_) (fun c22 e => ?_)
    · refine gy_icmp_ne (tgt := 306) (gi_rgS g20) (gi_rgS g21) dL_tables_275 (by decide) (fun z => absurd c22 z) (fun _ => ?_)
      refine gx_iload dL_tables_278 5 rfl ?_
      refine gx_bE e (fun _ g23 e => ?_)
      refine gx_iE e (fun c24 e => ?_) (fun c24 e => ?_)
      · refine gy_if_eq (tgt := 288) (gi_rgS g23) dL_tables_280 (by decide) (fun _ => ?_) (fun z => absurd c24 z)
        refine gx_sub (ls2 := [(3, .int (gI v3)), (8, .int (gI v8)), (9, .int (gI s0))]) [2, 6, 0] rfl ?_
        exact zb_L_tables_288  e
      · refine gy_if_eq (tgt := 288) (gi_rgS g23) dL_tables_280 (by decide) (fun z => absurd z c24) (fun _ => ?_)
        refine gx_iload dL_tables_283 6 rfl ?_
        refine gx_bE e (fun _ g31 e => ?_)
        refine gx_iE e (fun c32 e => ?_) (fun c32 e => ?_)
        · refine gy_if_eq (tgt := 306) (gi_rgS g31) dL_tables_285 (by decide) (fun _ => ?_) (fun z => absurd c32 z)
          refine gx_sub (ls2 := []) [] rfl ?_
          exact zb_L_tables_306  e
        · refine gy_if_eq (tgt := 306) (gi_rgS g31) dL_tables_285 (by decide) (fun z => absurd z c32) (fun _ => ?_)
          refine gx_sub (ls2 := [(3, .int (gI v3)), (8, .int (gI v8)), (9, .int (gI s0))]) [2, 6, 0] rfl ?_
          exact zb_L_tables_288  e
    · refine gy_icmp_ne (tgt := 306) (gi_rgS g20) (gi_rgS g21) dL_tables_275 (by decide) (fun _ => ?_) (fun z => absurd z c22)
      refine gx_sub (ls2 := []) [] rfl ?_
      exact zb_L_tables_306  e
set_option maxRecDepth 100000 in
def b_L_tables_245 (n : Nat)  (v0 : Nat) (v3 : Int) (v4 : Int) (v5 : Int) (v6 : Int) (v7 : Int) (s0 : Int) (h : gi_H) : Option (Int × gi_H) :=
  Option.bind (gi_rg (gi_and (gi_shr v6 (3 : Int)) (1 : Int))) fun _ => if (gi_and (gi_shr v6 (3 : Int)) (1 : Int)) = (1 : Int) then (b_L_tables_262 n  v0 v3 v4 v5 v7 s0 (1 : Int) h) else (b_L_tables_262 n  v0 v3 v4 v5 v7 s0 (0 : Int) h)
set_option maxRecDepth 100000 in
theorem zb_L_tables_245 {n : Nat}  {res : Int} {h1 : gi_H}  {v0 : Nat} {v3 : Int} {v4 : Int} {v5 : Int} {v6 : Int} {v7 : Int} {s0 : Int} {h : gi_H} (e : b_L_tables_245 n v0 v3 v4 v5 v6 v7 s0 h = some (res, h1)) : gx_Z mL_tables false false 63 378 245 [(0, .ref v0), (3, .int (gI v3)), (4, .int (gI v4)), (5, .int (gI v5)), (6, .int (gI v6)), (7, .int (gI v7))] [.int (gI s0)] (gi_cv h) (.inl (some (.int (gI res)))) (gi_cv h1) := by
  refine gx_istore (ls2 := [(8, .int (gI s0)), (0, .ref v0), (3, .int (gI v3)), (4, .int (gI v4)), (5, .int (gI v5)), (6, .int (gI v6)), (7, .int (gI v7))]) dL_tables_245 (Nat.le_of_ble_eq_true rfl) rfl ?_
  refine gx_iload dL_tables_247 5 rfl ?_
  refine gy_iconst dL_tables_249 ?_
  refine gy_ishr dL_tables_250 ?_
  refine gy_iconst dL_tables_251 ?_
  refine gy_iand dL_tables_252 ?_
  refine gy_iconst dL_tables_253 ?_
  refine gx_bE e (fun _ g14 e => ?_)
  refine gx_iE e (fun c15 e => ?_) (fun c15 e => ?_)
  · refine gy_icmp_ne (tgt := 261) (gi_rgS g14) (by decide) dL_tables_254 (by decide) (fun z => absurd c15 z) (fun _ => ?_)
    refine gy_iconst dL_tables_257 ?_
    refine gx_goto (tgt := 262) dL_tables_258 (by decide) ?_
    refine gx_sub (ls2 := [(0, .ref v0), (3, .int (gI v3)), (4, .int (gI v4)), (5, .int (gI v5)), (7, .int (gI v7)), (8, .int (gI s0))]) [1, 2, 3, 4, 6, 0] rfl ?_
    exact zb_L_tables_262  e
  · refine gy_icmp_ne (tgt := 261) (gi_rgS g14) (by decide) dL_tables_254 (by decide) (fun _ => ?_) (fun z => absurd z c15)
    refine gy_iconst dL_tables_261 ?_
    refine gx_sub (ls2 := [(0, .ref v0), (3, .int (gI v3)), (4, .int (gI v4)), (5, .int (gI v5)), (7, .int (gI v7)), (8, .int (gI s0))]) [1, 2, 3, 4, 6, 0] rfl ?_
    exact zb_L_tables_262  e
set_option maxRecDepth 100000 in
def b_L_tables_228 (n : Nat)  (v0 : Nat) (v3 : Int) (v4 : Int) (v5 : Int) (v6 : Int) (s0 : Int) (h : gi_H) : Option (Int × gi_H) :=
  Option.bind (gi_rg (gi_and (gi_shr v6 (2 : Int)) (1 : Int))) fun _ => if (gi_and (gi_shr v6 (2 : Int)) (1 : Int)) = (1 : Int) then (b_L_tables_245 n  v0 v3 v4 v5 v6 s0 (1 : Int) h) else (b_L_tables_245 n  v0 v3 v4 v5 v6 s0 (0 : Int) h)
set_option maxRecDepth 100000 in
theorem zb_L_tables_228 {n : Nat}  {res : Int} {h1 : gi_H}  {v0 : Nat} {v3 : Int} {v4 : Int} {v5 : Int} {v6 : Int} {s0 : Int} {h : gi_H} (e : b_L_tables_228 n v0 v3 v4 v5 v6 s0 h = some (res, h1)) : gx_Z mL_tables false false 63 378 228 [(0, .ref v0), (3, .int (gI v3)), (4, .int (gI v4)), (5, .int (gI v5)), (6, .int (gI v6))] [.int (gI s0)] (gi_cv h) (.inl (some (.int (gI res)))) (gi_cv h1) := by
  refine gx_istore (ls2 := [(7, .int (gI s0)), (0, .ref v0), (3, .int (gI v3)), (4, .int (gI v4)), (5, .int (gI v5)), (6, .int (gI v6))]) dL_tables_228 (Nat.le_of_ble_eq_true rfl) rfl ?_
  refine gx_iload dL_tables_230 5 rfl ?_
  refine gy_iconst dL_tables_232 ?_
  refine gy_ishr dL_tables_233 ?_
  refine gy_iconst dL_tables_234 ?_
  refine gy_iand dL_tables_235 ?_
  refine gy_iconst dL_tables_236 ?_
  refine gx_bE e (fun _ g12 e => ?_)
  refine gx_iE e (fun c13 e => ?_) (fun c13 e => ?_)
  · refine gy_icmp_ne (tgt := 244) (gi_rgS g12) (by decide) dL_tables_237 (by decide) (fun z => absurd c13 z) (fun _ => ?_)
    refine gy_iconst dL_tables_240 ?_
    refine gx_goto (tgt := 245) dL_tables_241 (by decide) ?_
    refine gx_sub (ls2 := [(0, .ref v0), (3, .int (gI v3)), (4, .int (gI v4)), (5, .int (gI v5)), (6, .int (gI v6)), (7, .int (gI s0))]) [1, 2, 3, 4, 5, 0] rfl ?_
    exact zb_L_tables_245  e
  · refine gy_icmp_ne (tgt := 244) (gi_rgS g12) (by decide) dL_tables_237 (by decide) (fun _ => ?_) (fun z => absurd z c13)
    refine gy_iconst dL_tables_244 ?_
    refine gx_sub (ls2 := [(0, .ref v0), (3, .int (gI v3)), (4, .int (gI v4)), (5, .int (gI v5)), (6, .int (gI v6)), (7, .int (gI s0))]) [1, 2, 3, 4, 5, 0] rfl ?_
    exact zb_L_tables_245  e
set_option maxRecDepth 100000 in
def b_L_tables_213 (n : Nat)  (v0 : Nat) (v3 : Int) (v4 : Int) (v5 : Int) (v6 : Int)  (h : gi_H) : Option (Int × gi_H) :=
  Option.bind (gi_rg (gi_and (gi_shr v6 (1 : Int)) (1 : Int))) fun _ => if (gi_and (gi_shr v6 (1 : Int)) (1 : Int)) = (1 : Int) then (b_L_tables_228 n  v0 v3 v4 v5 v6 (1 : Int) h) else (b_L_tables_228 n  v0 v3 v4 v5 v6 (0 : Int) h)
set_option maxRecDepth 100000 in
theorem zb_L_tables_213 {n : Nat}  {res : Int} {h1 : gi_H}  {v0 : Nat} {v3 : Int} {v4 : Int} {v5 : Int} {v6 : Int}  {h : gi_H} (e : b_L_tables_213 n v0 v3 v4 v5 v6 h = some (res, h1)) : gx_Z mL_tables false false 63 378 213 [(0, .ref v0), (3, .int (gI v3)), (4, .int (gI v4)), (5, .int (gI v5)), (6, .int (gI v6))] [] (gi_cv h) (.inl (some (.int (gI res)))) (gi_cv h1) := by
  refine gx_iload dL_tables_213 4 rfl ?_
  refine gy_iconst dL_tables_215 ?_
  refine gy_ishr dL_tables_216 ?_
  refine gy_iconst dL_tables_217 ?_
  refine gy_iand dL_tables_218 ?_
  refine gy_iconst dL_tables_219 ?_
  refine gx_bE e (fun _ g10 e => ?_)
  refine gx_iE e (fun c11 e => ?_) (fun c11 e => ?_)
  · refine gy_icmp_ne (tgt := 227) (gi_rgS g10) (by decide) dL_tables_220 (by decide) (fun z => absurd c11 z) (fun _ => ?_)
    refine gy_iconst dL_tables_223 ?_
    refine gx_goto (tgt := 228) dL_tables_224 (by decide) ?_
    exact zb_L_tables_228  e
  · refine gy_icmp_ne (tgt := 227) (gi_rgS g10) (by decide) dL_tables_220 (by decide) (fun _ => ?_) (fun z => absurd z c11)
    refine gy_iconst dL_tables_227 ?_
    exact zb_L_tables_228  e
set_option maxRecDepth 100000 in
def b_L_tables_204 (n : Nat) (r68 : Nat → Int → Int → Int → Int → Int → gi_H → Option (Int × gi_H)) (v0 : Nat) (v3 : Int) (v4 : Int) (v5 : Int) (v7 : Int) (s0 : Int) (s1 : Int) (h : gi_H) : Option (Int × gi_H) :=
  gx_nm (s0 + s1) fun t59 => gx_nm (v7 + (-1 : Int)) fun t60 => r68 v0 v3 v4 v5 t59 t60 h
set_option maxRecDepth 100000 in
theorem zb_L_tables_204 {n : Nat} {r68 : Nat → Int → Int → Int → Int → Int → gi_H → Option (Int × gi_H)} {res : Int} {h1 : gi_H} {kc ks k : Nat} (hkc : kc + (k + 1) * 12 ≤ 63) (hks : ks + (k + 1) * 72 ≤ 378) (hr68 : ∀ (kc ks : Nat) (x0 : Nat) (x3 : Int) (x4 : Int) (x5 : Int) (x6 : Int) (x7 : Int) (hh : gi_H), kc + k * 12 ≤ 63 → ks + k * 72 ≤ 378 → r68 x0 x3 x4 x5 x6 x7 hh = some (res, h1) → gx_Z mL_tables false false kc ks 68 [(0, .ref x0), (3, .int (gI x3)), (4, .int (gI x4)), (5, .int (gI x5)), (6, .int (gI x6)), (7, .int (gI x7))] [] (gi_cv hh) (.inl (some (.int (gI res)))) (gi_cv h1)) {v0 : Nat} {v3 : Int} {v4 : Int} {v5 : Int} {v7 : Int} {s0 : Int} {s1 : Int} {h : gi_H} (e : b_L_tables_204 n r68 v0 v3 v4 v5 v7 s0 s1 h = some (res, h1)) : gx_Z mL_tables false false (kc + 3) (ks + 18) 204 [(0, .ref v0), (3, .int (gI v3)), (4, .int (gI v4)), (5, .int (gI v5)), (7, .int (gI v7))] [.int (gI s1), .int (gI s0)] (gi_cv h) (.inl (some (.int (gI res)))) (gi_cv h1) := by
  have hKc : 63 ≤ (gx_rm mL_tables).cells := Nat.le_of_ble_eq_true rfl
  have hKs : 378 ≤ (gx_rm mL_tables).slots := Nat.le_of_ble_eq_true rfl
  refine gy_iadd dL_tables_204 ?_
  refine gx_nE e (fun t59 ht59 e => ?_)
  rw [ht59]
  refine gx_istore (ls2 := [(6, .int (gI t59)), (0, .ref v0), (3, .int (gI v3)), (4, .int (gI v4)), (5, .int (gI v5)), (7, .int (gI v7))]) dL_tables_205 (Nat.le_of_ble_eq_true rfl) rfl ?_
  refine gx_nE e (fun t60 ht60 e => ?_)
  refine gy_iinc (v := t60) (ls2 := [(7, .int (gI t60)), (6, .int (gI t59)), (0, .ref v0), (3, .int (gI v3)), (4, .int (gI v4)), (5, .int (gI v5))]) dL_tables_207 5 rfl ht60 (Nat.le_of_ble_eq_true rfl) rfl ?_
  refine gx_goto (tgt := 68) dL_tables_210 (by decide) ?_
  refine gx_sub (ls2 := [(0, .ref v0), (3, .int (gI v3)), (4, .int (gI v4)), (5, .int (gI v5)), (6, .int (gI t59)), (7, .int (gI t60))]) [2, 3, 4, 5, 1, 0] rfl ?_
  exact hr68 _ _ _ _ _ _ _ _ _ (by show (kc + 3) + _ ≤ _; omega) (by show (ks + 18) + _ ≤ _; omega) e
set_option maxRecDepth 100000 in
def b_L_tables_187 (n : Nat) (r68 : Nat → Int → Int → Int → Int → Int → gi_H → Option (Int × gi_H)) (v0 : Nat) (v3 : Int) (v4 : Int) (v6 : Int) (v7 : Int) (v8 : Int) (s0 : Int) (h : gi_H) : Option (Int × gi_H) :=
  Option.bind (gi_rg v8) fun _ => if v8 = 0 then (b_L_tables_204 n r68 v0 v3 v4 s0 v7 v6 (gi_shl (1 : Int) v7) h) else (b_L_tables_204 n r68 v0 v3 v4 s0 v7 v6 (0 : Int) h)
set_option maxRecDepth 100000 in
theorem zb_L_tables_187 {n : Nat} {r68 : Nat → Int → Int → Int → Int → Int → gi_H → Option (Int × gi_H)} {res : Int} {h1 : gi_H} {kc ks k : Nat} (hkc : kc + (k + 1) * 12 ≤ 63) (hks : ks + (k + 1) * 72 ≤ 378) (hr68 : ∀ (kc ks : Nat) (x0 : Nat) (x3 : Int) (x4 : Int) (x5 : Int) (x6 : Int) (x7 : Int) (hh : gi_H), kc + k * 12 ≤ 63 → ks + k * 72 ≤ 378 → r68 x0 x3 x4 x5 x6 x7 hh = some (res, h1) → gx_Z mL_tables false false kc ks 68 [(0, .ref x0), (3, .int (gI x3)), (4, .int (gI x4)), (5, .int (gI x5)), (6, .int (gI x6)), (7, .int (gI x7))] [] (gi_cv hh) (.inl (some (.int (gI res)))) (gi_cv h1)) {v0 : Nat} {v3 : Int} {v4 : Int} {v6 : Int} {v7 : Int} {v8 : Int} {s0 : Int} {h : gi_H} (e : b_L_tables_187 n r68 v0 v3 v4 v6 v7 v8 s0 h = some (res, h1)) : gx_Z mL_tables false false (kc + 3) (ks + 18) 187 [(0, .ref v0), (3, .int (gI v3)), (4, .int (gI v4)), (6, .int (gI v6)), (7, .int (gI v7)), (8, .int (gI v8))] [.int (gI s0)] (gi_cv h) (.inl (some (.int (gI res)))) (gi_cv h1) := by
  have hKc : 63 ≤ (gx_rm mL_tables).cells := Nat.le_of_ble_eq_true rfl
  have hKs : 378 ≤ (gx_rm mL_tables).slots := Nat.le_of_ble_eq_true rfl
  refine gx_istore (ls2 := [(5, .int (gI s0)), (0, .ref v0), (3, .int (gI v3)), (4, .int (gI v4)), (6, .int (gI v6)), (7, .int (gI v7)), (8, .int (gI v8))]) dL_tables_187 (Nat.le_of_ble_eq_true rfl) rfl ?_
  refine gx_iload dL_tables_189 4 rfl ?_
  refine gx_iload dL_tables_191 6 rfl ?_
  refine gx_bE e (fun _ g57 e => ?_)
  refine gx_iE e (fun c58 e => ?_) (fun c58 e => ?_)
  · refine gy_if_ne (tgt := 203) (gi_rgS g57) dL_tables_193 (by decide) (fun z => absurd c58 z) (fun _ => ?_)
    refine gy_iconst dL_tables_196 ?_
    refine gx_iload dL_tables_197 5 rfl ?_
    refine gy_ishl dL_tables_199 ?_
    refine gx_goto (tgt := 204) dL_tables_200 (by decide) ?_
    refine gx_sub (ls2 := [(0, .ref v0), (3, .int (gI v3)), (4, .int (gI v4)), (5, .int (gI s0)), (7, .int (gI v7))]) [1, 2, 3, 0, 5] rfl ?_
    exact zb_L_tables_204 hkc hks hr68 e
  · refine gy_if_ne (tgt := 203) (gi_rgS g57) dL_tables_193 (by decide) (fun _ => ?_) (fun z => absurd z c58)
    refine gy_iconst dL_tables_203 ?_
    refine gx_sub (ls2 := [(0, .ref v0), (3, .int (gI v3)), (4, .int (gI v4)), (5, .int (gI s0)), (7, .int (gI v7))]) [1, 2, 3, 0, 5] rfl ?_
    exact zb_L_tables_204 hkc hks hr68 e
set_option maxRecDepth 100000 in
def b_L_tables_185 (n : Nat) (r68 : Nat → Int → Int → Int → Int → Int → gi_H → Option (Int × gi_H)) (v0 : Nat) (v3 : Int) (v4 : Int) (v5 : Int) (v6 : Int) (v7 : Int) (v8 : Int)  (h : gi_H) : Option (Int × gi_H) :=
  b_L_tables_187 n r68 v0 v3 v4 v6 v7 v8 v5 h
set_option maxRecDepth 100000 in
theorem zb_L_tables_185 {n : Nat} {r68 : Nat → Int → Int → Int → Int → Int → gi_H → Option (Int × gi_H)} {res : Int} {h1 : gi_H} {kc ks k : Nat} (hkc : kc + (k + 1) * 12 ≤ 63) (hks : ks + (k + 1) * 72 ≤ 378) (hr68 : ∀ (kc ks : Nat) (x0 : Nat) (x3 : Int) (x4 : Int) (x5 : Int) (x6 : Int) (x7 : Int) (hh : gi_H), kc + k * 12 ≤ 63 → ks + k * 72 ≤ 378 → r68 x0 x3 x4 x5 x6 x7 hh = some (res, h1) → gx_Z mL_tables false false kc ks 68 [(0, .ref x0), (3, .int (gI x3)), (4, .int (gI x4)), (5, .int (gI x5)), (6, .int (gI x6)), (7, .int (gI x7))] [] (gi_cv hh) (.inl (some (.int (gI res)))) (gi_cv h1)) {v0 : Nat} {v3 : Int} {v4 : Int} {v5 : Int} {v6 : Int} {v7 : Int} {v8 : Int}  {h : gi_H} (e : b_L_tables_185 n r68 v0 v3 v4 v5 v6 v7 v8 h = some (res, h1)) : gx_Z mL_tables false false (kc + 3) (ks + 18) 185 [(0, .ref v0), (3, .int (gI v3)), (4, .int (gI v4)), (5, .int (gI v5)), (6, .int (gI v6)), (7, .int (gI v7)), (8, .int (gI v8))] [] (gi_cv h) (.inl (some (.int (gI res)))) (gi_cv h1) := by
  have hKc : 63 ≤ (gx_rm mL_tables).cells := Nat.le_of_ble_eq_true rfl
  have hKs : 378 ≤ (gx_rm mL_tables).slots := Nat.le_of_ble_eq_true rfl
  refine gx_iload dL_tables_185 3 rfl ?_
  refine gx_sub (ls2 := [(0, .ref v0), (3, .int (gI v3)), (4, .int (gI v4)), (6, .int (gI v6)), (7, .int (gI v7)), (8, .int (gI v8))]) [0, 1, 2, 4, 5, 6] rfl ?_
  exact zb_L_tables_187 hkc hks hr68 e
set_option maxRecDepth 100000 in
def b_L_tables_164 (n : Nat) (r68 : Nat → Int → Int → Int → Int → Int → gi_H → Option (Int × gi_H)) (v0 : Nat) (v3 : Int) (v5 : Int) (v6 : Int) (v7 : Int) (v8 : Int) (v9 : Int) (s0 : Int) (h : gi_H) : Option (Int × gi_H) :=
  Option.bind (gi_rg v8) fun _ => if v8 = (-2 : Int) then (b_L_tables_185 n r68 v0 v3 s0 v5 v6 v7 v8 h) else (Option.bind (gi_rg v9) fun _ => if v8 = v9 then (b_L_tables_187 n r68 v0 v3 s0 v6 v7 v8 v7 h) else (b_L_tables_185 n r68 v0 v3 s0 v5 v6 v7 v8 h))
set_option maxRecDepth 100000 in
theorem zb_L_tables_164 {n : Nat} {r68 : Nat → Int → Int → Int → Int → Int → gi_H → Option (Int × gi_H)} {res : Int} {h1 : gi_H} {kc ks k : Nat} (hkc : kc + (k + 1) * 12 ≤ 63) (hks : ks + (k + 1) * 72 ≤ 378) (hr68 : ∀ (kc ks : Nat) (x0 : Nat) (x3 : Int) (x4 : Int) (x5 : Int) (x6 : Int) (x7 : Int) (hh : gi_H), kc + k * 12 ≤ 63 → ks + k * 72 ≤ 378 → r68 x0 x3 x4 x5 x6 x7 hh = some (res, h1) → gx_Z mL_tables false false kc ks 68 [(0, .ref x0), (3, .int (gI x3)), (4, .int (gI x4)), (5, .int (gI x5)), (6, .int (gI x6)), (7, .int (gI x7))] [] (gi_cv hh) (.inl (some (.int (gI res)))) (gi_cv h1)) {v0 : Nat} {v3 : Int} {v5 : Int} {v6 : Int} {v7 : Int} {v8 : Int} {v9 : Int} {s0 : Int} {h : gi_H} (e : b_L_tables_164 n r68 v0 v3 v5 v6 v7 v8 v9 s0 h = some (res, h1)) : gx_Z mL_tables false false (kc + 3) (ks + 18) 164 [(0, .ref v0), (3, .int (gI v3)), (5, .int (gI v5)), (6, .int (gI v6)), (7, .int (gI v7)), (8, .int (gI v8)), (9, .int (gI v9))] [.int (gI s0)] (gi_cv h) (.inl (some (.int (gI res)))) (gi_cv h1) := by
  have hKc : 63 ≤ (gx_rm mL_tables).cells := Nat.le_of_ble_eq_true rfl
  have hKs : 378 ≤ (gx_rm mL_tables).slots := Nat.le_of_ble_eq_true rfl
  refine gx_istore (ls2 := [(4, .int (gI s0)), (0, .ref v0), (3, .int (gI v3)), (5, .int (gI v5)), (6, .int (gI v6)), (7, .int (gI v7)), (8, .int (gI v8)), (9, .int (gI v9))]) dL_tables_164 (Nat.le_of_ble_eq_true rfl) rfl ?_
  refine gx_iload dL_tables_166 6 rfl ?_
  refine gy_bipush dL_tables_168 gcb_m2 ?_
  refine gx_bE e (fun _ g55 e => ?_)
  refine gx_iE e (fun c56 e => ?_) (fun c56 e => ?_)
  · refine gy_icmp_eq (tgt := 185) (gi_rgS g55) (by decide) dL_tables_170 (by decide) (fun _ => ?_) (fun z => absurd c56 z)
    refine gx_sub (ls2 := [(0, .ref v0), (3, .int (gI v3)), (4, .int (gI s0)), (5, .int (gI v5)), (6, .int (gI v6)), (7, .int (gI v7)), (8, .int (gI v8))]) [1, 2, 0, 3, 4, 5, 6] rfl ?_
    exact zb_L_tables_185 hkc hks hr68 e
  · refine gy_icmp_eq (tgt := 185) (gi_rgS g55) (by decide) dL_tables_170 (by decide) (fun z => absurd z c56) (fun _ => ?_)
    refine gx_iload dL_tables_173 6 rfl ?_
    refine gx_iload dL_tables_175 7 rfl ?_
    refine gx_bE e (fun _ g61 e => ?_)
    refine gx_iE e (fun c62 e => ?_) (fun c62 e => ?_)
    · refine gy_icmp_ne (tgt := 185) (gi_rgS g55) (gi_rgS g61) dL_tables_177 (by decide) (fun z => absurd c62 z) (fun _ => ?_)
      refine gx_iload dL_tables_180 5 rfl ?_
      refine gx_goto (tgt := 187) dL_tables_182 (by decide) ?_
      refine gx_sub (ls2 := [(0, .ref v0), (3, .int (gI v3)), (4, .int (gI s0)), (6, .int (gI v6)), (7, .int (gI v7)), (8, .int (gI v8))]) [1, 2, 0, 4, 5, 6] rfl ?_
      exact zb_L_tables_187 hkc hks hr68 e
    · refine gy_icmp_ne (tgt := 185) (gi_rgS g55) (gi_rgS g61) dL_tables_177 (by decide) (fun _ => ?_) (fun z => absurd z c62)
      refine gx_sub (ls2 := [(0, .ref v0), (3, .int (gI v3)), (4, .int (gI s0)), (5, .int (gI v5)), (6, .int (gI v6)), (7, .int (gI v7)), (8, .int (gI v8))]) [1, 2, 0, 3, 4, 5, 6] rfl ?_
      exact zb_L_tables_185 hkc hks hr68 e
set_option maxRecDepth 100000 in
def b_L_tables_163 (n : Nat) (r68 : Nat → Int → Int → Int → Int → Int → gi_H → Option (Int × gi_H)) (v0 : Nat) (v3 : Int) (v5 : Int) (v6 : Int) (v7 : Int) (v8 : Int) (v9 : Int)  (h : gi_H) : Option (Int × gi_H) :=
  b_L_tables_164 n r68 v0 v3 v5 v6 v7 v8 v9 (0 : Int) h
set_option maxRecDepth 100000 in
theorem zb_L_tables_163 {n : Nat} {r68 : Nat → Int → Int → Int → Int → Int → gi_H → Option (Int × gi_H)} {res : Int} {h1 : gi_H} {kc ks k : Nat} (hkc : kc + (k + 1) * 12 ≤ 63) (hks : ks + (k + 1) * 72 ≤ 378) (hr68 : ∀ (kc ks : Nat) (x0 : Nat) (x3 : Int) (x4 : Int) (x5 : Int) (x6 : Int) (x7 : Int) (hh : gi_H), kc + k * 12 ≤ 63 → ks + k * 72 ≤ 378 → r68 x0 x3 x4 x5 x6 x7 hh = some (res, h1) → gx_Z mL_tables false false kc ks 68 [(0, .ref x0), (3, .int (gI x3)), (4, .int (gI x4)), (5, .int (gI x5)), (6, .int (gI x6)), (7, .int (gI x7))] [] (gi_cv hh) (.inl (some (.int (gI res)))) (gi_cv h1)) {v0 : Nat} {v3 : Int} {v5 : Int} {v6 : Int} {v7 : Int} {v8 : Int} {v9 : Int}  {h : gi_H} (e : b_L_tables_163 n r68 v0 v3 v5 v6 v7 v8 v9 h = some (res, h1)) : gx_Z mL_tables false false (kc + 3) (ks + 18) 163 [(0, .ref v0), (3, .int (gI v3)), (5, .int (gI v5)), (6, .int (gI v6)), (7, .int (gI v7)), (8, .int (gI v8)), (9, .int (gI v9))] [] (gi_cv h) (.inl (some (.int (gI res)))) (gi_cv h1) := by
  have hKc : 63 ≤ (gx_rm mL_tables).cells := Nat.le_of_ble_eq_true rfl
  have hKs : 378 ≤ (gx_rm mL_tables).slots := Nat.le_of_ble_eq_true rfl
  refine gy_iconst dL_tables_163 ?_
  exact zb_L_tables_164 hkc hks hr68 e
set_option maxRecDepth 100000 in
def b_L_tables_149 (n : Nat) (r68 : Nat → Int → Int → Int → Int → Int → gi_H → Option (Int × gi_H)) (v0 : Nat) (v3 : Int) (v5 : Int) (v6 : Int) (v7 : Int) (v8 : Int) (v9 : Int) (s0 : Int) (s1 : Int) (h : gi_H) : Option (Int × gi_H) :=
  Option.bind (gi_rg s0) fun _ => Option.bind (gi_rg s1) fun _ => if s0 = s1 then (Option.bind (gi_rg v8) fun _ => Option.bind (gi_rg v9) fun _ => if v8 < v9 then (b_L_tables_163 n r68 v0 v3 v5 v6 v7 v8 v9 h) else (b_L_tables_164 n r68 v0 v3 v5 v6 v7 v8 v9 (1 : Int) h)) else (b_L_tables_163 n r68 v0 v3 v5 v6 v7 v8 v9 h)
set_option maxRecDepth 100000 in
theorem zb_L_tables_149 {n : Nat} {r68 : Nat → Int → Int → Int → Int → Int → gi_H → Option (Int × gi_H)} {res : Int} {h1 : gi_H} {kc ks k : Nat} (hkc : kc + (k + 1) * 12 ≤ 63) (hks : ks + (k + 1) * 72 ≤ 378) (hr68 : ∀ (kc ks : Nat) (x0 : Nat) (x3 : Int) (x4 : Int) (x5 : Int) (x6 : Int) (x7 : Int) (hh : gi_H), kc + k * 12 ≤ 63 → ks + k * 72 ≤ 378 → r68 x0 x3 x4 x5 x6 x7 hh = some (res, h1) → gx_Z mL_tables false false kc ks 68 [(0, .ref x0), (3, .int (gI x3)), (4, .int (gI x4)), (5, .int (gI x5)), (6, .int (gI x6)), (7, .int (gI x7))] [] (gi_cv hh) (.inl (some (.int (gI res)))) (gi_cv h1)) {v0 : Nat} {v3 : Int} {v5 : Int} {v6 : Int} {v7 : Int} {v8 : Int} {v9 : Int} {s0 : Int} {s1 : Int} {h : gi_H} (e : b_L_tables_149 n r68 v0 v3 v5 v6 v7 v8 v9 s0 s1 h = some (res, h1)) : gx_Z mL_tables false false (kc + 3) (ks + 18) 149 [(0, .ref v0), (3, .int (gI v3)), (5, .int (gI v5)), (6, .int (gI v6)), (7, .int (gI v7)), (8, .int (gI v8)), (9, .int (gI v9))] [.int (gI s1), .int (gI s0)] (gi_cv h) (.inl (some (.int (gI res)))) (gi_cv h1) := by
  have hKc : 63 ≤ (gx_rm mL_tables).cells := Nat.le_of_ble_eq_true rfl
  have hKs : 378 ≤ (gx_rm mL_tables).slots := Nat.le_of_ble_eq_true rfl
  refine gx_bE e (fun _ g49 e => ?_)
  refine gx_bE e (fun _ g50 e => ?_)
  refine gx_iE e (fun c51 e => ?_) (fun c51 e => ?_)
  · refine gy_icmp_ne (tgt := 163) (gi_rgS g49) (gi_rgS g50) dL_tables_149 (by decide) (fun z => absurd c51 z) (fun _ => ?_)
    refine gx_iload dL_tables_152 5 rfl ?_
    refine gx_iload dL_tables_154 6 rfl ?_
    refine gx_bE e (fun _ g52 e => ?_)
    refine gx_bE e (fun _ g53 e => ?_)
    refine gx_iE e (fun c54 e => ?_) (fun c54 e => ?_)
    · refine gy_icmp_lt (tgt := 163) (gi_rgS g52) (gi_rgS g53) dL_tables_156 (by decide) (fun _ => ?_) (fun z => absurd c54 z)
      exact zb_L_tables_163 hkc hks hr68 e
    · refine gy_icmp_lt (tgt := 163) (gi_rgS g52) (gi_rgS g53) dL_tables_156 (by decide) (fun z => absurd z c54) (fun _ => ?_)
      refine gy_iconst dL_tables_159 ?_
      refine gx_goto (tgt := 164) dL_tables_160 (by decide) ?_
      exact zb_L_tables_164 hkc hks hr68 e
  · refine gy_icmp_ne (tgt := 163) (gi_rgS g49) (gi_rgS g50) dL_tables_149 (by decide) (fun _ => ?_) (fun z => absurd z c51)
    exact zb_L_tables_163 hkc hks hr68 e
set_option maxRecDepth 100000 in
def b_L_tables_133 (n : Nat) (r68 : Nat → Int → Int → Int → Int → Int → gi_H → Option (Int × gi_H)) (v0 : Nat) (v3 : Int) (v5 : Int) (v6 : Int) (v7 : Int) (v8 : Int) (v9 : Int) (s0 : Int) (h : gi_H) : Option (Int × gi_H) :=
  Option.bind (f_L_size n v0 v7 h) fun q46 => Option.bind (gi_rg q46.1) fun _ => if q46.1 = (-2 : Int) then (b_L_tables_149 n r68 v0 v3 v5 v6 v7 v8 v9 s0 (1 : Int) q46.2) else (b_L_tables_149 n r68 v0 v3 v5 v6 v7 v8 v9 s0 (0 : Int) q46.2)
set_option maxRecDepth 100000 in
theorem zb_L_tables_133 {n : Nat} {r68 : Nat → Int → Int → Int → Int → Int → gi_H → Option (Int × gi_H)} {res : Int} {h1 : gi_H} {kc ks k : Nat} (hkc : kc + (k + 1) * 12 ≤ 63) (hks : ks + (k + 1) * 72 ≤ 378) (hr68 : ∀ (kc ks : Nat) (x0 : Nat) (x3 : Int) (x4 : Int) (x5 : Int) (x6 : Int) (x7 : Int) (hh : gi_H), kc + k * 12 ≤ 63 → ks + k * 72 ≤ 378 → r68 x0 x3 x4 x5 x6 x7 hh = some (res, h1) → gx_Z mL_tables false false kc ks 68 [(0, .ref x0), (3, .int (gI x3)), (4, .int (gI x4)), (5, .int (gI x5)), (6, .int (gI x6)), (7, .int (gI x7))] [] (gi_cv hh) (.inl (some (.int (gI res)))) (gi_cv h1)) {v0 : Nat} {v3 : Int} {v5 : Int} {v6 : Int} {v7 : Int} {v8 : Int} {v9 : Int} {s0 : Int} {h : gi_H} (e : b_L_tables_133 n r68 v0 v3 v5 v6 v7 v8 v9 s0 h = some (res, h1)) : gx_Z mL_tables false false (kc + 2) (ks + 12) 133 [(0, .ref v0), (3, .int (gI v3)), (5, .int (gI v5)), (6, .int (gI v6)), (7, .int (gI v7)), (8, .int (gI v8)), (9, .int (gI v9))] [.int (gI s0)] (gi_cv h) (.inl (some (.int (gI res)))) (gi_cv h1) := by
  have hKc : 63 ≤ (gx_rm mL_tables).cells := Nat.le_of_ble_eq_true rfl
  have hKs : 378 ≤ (gx_rm mL_tables).slots := Nat.le_of_ble_eq_true rfl
  refine gx_aload_n dL_tables_133 rfl 0 rfl ?_
  refine gx_iload dL_tables_134 4 rfl ?_
  refine gx_bE e (fun q46 hq46 e => ?_)
  refine gx_callSW (n := 2) (st := [.int (gI s0)]) (As := [.ref v0, .int (gI v7)]) dL_tables_136 (z_L_size hq46) rfl ⟨(by decide +kernel), gw_cw_L_size, gw_0, gp_L_size, ⟨Nat.le_of_ble_eq_true rfl, Nat.le_of_ble_eq_true rfl⟩⟩ gw_964 gw_965 ⟨by show (kc + 3) ≤ _; omega, by show (ks + 18) ≤ _; omega⟩ (Nat.le_of_ble_eq_true rfl) (gy_k1 (x := .int (gI q46.1)) (kc2 := (kc + 3)) (ks2 := (ks + 18)) ⟨rfl, rfl⟩ ?_)
  refine gy_bipush dL_tables_139 gcb_m2 ?_
  refine gx_bE e (fun _ g47 e => ?_)
  refine gx_iE e (fun c48 e => ?_) (fun c48 e => ?_)
  · refine gy_icmp_ne (tgt := 148) (gi_rgS g47) (by decide) dL_tables_141 (by decide) (fun z => absurd c48 z) (fun _ => ?_)
    refine gy_iconst dL_tables_144 ?_
    refine gx_goto (tgt := 149) dL_tables_145 (by decide) ?_
    exact zb_L_tables_149 hkc hks hr68 e
  · refine gy_icmp_ne (tgt := 148) (gi_rgS g47) (by decide) dL_tables_141 (by decide) (fun _ => ?_) (fun z => absurd z c48)
    refine gy_iconst dL_tables_148 ?_
    exact zb_L_tables_149 hkc hks hr68 e
set_option maxRecDepth 100000 in
def b_L_tables_118 (n : Nat) (r68 : Nat → Int → Int → Int → Int → Int → gi_H → Option (Int × gi_H)) (v0 : Nat) (v3 : Int) (v5 : Int) (v6 : Int) (v7 : Int) (v8 : Int) (v9 : Int) (s0 : Int) (s1 : Int) (h : gi_H) : Option (Int × gi_H) :=
  Option.bind (gi_rg s0) fun _ => Option.bind (gi_rg s1) fun _ => if s0 = s1 then (Option.bind (gi_rg v8) fun _ => if v8 = (-2 : Int) then (b_L_tables_133 n r68 v0 v3 v5 v6 v7 v8 v9 (1 : Int) h) else (b_L_tables_133 n r68 v0 v3 v5 v6 v7 v8 v9 (0 : Int) h)) else (b_L_tables_163 n r68 v0 v3 v5 v6 v7 v8 v9 h)
set_option maxRecDepth 100000 in
theorem zb_L_tables_118 {n : Nat} {r68 : Nat → Int → Int → Int → Int → Int → gi_H → Option (Int × gi_H)} {res : Int} {h1 : gi_H} {kc ks k : Nat} (hkc : kc + (k + 1) * 12 ≤ 63) (hks : ks + (k + 1) * 72 ≤ 378) (hr68 : ∀ (kc ks : Nat) (x0 : Nat) (x3 : Int) (x4 : Int) (x5 : Int) (x6 : Int) (x7 : Int) (hh : gi_H), kc + k * 12 ≤ 63 → ks + k * 72 ≤ 378 → r68 x0 x3 x4 x5 x6 x7 hh = some (res, h1) → gx_Z mL_tables false false kc ks 68 [(0, .ref x0), (3, .int (gI x3)), (4, .int (gI x4)), (5, .int (gI x5)), (6, .int (gI x6)), (7, .int (gI x7))] [] (gi_cv hh) (.inl (some (.int (gI res)))) (gi_cv h1)) {v0 : Nat} {v3 : Int} {v5 : Int} {v6 : Int} {v7 : Int} {v8 : Int} {v9 : Int} {s0 : Int} {s1 : Int} {h : gi_H} (e : b_L_tables_118 n r68 v0 v3 v5 v6 v7 v8 v9 s0 s1 h = some (res, h1)) : gx_Z mL_tables false false (kc + 2) (ks + 12) 118 [(0, .ref v0), (3, .int (gI v3)), (5, .int (gI v5)), (6, .int (gI v6)), (7, .int (gI v7)), (8, .int (gI v8)), (9, .int (gI v9))] [.int (gI s1), .int (gI s0)] (gi_cv h) (.inl (some (.int (gI res)))) (gi_cv h1) := by
  have hKc : 63 ≤ (gx_rm mL_tables).cells := Nat.le_of_ble_eq_true rfl
  have hKs : 378 ≤ (gx_rm mL_tables).slots := Nat.le_of_ble_eq_true rfl
  refine gx_bE e (fun _ g41 e => ?_)
  refine gx_bE e (fun _ g42 e => ?_)
  refine gx_iE e (fun c43 e => ?_) (fun c43 e => ?_)
  · refine gy_icmp_ne (tgt := 163) (gi_rgS g41) (gi_rgS g42) dL_tables_118 (by decide) (fun z => absurd c43 z) (fun _ => ?_)
    refine gx_iload dL_tables_121 5 rfl ?_
    refine gy_bipush dL_tables_123 gcb_m2 ?_
    refine gx_bE e (fun _ g44 e => ?_)
    refine gx_iE e (fun c45 e => ?_) (fun c45 e => ?_)
    · refine gy_icmp_ne (tgt := 132) (gi_rgS g44) (by decide) dL_tables_125 (by decide) (fun z => absurd c45 z) (fun _ => ?_)
      refine gy_iconst dL_tables_128 ?_
      refine gx_goto (tgt := 133) dL_tables_129 (by decide) ?_
      exact zb_L_tables_133 hkc hks hr68 e
    · refine gy_icmp_ne (tgt := 132) (gi_rgS g44) (by decide) dL_tables_125 (by decide) (fun _ => ?_) (fun z => absurd z c45)
      refine gy_iconst dL_tables_132 ?_
      exact zb_L_tables_133 hkc hks hr68 e
  · refine gy_icmp_ne (tgt := 163) (gi_rgS g41) (gi_rgS g42) dL_tables_118 (by decide) (fun _ => ?_) (fun z => absurd z c43)
    refine gx_kup (kc2 := (kc + 3)) (ks2 := (ks + 18)) (by show (kc + 2) ≤ (kc + 3); omega) (by show (ks + 12) ≤ (ks + 18); omega) ?_
    exact zb_L_tables_163 hkc hks hr68 e
set_option maxRecDepth 100000 in
def b_L_tables_106 (n : Nat) (r68 : Nat → Int → Int → Int → Int → Int → gi_H → Option (Int × gi_H)) (v0 : Nat) (v3 : Int) (v5 : Int) (v6 : Int) (v7 : Int) (v8 : Int) (v9 : Int) (s0 : Int) (h : gi_H) : Option (Int × gi_H) :=
  Option.bind (gi_rg v9) fun _ => if v9 = (-2 : Int) then (b_L_tables_118 n r68 v0 v3 v5 v6 v7 v8 v9 s0 (1 : Int) h) else (b_L_tables_118 n r68 v0 v3 v5 v6 v7 v8 v9 s0 (0 : Int) h)
set_option maxRecDepth 100000 in
theorem zb_L_tables_106 {n : Nat} {r68 : Nat → Int → Int → Int → Int → Int → gi_H → Option (Int × gi_H)} {res : Int} {h1 : gi_H} {kc ks k : Nat} (hkc : kc + (k + 1) * 12 ≤ 63) (hks : ks + (k + 1) * 72 ≤ 378) (hr68 : ∀ (kc ks : Nat) (x0 : Nat) (x3 : Int) (x4 : Int) (x5 : Int) (x6 : Int) (x7 : Int) (hh : gi_H), kc + k * 12 ≤ 63 → ks + k * 72 ≤ 378 → r68 x0 x3 x4 x5 x6 x7 hh = some (res, h1) → gx_Z mL_tables false false kc ks 68 [(0, .ref x0), (3, .int (gI x3)), (4, .int (gI x4)), (5, .int (gI x5)), (6, .int (gI x6)), (7, .int (gI x7))] [] (gi_cv hh) (.inl (some (.int (gI res)))) (gi_cv h1)) {v0 : Nat} {v3 : Int} {v5 : Int} {v6 : Int} {v7 : Int} {v8 : Int} {v9 : Int} {s0 : Int} {h : gi_H} (e : b_L_tables_106 n r68 v0 v3 v5 v6 v7 v8 v9 s0 h = some (res, h1)) : gx_Z mL_tables false false (kc + 2) (ks + 12) 106 [(0, .ref v0), (3, .int (gI v3)), (5, .int (gI v5)), (6, .int (gI v6)), (7, .int (gI v7)), (8, .int (gI v8)), (9, .int (gI v9))] [.int (gI s0)] (gi_cv h) (.inl (some (.int (gI res)))) (gi_cv h1) := by
  have hKc : 63 ≤ (gx_rm mL_tables).cells := Nat.le_of_ble_eq_true rfl
  have hKs : 378 ≤ (gx_rm mL_tables).slots := Nat.le_of_ble_eq_true rfl
  refine gx_iload dL_tables_106 6 rfl ?_
  refine gy_bipush dL_tables_108 gcb_m2 ?_
  refine gx_bE e (fun _ g39 e => ?_)
  refine gx_iE e (fun c40 e => ?_) (fun c40 e => ?_)
  · refine gy_icmp_ne (tgt := 117) (gi_rgS g39) (by decide) dL_tables_110 (by decide) (fun z => absurd c40 z) (fun _ => ?_)
    refine gy_iconst dL_tables_113 ?_
    refine gx_goto (tgt := 118) dL_tables_114 (by decide) ?_
    exact zb_L_tables_118 hkc hks hr68 e
  · refine gy_icmp_ne (tgt := 117) (gi_rgS g39) (by decide) dL_tables_110 (by decide) (fun _ => ?_) (fun z => absurd z c40)
    refine gy_iconst dL_tables_117 ?_
    exact zb_L_tables_118 hkc hks hr68 e
set_option maxRecDepth 100000 in
def b_L_tables_68 (n : Nat) (r68 : Nat → Int → Int → Int → Int → Int → gi_H → Option (Int × gi_H)) (v0 : Nat) (v3 : Int) (v4 : Int) (v5 : Int) (v6 : Int) (v7 : Int)  (h : gi_H) : Option (Int × gi_H) :=
  Option.bind (gi_rg v7) fun _ => if v7 < 0 then (b_L_tables_213 n  v0 v3 v4 v5 v6 h) else (Option.bind (gi_rg v4) fun _ => if v4 = 0 then (b_L_tables_213 n  v0 v3 v4 v5 v6 h) else (Option.bind (f_L_conflicts n v0 v7 h) fun q35 => Option.bind (f_L_settled n v0 v7 q35.2) fun q36 => Option.bind (gi_rg q35.1) fun _ => if q35.1 = (-2 : Int) then (b_L_tables_106 n r68 v0 v3 v5 v6 v7 q35.1 q36.1 (1 : Int) q36.2) else (b_L_tables_106 n r68 v0 v3 v5 v6 v7 q35.1 q36.1 (0 : Int) q36.2)))
set_option maxRecDepth 100000 in
theorem zb_L_tables_68 {n : Nat} {r68 : Nat → Int → Int → Int → Int → Int → gi_H → Option (Int × gi_H)} {res : Int} {h1 : gi_H} {kc ks k : Nat} (hkc : kc + (k + 1) * 12 ≤ 63) (hks : ks + (k + 1) * 72 ≤ 378) (hr68 : ∀ (kc ks : Nat) (x0 : Nat) (x3 : Int) (x4 : Int) (x5 : Int) (x6 : Int) (x7 : Int) (hh : gi_H), kc + k * 12 ≤ 63 → ks + k * 72 ≤ 378 → r68 x0 x3 x4 x5 x6 x7 hh = some (res, h1) → gx_Z mL_tables false false kc ks 68 [(0, .ref x0), (3, .int (gI x3)), (4, .int (gI x4)), (5, .int (gI x5)), (6, .int (gI x6)), (7, .int (gI x7))] [] (gi_cv hh) (.inl (some (.int (gI res)))) (gi_cv h1)) {v0 : Nat} {v3 : Int} {v4 : Int} {v5 : Int} {v6 : Int} {v7 : Int}  {h : gi_H} (e : b_L_tables_68 n r68 v0 v3 v4 v5 v6 v7 h = some (res, h1)) : gx_Z mL_tables false false kc ks 68 [(0, .ref v0), (3, .int (gI v3)), (4, .int (gI v4)), (5, .int (gI v5)), (6, .int (gI v6)), (7, .int (gI v7))] [] (gi_cv h) (.inl (some (.int (gI res)))) (gi_cv h1) := by
  have hKc : 63 ≤ (gx_rm mL_tables).cells := Nat.le_of_ble_eq_true rfl
  have hKs : 378 ≤ (gx_rm mL_tables).slots := Nat.le_of_ble_eq_true rfl
  refine gx_iload dL_tables_68 5 rfl ?_
  refine gx_bE e (fun _ g8 e => ?_)
  refine gx_iE e (fun c9 e => ?_) (fun c9 e => ?_)
  · refine gy_if_lt (tgt := 213) (gi_rgS g8) dL_tables_70 (by decide) (fun _ => ?_) (fun z => absurd c9 z)
    refine gx_sub (ls2 := [(0, .ref v0), (3, .int (gI v3)), (4, .int (gI v4)), (5, .int (gI v5)), (6, .int (gI v6))]) [0, 1, 2, 3, 4] rfl ?_
    refine gx_kup (kc2 := 63) (ks2 := 378) (by show kc ≤ _; omega) (by show ks ≤ _; omega) ?_
    exact zb_L_tables_213  e
  · refine gy_if_lt (tgt := 213) (gi_rgS g8) dL_tables_70 (by decide) (fun z => absurd z c9) (fun _ => ?_)
    refine gx_iload dL_tables_73 2 rfl ?_
    refine gx_bE e (fun _ g33 e => ?_)
    refine gx_iE e (fun c34 e => ?_) (fun c34 e => ?_)
    · refine gy_if_eq (tgt := 213) (gi_rgS g33) dL_tables_75 (by decide) (fun _ => ?_) (fun z => absurd c34 z)
      refine gx_sub (ls2 := [(0, .ref v0), (3, .int (gI v3)), (4, .int (gI v4)), (5, .int (gI v5)), (6, .int (gI v6))]) [0, 1, 2, 3, 4] rfl ?_
      refine gx_kup (kc2 := 63) (ks2 := 378) (by show kc ≤ _; omega) (by show ks ≤ _; omega) ?_
      exact zb_L_tables_213  e
    · refine gy_if_eq (tgt := 213) (gi_rgS g33) dL_tables_75 (by decide) (fun z => absurd z c34) (fun _ => ?_)
      refine gx_aload_n dL_tables_78 rfl 0 rfl ?_
      refine gx_iload dL_tables_79 5 rfl ?_
      refine gx_bE e (fun q35 hq35 e => ?_)
      refine gx_callSW (n := 2) (st := []) (As := [.ref v0, .int (gI v7)]) dL_tables_81 (z_L_conflicts hq35) rfl ⟨(by decide +kernel), gw_cw_L_conflicts, gw_0, gp_L_conflicts, ⟨Nat.le_of_ble_eq_true rfl, Nat.le_of_ble_eq_true rfl⟩⟩ gw_1076 gw_1077 ⟨by show (kc + 1) ≤ _; omega, by show (ks + 6) ≤ _; omega⟩ (Nat.le_of_ble_eq_true rfl) (gy_k1 (x := .int (gI q35.1)) (kc2 := (kc + 1)) (ks2 := (ks + 6)) ⟨rfl, rfl⟩ ?_)
      refine gx_istore (ls2 := [(8, .int (gI q35.1)), (0, .ref v0), (3, .int (gI v3)), (4, .int (gI v4)), (5, .int (gI v5)), (6, .int (gI v6)), (7, .int (gI v7))]) dL_tables_84 (Nat.le_of_ble_eq_true rfl) rfl ?_
      refine gx_aload_n dL_tables_86 rfl 1 rfl ?_
      refine gx_iload dL_tables_87 6 rfl ?_
      refine gx_bE e (fun q36 hq36 e => ?_)
      refine gx_callSW (n := 2) (st := []) (As := [.ref v0, .int (gI v7)]) dL_tables_89 (z_L_settled hq36) rfl ⟨(by decide +kernel), gw_cw_L_settled, gw_0, gp_L_settled, ⟨Nat.le_of_ble_eq_true rfl, Nat.le_of_ble_eq_true rfl⟩⟩ gw_1141 gw_1142 ⟨by show (kc + 2) ≤ _; omega, by show (ks + 12) ≤ _; omega⟩ (Nat.le_of_ble_eq_true rfl) (gy_k1 (x := .int (gI q36.1)) (kc2 := (kc + 2)) (ks2 := (ks + 12)) ⟨rfl, rfl⟩ ?_)
      refine gx_istore (ls2 := [(9, .int (gI q36.1)), (8, .int (gI q35.1)), (0, .ref v0), (3, .int (gI v3)), (4, .int (gI v4)), (5, .int (gI v5)), (6, .int (gI v6)), (7, .int (gI v7))]) dL_tables_92 (Nat.le_of_ble_eq_true rfl) rfl ?_
      refine gx_iload dL_tables_94 1 rfl ?_
      refine gy_bipush dL_tables_96 gcb_m2 ?_
      refine gx_bE e (fun _ g37 e => ?_)
      refine gx_iE e (fun c38 e => ?_) (fun c38 e => ?_)
      · refine gy_icmp_ne (tgt := 105) (gi_rgS g37) (by decide) dL_tables_98 (by decide) (fun z => absurd c38 z) (fun _ => ?_)
        refine gy_iconst dL_tables_101 ?_
        refine gx_goto (tgt := 106) dL_tables_102 (by decide) ?_
        refine gx_sub (ls2 := [(0, .ref v0), (3, .int (gI v3)), (5, .int (gI v5)), (6, .int (gI v6)), (7, .int (gI v7)), (8, .int (gI q35.1)), (9, .int (gI q36.1))]) [2, 3, 5, 6, 7, 1, 0] rfl ?_
        exact zb_L_tables_106 hkc hks hr68 e
      · refine gy_icmp_ne (tgt := 105) (gi_rgS g37) (by decide) dL_tables_98 (by decide) (fun _ => ?_) (fun z => absurd z c38)
        refine gy_iconst dL_tables_105 ?_
        refine gx_sub (ls2 := [(0, .ref v0), (3, .int (gI v3)), (5, .int (gI v5)), (6, .int (gI v6)), (7, .int (gI v7)), (8, .int (gI q35.1)), (9, .int (gI q36.1))]) [2, 3, 5, 6, 7, 1, 0] rfl ?_
        exact zb_L_tables_106 hkc hks hr68 e
def l_L_tables_68 (n : Nat)  : Nat → Nat → Int → Int → Int → Int → Int → gi_H → Option (Int × gi_H)
  | 0, _, _, _, _, _, _, _ => none
  | k + 1, v0, v3, v4, v5, v6, v7, h => b_L_tables_68 n  (l_L_tables_68 n  k) v0 v3 v4 v5 v6 v7 h
theorem zl_L_tables_68 {n : Nat}  {res : Int} {h1 : gi_H}  : ∀ (k kc ks : Nat) (v0 : Nat) (v3 : Int) (v4 : Int) (v5 : Int) (v6 : Int) (v7 : Int) (h : gi_H), kc + k * 12 ≤ 63 → ks + k * 72 ≤ 378 → l_L_tables_68 n  k v0 v3 v4 v5 v6 v7 h = some (res, h1) → gx_Z mL_tables false false kc ks 68 [(0, .ref v0), (3, .int (gI v3)), (4, .int (gI v4)), (5, .int (gI v5)), (6, .int (gI v6)), (7, .int (gI v7))] [] (gi_cv h) (.inl (some (.int (gI res)))) (gi_cv h1)
  | 0, _, _, _, _, _, _, _, _, _, _, _, e => gx_0E e
  | k + 1, _, _, _, _, _, _, _, _, _, hkc, hks, e => zb_L_tables_68 (n := n) hkc hks  (fun kc ks => zl_L_tables_68  k kc ks) e
set_option maxRecDepth 100000 in
def b_L_tables_57 (n : Nat)  (v0 : Nat) (v3 : Int) (s0 : Int) (h : gi_H) : Option (Int × gi_H) :=
  l_L_tables_68 n  5 v0 v3 s0 (-1 : Int) (0 : Int) (3 : Int) h
set_option maxRecDepth 100000 in
theorem zb_L_tables_57 {n : Nat}  {res : Int} {h1 : gi_H}  {v0 : Nat} {v3 : Int} {s0 : Int} {h : gi_H} (e : b_L_tables_57 n v0 v3 s0 h = some (res, h1)) : gx_Z mL_tables false false 3 18 57 [(0, .ref v0), (3, .int (gI v3))] [.int (gI s0)] (gi_cv h) (.inl (some (.int (gI res)))) (gi_cv h1) := by
  refine gx_istore (ls2 := [(4, .int (gI s0)), (0, .ref v0), (3, .int (gI v3))]) dL_tables_57 (Nat.le_of_ble_eq_true rfl) rfl ?_
  refine gy_iconst dL_tables_59 ?_
  refine gx_istore (ls2 := [(5, .int (gI (-1 : Int))), (4, .int (gI s0)), (0, .ref v0), (3, .int (gI v3))]) dL_tables_60 (Nat.le_of_ble_eq_true rfl) rfl ?_
  refine gy_iconst dL_tables_62 ?_
  refine gx_istore (ls2 := [(6, .int (gI (0 : Int))), (5, .int (gI (-1 : Int))), (4, .int (gI s0)), (0, .ref v0), (3, .int (gI v3))]) dL_tables_63 (Nat.le_of_ble_eq_true rfl) rfl ?_
  refine gy_iconst dL_tables_65 ?_
  refine gx_istore (ls2 := [(7, .int (gI (3 : Int))), (6, .int (gI (0 : Int))), (5, .int (gI (-1 : Int))), (4, .int (gI s0)), (0, .ref v0), (3, .int (gI v3))]) dL_tables_66 (Nat.le_of_ble_eq_true rfl) rfl ?_
  refine gx_sub (ls2 := [(0, .ref v0), (3, .int (gI v3)), (4, .int (gI s0)), (5, .int (gI (-1 : Int))), (6, .int (gI (0 : Int))), (7, .int (gI (3 : Int)))]) [4, 5, 3, 2, 1, 0] rfl ?_
  exact zl_L_tables_68  5 3 18 _ _ _ _ _ _ _ (Nat.le_of_ble_eq_true rfl) (Nat.le_of_ble_eq_true rfl) e
set_option maxRecDepth 100000 in
def b_L_tables_56 (n : Nat)  (v0 : Nat) (v3 : Int)  (h : gi_H) : Option (Int × gi_H) :=
  b_L_tables_57 n  v0 v3 (0 : Int) h
set_option maxRecDepth 100000 in
theorem zb_L_tables_56 {n : Nat}  {res : Int} {h1 : gi_H}  {v0 : Nat} {v3 : Int}  {h : gi_H} (e : b_L_tables_56 n v0 v3 h = some (res, h1)) : gx_Z mL_tables false false 3 18 56 [(0, .ref v0), (3, .int (gI v3))] [] (gi_cv h) (.inl (some (.int (gI res)))) (gi_cv h1) := by
  refine gy_iconst dL_tables_56 ?_
  exact zb_L_tables_57  e
set_option maxRecDepth 100000 in
def b_L_tables_52 (n : Nat)  (v0 : Nat) (v3 : Int)  (h : gi_H) : Option (Int × gi_H) :=
  b_L_tables_57 n  v0 v3 (1 : Int) h
set_option maxRecDepth 100000 in
theorem zb_L_tables_52 {n : Nat}  {res : Int} {h1 : gi_H}  {v0 : Nat} {v3 : Int}  {h : gi_H} (e : b_L_tables_52 n v0 v3 h = some (res, h1)) : gx_Z mL_tables false false 3 18 52 [(0, .ref v0), (3, .int (gI v3))] [] (gi_cv h) (.inl (some (.int (gI res)))) (gi_cv h1) := by
  refine gy_iconst dL_tables_52 ?_
  refine gx_goto (tgt := 57) dL_tables_53 (by decide) ?_
  exact zb_L_tables_57  e
set_option maxRecDepth 100000 in
def f_L_tables (n : Nat) (v0 : Nat) (h : gi_H) : Option (Int × gi_H) :=
  Option.bind (f_L_size n v0 (1 : Int) h) fun q1 => Option.bind (f_L_size n v0 (2 : Int) q1.2) fun q2 => Option.bind (f_L_size n v0 (3 : Int) q2.2) fun q3 => Option.bind (gi_rg q1.1) fun _ => Option.bind (gi_rg q2.1) fun _ => if q1.1 = q2.1 then (if q1.1 = 0 then (b_L_tables_56 n  v0 q3.1 q3.2) else (if (80 : Int) < q1.1 then (b_L_tables_56 n  v0 q3.1 q3.2) else (Option.bind (gi_rg q3.1) fun _ => if (80 : Int) < q3.1 then (b_L_tables_56 n  v0 q3.1 q3.2) else (if q3.1 < 0 then (b_L_tables_52 n  v0 q3.1 q3.2) else (if q3.1 < q2.1 then (b_L_tables_56 n  v0 q3.1 q3.2) else (if q2.1 ≤ 0 then (b_L_tables_56 n  v0 q3.1 q3.2) else (b_L_tables_52 n  v0 q3.1 q3.2))))))) else (b_L_tables_56 n  v0 q3.1 q3.2)
set_option maxRecDepth 100000 in
theorem z_L_tables {n : Nat} {v0 : Nat} {h : gi_H} {res : Int} {h1 : gi_H} (e : f_L_tables n v0 h = some (res, h1)) : gx_Cw mL_tables false [.ref v0] (gi_cv h) (.inl (some (.int (gI res)))) (gi_cv h1) := by
  refine gx_enter (by decide +kernel) rfl (Nat.le_of_ble_eq_true rfl) ?_
  show gx_Z mL_tables false false 0 0 0 [(0, .ref v0)] [] (gi_cv h) (.inl (some (.int (gI res)))) (gi_cv h1)
  refine gx_aload_n dL_tables_0 rfl 0 rfl ?_
  refine gy_iconst dL_tables_1 ?_
  refine gx_bE e (fun q1 hq1 e => ?_)
  refine gx_callSW (n := 2) (st := []) (As := [.ref v0, .int (gI (1 : Int))]) dL_tables_2 (z_L_size hq1) rfl ⟨(by decide +kernel), gw_cw_L_size, gw_0, gp_L_size, ⟨Nat.le_of_ble_eq_true rfl, Nat.le_of_ble_eq_true rfl⟩⟩ gw_964 gw_965 ⟨Nat.le_of_ble_eq_true rfl, Nat.le_of_ble_eq_true rfl⟩ (Nat.le_of_ble_eq_true rfl) (gy_k1 (x := .int (gI q1.1)) (kc2 := 1) (ks2 := 6) ⟨rfl, rfl⟩ ?_)
  refine gx_istore_n (ls2 := [(1, .int (gI q1.1)), (0, .ref v0)]) dL_tables_5 rfl (Nat.le_of_ble_eq_true rfl) rfl ?_
  refine gx_aload_n dL_tables_6 rfl 1 rfl ?_
  refine gy_iconst dL_tables_7 ?_
  refine gx_bE e (fun q2 hq2 e => ?_)
  refine gx_callSW (n := 2) (st := []) (As := [.ref v0, .int (gI (2 : Int))]) dL_tables_8 (z_L_size hq2) rfl ⟨(by decide +kernel), gw_cw_L_size, gw_0, gp_L_size, ⟨Nat.le_of_ble_eq_true rfl, Nat.le_of_ble_eq_true rfl⟩⟩ gw_964 gw_965 ⟨Nat.le_of_ble_eq_true rfl, Nat.le_of_ble_eq_true rfl⟩ (Nat.le_of_ble_eq_true rfl) (gy_k1 (x := .int (gI q2.1)) (kc2 := 2) (ks2 := 12) ⟨rfl, rfl⟩ ?_)
  refine gx_istore_n (ls2 := [(2, .int (gI q2.1)), (1, .int (gI q1.1)), (0, .ref v0)]) dL_tables_11 rfl (Nat.le_of_ble_eq_true rfl) rfl ?_
  refine gx_aload_n dL_tables_12 rfl 2 rfl ?_
  refine gy_iconst dL_tables_13 ?_
  refine gx_bE e (fun q3 hq3 e => ?_)
  refine gx_callSW (n := 2) (st := []) (As := [.ref v0, .int (gI (3 : Int))]) dL_tables_14 (z_L_size hq3) rfl ⟨(by decide +kernel), gw_cw_L_size, gw_0, gp_L_size, ⟨Nat.le_of_ble_eq_true rfl, Nat.le_of_ble_eq_true rfl⟩⟩ gw_964 gw_965 ⟨Nat.le_of_ble_eq_true rfl, Nat.le_of_ble_eq_true rfl⟩ (Nat.le_of_ble_eq_true rfl) (gy_k1 (x := .int (gI q3.1)) (kc2 := 3) (ks2 := 18) ⟨rfl, rfl⟩ ?_)
  refine gx_istore_n (ls2 := [(3, .int (gI q3.1)), (2, .int (gI q2.1)), (1, .int (gI q1.1)), (0, .ref v0)]) dL_tables_17 rfl (Nat.le_of_ble_eq_true rfl) rfl ?_
  refine gx_iload_n dL_tables_18 rfl 2 rfl ?_
  refine gx_iload_n dL_tables_19 rfl 1 rfl ?_
  refine gx_bE e (fun _ g4 e => ?_)
  refine gx_bE e (fun _ g5 e => ?_)
  refine gx_iE e (fun c6 e => ?_) (fun c6 e => ?_)
  · refine gy_icmp_ne (tgt := 56) (gi_rgS g4) (gi_rgS g5) dL_tables_20 (by decide) (fun z => absurd c6 z) (fun _ => ?_)
    refine gx_iload_n dL_tables_23 rfl 2 rfl ?_
    refine gx_iE e (fun c7 e => ?_) (fun c7 e => ?_)
    · refine gy_if_eq (tgt := 56) (gi_rgS g4) dL_tables_24 (by decide) (fun _ => ?_) (fun z => absurd c7 z)
      refine gx_sub (ls2 := [(0, .ref v0), (3, .int (gI q3.1))]) [3, 0] rfl ?_
      exact zb_L_tables_56  e
    · refine gy_if_eq (tgt := 56) (gi_rgS g4) dL_tables_24 (by decide) (fun z => absurd z c7) (fun _ => ?_)
      refine gx_iload_n dL_tables_27 rfl 2 rfl ?_
      refine gy_bipush dL_tables_28 gcb_80 ?_
      refine gx_iE e (fun c63 e => ?_) (fun c63 e => ?_)
      · refine gy_icmp_gt (tgt := 56) (gi_rgS g4) (by decide) dL_tables_30 (by decide) (fun _ => ?_) (fun z => absurd c63 z)
        refine gx_sub (ls2 := [(0, .ref v0), (3, .int (gI q3.1))]) [3, 0] rfl ?_
        exact zb_L_tables_56  e
      · refine gy_icmp_gt (tgt := 56) (gi_rgS g4) (by decide) dL_tables_30 (by decide) (fun z => absurd z c63) (fun _ => ?_)
        refine gx_iload_n dL_tables_33 rfl 0 rfl ?_
        refine gy_bipush dL_tables_34 gcb_80 ?_
        refine gx_bE e (fun _ g64 e => ?_)
        refine gx_iE e (fun c65 e => ?_) (fun c65 e => ?_)
        · refine gy_icmp_gt (tgt := 56) (gi_rgS g64) (by decide) dL_tables_36 (by decide) (fun _ => ?_) (fun z => absurd c65 z)
          refine gx_sub (ls2 := [(0, .ref v0), (3, .int (gI q3.1))]) [3, 0] rfl ?_
          exact zb_L_tables_56  e
        · refine gy_icmp_gt (tgt := 56) (gi_rgS g64) (by decide) dL_tables_36 (by decide) (fun z => absurd z c65) (fun _ => ?_)
          refine gx_iload_n dL_tables_39 rfl 0 rfl ?_
          refine gx_iE e (fun c66 e => ?_) (fun c66 e => ?_)
          · refine gy_if_lt (tgt := 52) (gi_rgS g64) dL_tables_40 (by decide) (fun _ => ?_) (fun z => absurd c66 z)
            refine gx_sub (ls2 := [(0, .ref v0), (3, .int (gI q3.1))]) [3, 0] rfl ?_
            exact zb_L_tables_52  e
          · refine gy_if_lt (tgt := 52) (gi_rgS g64) dL_tables_40 (by decide) (fun z => absurd z c66) (fun _ => ?_)
            refine gx_iload_n dL_tables_43 rfl 0 rfl ?_
            refine gx_iload_n dL_tables_44 rfl 1 rfl ?_
            refine gx_iE e (fun c67 e => ?_) (fun c67 e => ?_)
            · refine gy_icmp_lt (tgt := 56) (gi_rgS g64) (gi_rgS g5) dL_tables_45 (by decide) (fun _ => ?_) (fun z => absurd c67 z)
              refine gx_sub (ls2 := [(0, .ref v0), (3, .int (gI q3.1))]) [3, 0] rfl ?_
              exact zb_L_tables_56  e
            · refine gy_icmp_lt (tgt := 56) (gi_rgS g64) (gi_rgS g5) dL_tables_45 (by decide) (fun z => absurd z c67) (fun _ => ?_)
              refine gx_iload_n dL_tables_48 rfl 1 rfl ?_
              refine gx_iE e (fun c68 e => ?_) (fun c68 e => ?_)
              · refine gy_if_le (tgt := 56) (gi_rgS g5) dL_tables_49 (by decide) (fun _ => ?_) (fun z => absurd c68 z)
                refine gx_sub (ls2 := [(0, .ref v0), (3, .int (gI q3.1))]) [3, 0] rfl ?_
                exact zb_L_tables_56  e
              · refine gy_if_le (tgt := 56) (gi_rgS g5) dL_tables_49 (by decide) (fun z => absurd z c68) (fun _ => ?_)
                refine gx_sub (ls2 := [(0, .ref v0), (3, .int (gI q3.1))]) [3, 0] rfl ?_
                exact zb_L_tables_52  e
  · refine gy_icmp_ne (tgt := 56) (gi_rgS g4) (gi_rgS g5) dL_tables_20 (by decide) (fun _ => ?_) (fun z => absurd z c6)
    refine gx_sub (ls2 := [(0, .ref v0), (3, .int (gI q3.1))]) [3, 0] rfl ?_
    exact zb_L_tables_56  e
/-! X11_readings  -/
set_option maxRecDepth 100000 in
def f_X11_readings (n : Nat) (v0 : Nat) (h : gi_H) : Option (Int × gi_H) :=
  Option.bind (gi_gR h v0 9 8) fun t1 => Option.bind (gi_is h t1 2) fun _ => Option.bind (f_X3_learn n t1 h) fun q3 => Option.bind (gi_gR q3 v0 9 15) fun t4 => Option.bind (gi_gI q3 v0 9 7) fun t5 => if gi_S q3 t4 = (0, 1) then (Option.bind (gi_is q3 t4 1) fun _ => Option.bind (f_X1_measure_1 n t4 t5 q3) fun q8 => some (q8.1, q8.2)) else (Option.bind (gi_is q3 t4 5) fun _ => Option.bind (f_X1_measure_5 n t4 t5 q3) fun q10 => some (q10.1, q10.2))
set_option maxRecDepth 100000 in
theorem z_X11_readings {al : Bool} {n : Nat} {v0 : Nat} {h : gi_H} {res : Int} {h1 : gi_H} (e : f_X11_readings n v0 h = some (res, h1)) : gx_Cw mX11_readings al [.ref v0] (gi_cv h) (.inl (some (.int (gI res)))) (gi_cv h1) := by
  refine gx_enter (by decide +kernel) rfl (Nat.le_of_ble_eq_true rfl) ?_
  show gx_Z mX11_readings al al 0 0 0 [(0, .ref v0)] [] (gi_cv h) (.inl (some (.int (gI res)))) (gi_cv h1)
  refine gx_aload_n dX11_readings_0 rfl 0 rfl ?_
  refine gx_bE e (fun t1 ht1 e => ?_)
  refine gy_fR ht1 dX11_readings_1 gf_RX11_52_9_8 (by decide) gkN_9_8 gkR_9_8 ?_
  refine gx_bE e (fun _ hu2 e => ?_)
  refine gx_bE e (fun q3 hq3 e => ?_)
  refine gx_callV (n := 0) (st := []) (As := []) (b := t1) dX11_readings_4 (z_X3_learn hq3) rfl ⟨rfl, gw_cw_X3_learn, gw_6, gp_X3_learn, ⟨Nat.le_of_ble_eq_true rfl, Nat.le_of_ble_eq_true rfl⟩⟩ (gi_isS hu2) (by decide) gw_391 gw_392 gw_393 rfl ⟨Nat.le_of_ble_eq_true rfl, Nat.le_of_ble_eq_true rfl⟩ (Nat.le_of_ble_eq_true rfl) (gy_k0 (kc2 := 0) (ks2 := 0) ⟨rfl, rfl⟩ ?_) gy_kn
  refine gx_aload_n dX11_readings_7 rfl 0 rfl ?_
  refine gx_bE e (fun t4 ht4 e => ?_)
  refine gy_fR ht4 dX11_readings_8 gf_RX11_91_9_15 (by decide) gkN_9_15 gkR_9_15 ?_
  refine gx_aload_n dX11_readings_11 rfl 0 rfl ?_
  refine gx_bE e (fun t5 ht5 e => ?_)
  refine gy_fI ht5 dX11_readings_12 gf_RX11_252_9_7 (by decide) gkN_9_7 gkR_9_7 ?_
  refine gx_iE e (fun c6 e => ?_) (fun c6 e => ?_)
  · refine gx_bE e (fun _ hu7 e => ?_)
    refine gx_bE e (fun q8 hq8 e => ?_)
    refine gx_callU (n := 1) (st := []) (As := [.int (gI t5)]) (b := t4) dX11_readings_15 (z_X1_measure_1 hq8) rfl ⟨rfl, gw_cw_X1_measure, gw_11, gp_X1_measure, ⟨Nat.le_of_ble_eq_true rfl, Nat.le_of_ble_eq_true rfl⟩⟩ (gi_isS hu7) (by decide) (x := ⟨"Grammarsmith$Chart", "measure", "(I)I"⟩) (owner := "Grammarsmith$Chart") gw_519 gw_521 gw_522 gw_520 rfl (by decide +kernel) ⟨Nat.le_of_ble_eq_true rfl, Nat.le_of_ble_eq_true rfl⟩ (Nat.le_of_ble_eq_true rfl) (gy_k1 (x := .int (gI q8.1)) (kc2 := 0) (ks2 := 0) ⟨rfl, rfl⟩ ?_) gy_kn
    cases e
    exact gx_iret dX11_readings_18 rfl ⟨Nat.le_of_ble_eq_true rfl, Nat.le_of_ble_eq_true rfl⟩ (fun z => z)
  · refine gx_bE e (fun _ hu9 e => ?_)
    refine gx_bE e (fun q10 hq10 e => ?_)
    refine gx_callU (n := 1) (st := []) (As := [.int (gI t5)]) (b := t4) dX11_readings_15 (z_X1_measure_5 hq10) rfl ⟨rfl, gw_cw_X1_measure, gw_11, gp_X1_measure, ⟨Nat.le_of_ble_eq_true rfl, Nat.le_of_ble_eq_true rfl⟩⟩ (gi_isS hu9) (by decide) (x := ⟨"Grammarsmith$Chart", "measure", "(I)I"⟩) (owner := "Grammarsmith$Chart") gw_519 gw_521 gw_523 gw_520 rfl (by decide +kernel) ⟨Nat.le_of_ble_eq_true rfl, Nat.le_of_ble_eq_true rfl⟩ (Nat.le_of_ble_eq_true rfl) (gy_k1 (x := .int (gI q10.1)) (kc2 := 0) (ks2 := 0) ⟨rfl, rfl⟩ ?_) gy_kn
    cases e
    exact gx_iret dX11_readings_18 rfl ⟨Nat.le_of_ble_eq_true rfl, Nat.le_of_ble_eq_true rfl⟩ (fun z => z)
/-! X5_push  -/
set_option maxRecDepth 100000 in
def f_X5_push (v0 : Nat) (v1 : Int) (h : gi_H) : Option (gi_H) :=
  Option.bind (gi_gI h v0 4 4) fun t1 => Option.bind (gi_rg t1) fun _ => if t1 < 0 then (some h) else (Option.bind (gi_gI h v0 4 4) fun t4 => Option.bind (gi_gR h v0 4 3) fun t5 => Option.bind (gi_ln h t5) fun t6 => Option.bind (gi_rg t4) fun _ => Option.bind (gi_rg t6) fun _ => if t6 ≤ t4 then (some h) else (Option.bind (gi_gR h v0 4 3) fun t10 => Option.bind (gi_gI h v0 4 4) fun t11 => Option.bind (gi_s1 h t10 t11 v1) fun h12 => Option.bind (gi_gI h12 v0 4 4) fun t13 => Option.bind (gi_pI h12 v0 4 4 (t13 + (1 : Int))) fun h14 => some h14))
set_option maxRecDepth 100000 in
theorem z_X5_push {al : Bool} {v0 : Nat} {v1 : Int} {h : gi_H} {h1 : gi_H} (e : f_X5_push v0 v1 h = some h1) : gx_Cw mX5_push al [.ref v0, .int (gI v1)] (gi_cv h) (.inl none) (gi_cv h1) := by
  refine gx_enter (by decide +kernel) rfl (Nat.le_of_ble_eq_true rfl) ?_
  show gx_Z mX5_push al al 0 0 0 [(0, .ref v0), (1, .int (gI v1))] [] (gi_cv h) (.inl none) (gi_cv h1)
  refine gx_aload_n dX5_push_0 rfl 0 rfl ?_
  refine gx_bE e (fun t1 ht1 e => ?_)
  refine gy_fI ht1 dX5_push_1 gf_RX5_29_4_4 (by decide) gkN_4_4 gkR_4_4 ?_
  refine gx_bE e (fun _ g2 e => ?_)
  refine gx_iE e (fun c3 e => ?_) (fun c3 e => ?_)
  · refine gy_if_lt (tgt := 39) (gi_rgS g2) dX5_push_4 (by decide) (fun _ => ?_) (fun z => absurd c3 z)
    cases e
    exact gx_vret dX5_push_39 rfl ⟨Nat.le_of_ble_eq_true rfl, Nat.le_of_ble_eq_true rfl⟩ (fun z => z)
  · refine gy_if_lt (tgt := 39) (gi_rgS g2) dX5_push_4 (by decide) (fun z => absurd z c3) (fun _ => ?_)
    refine gx_aload_n dX5_push_7 rfl 0 rfl ?_
    refine gx_bE e (fun t4 ht4 e => ?_)
    refine gy_fI ht4 dX5_push_8 gf_RX5_29_4_4 (by decide) gkN_4_4 gkR_4_4 ?_
    refine gx_aload_n dX5_push_11 rfl 0 rfl ?_
    refine gx_bE e (fun t5 ht5 e => ?_)
    refine gy_fR ht5 dX5_push_12 gf_RX5_9_4_3 (by decide) gkN_4_3 gkR_4_3 ?_
    refine gx_bE e (fun t6 ht6 e => ?_)
    refine gy_al0 ht6 dX5_push_15 ?_
    refine gx_bE e (fun _ g7 e => ?_)
    refine gx_bE e (fun _ g8 e => ?_)
    refine gx_iE e (fun c9 e => ?_) (fun c9 e => ?_)
    · refine gy_icmp_ge (tgt := 39) (gi_rgS g7) (gi_rgS g8) dX5_push_16 (by decide) (fun _ => ?_) (fun z => absurd c9 z)
      cases e
      exact gx_vret dX5_push_39 rfl ⟨Nat.le_of_ble_eq_true rfl, Nat.le_of_ble_eq_true rfl⟩ (fun z => z)
    · refine gy_icmp_ge (tgt := 39) (gi_rgS g7) (gi_rgS g8) dX5_push_16 (by decide) (fun z => absurd z c9) (fun _ => ?_)
      refine gx_aload_n dX5_push_19 rfl 0 rfl ?_
      refine gx_bE e (fun t10 ht10 e => ?_)
      refine gy_fR ht10 dX5_push_20 gf_RX5_9_4_3 (by decide) gkN_4_3 gkR_4_3 ?_
      refine gx_aload_n dX5_push_23 rfl 0 rfl ?_
      refine gx_bE e (fun t11 ht11 e => ?_)
      refine gy_fI ht11 dX5_push_24 gf_RX5_29_4_4 (by decide) gkN_4_4 gkR_4_4 ?_
      refine gx_iload_n dX5_push_27 rfl 1 rfl ?_
      refine gx_bE e (fun h12 hh12 e => ?_)
      refine gy_t1 hh12 dX5_push_28 ?_
      refine gx_aload_n dX5_push_29 rfl 0 rfl ?_
      refine gx_dup dX5_push_30 rfl ?_
      refine gx_bE e (fun t13 ht13 e => ?_)
      refine gy_fI ht13 dX5_push_31 gf_RX5_29_4_4 (by decide) gkN_4_4 gkR_4_4 ?_
      refine gy_iconst dX5_push_34 ?_
      refine gy_iadd dX5_push_35 ?_
      refine gx_bE e (fun h14 hh14 e => ?_)
      refine gy_qI hh14 dX5_push_36 gf_RX5_29_4_4 (by decide) gkN_4_4 rfl (Or.inl rfl) ?_
      cases e
      exact gx_vret dX5_push_39 rfl ⟨Nat.le_of_ble_eq_true rfl, Nat.le_of_ble_eq_true rfl⟩ (fun z => z)
/-! X11_lookAt  -/
set_option maxRecDepth 100000 in
def b_X11_lookAt_16    (h : gi_H) : Option (Int) :=
  some (8 : Int)
set_option maxRecDepth 100000 in
theorem zb_X11_lookAt_16 {al : Bool}  {res : Int}    {h : gi_H} (e : b_X11_lookAt_16  h = some res) : gx_Z mX11_lookAt al al 0 0 16 [] [] (gi_cv h) (.inl (some (.int (gI res)))) (gi_cv h) := by
  refine gy_bipush dX11_lookAt_16 gcb_8 ?_
  cases e
  exact gx_iret dX11_lookAt_18 rfl ⟨Nat.le_of_ble_eq_true rfl, Nat.le_of_ble_eq_true rfl⟩ (fun z => z)
set_option maxRecDepth 100000 in
def f_X11_lookAt (v0 : Nat) (v1 : Int) (h : gi_H) : Option (Int) :=
  Option.bind (gi_rg v1) fun _ => if v1 < 0 then (b_X11_lookAt_16   h) else (Option.bind (gi_ln h v0) fun t3 => Option.bind (gi_rg t3) fun _ => if t3 ≤ v1 then (b_X11_lookAt_16   h) else (Option.bind (gi_aI h 1 v0 v1) fun t6 => some t6))
set_option maxRecDepth 100000 in
theorem z_X11_lookAt {al : Bool} {v0 : Nat} {v1 : Int} {h : gi_H} {res : Int} (e : f_X11_lookAt v0 v1 h = some res) : gx_Cw mX11_lookAt al [.ref v0, .int (gI v1)] (gi_cv h) (.inl (some (.int (gI res)))) (gi_cv h) := by
  refine gx_enter (by decide +kernel) rfl (Nat.le_of_ble_eq_true rfl) ?_
  show gx_Z mX11_lookAt al al 0 0 0 [(0, .ref v0), (1, .int (gI v1))] [] (gi_cv h) (.inl (some (.int (gI res)))) (gi_cv h)
  refine gx_iload_n dX11_lookAt_0 rfl 1 rfl ?_
  refine gx_bE e (fun _ g1 e => ?_)
  refine gx_iE e (fun c2 e => ?_) (fun c2 e => ?_)
  · refine gy_if_lt (tgt := 16) (gi_rgS g1) dX11_lookAt_1 (by decide) (fun _ => ?_) (fun z => absurd c2 z)
    refine gx_sub (ls2 := []) [] rfl ?_
    exact zb_X11_lookAt_16  e
  · refine gy_if_lt (tgt := 16) (gi_rgS g1) dX11_lookAt_1 (by decide) (fun z => absurd z c2) (fun _ => ?_)
    refine gx_iload_n dX11_lookAt_4 rfl 1 rfl ?_
    refine gx_aload_n dX11_lookAt_5 rfl 0 rfl ?_
    refine gx_bE e (fun t3 ht3 e => ?_)
    refine gy_al0 ht3 dX11_lookAt_6 ?_
    refine gx_bE e (fun _ g4 e => ?_)
    refine gx_iE e (fun c5 e => ?_) (fun c5 e => ?_)
    · refine gy_icmp_ge (tgt := 16) (gi_rgS g1) (gi_rgS g4) dX11_lookAt_7 (by decide) (fun _ => ?_) (fun z => absurd c5 z)
      refine gx_sub (ls2 := []) [] rfl ?_
      exact zb_X11_lookAt_16  e
    · refine gy_icmp_ge (tgt := 16) (gi_rgS g1) (gi_rgS g4) dX11_lookAt_7 (by decide) (fun z => absurd z c5) (fun _ => ?_)
      refine gx_aload_n dX11_lookAt_10 rfl 0 rfl ?_
      refine gx_iload_n dX11_lookAt_11 rfl 1 rfl ?_
      refine gx_bE e (fun t6 ht6 e => ?_)
      refine gy_l1 ht6 dX11_lookAt_12 ?_
      refine gx_goto (tgt := 18) dX11_lookAt_13 (by decide) ?_
      cases e
      exact gx_iret dX11_lookAt_18 rfl ⟨Nat.le_of_ble_eq_true rfl, Nat.le_of_ble_eq_true rfl⟩ (fun z => z)
/-! X5_next  -/
set_option maxRecDepth 100000 in
def b_X5_next_33    (h : gi_H) : Option (Int) :=
  some (-1 : Int)
set_option maxRecDepth 100000 in
theorem zb_X5_next_33 {al : Bool}  {res : Int}    {h : gi_H} (e : b_X5_next_33  h = some res) : gx_Z mX5_next al al 0 0 33 [] [] (gi_cv h) (.inl (some (.int (gI res)))) (gi_cv h) := by
  refine gy_iconst dX5_next_33 ?_
  cases e
  exact gx_iret dX5_next_34 rfl ⟨Nat.le_of_ble_eq_true rfl, Nat.le_of_ble_eq_true rfl⟩ (fun z => z)
set_option maxRecDepth 100000 in
def f_X5_next (v0 : Nat) (h : gi_H) : Option (Int) :=
  Option.bind (gi_gI h v0 4 4) fun t1 => Option.bind (gi_rg t1) fun _ => if t1 ≤ 0 then (b_X5_next_33   h) else (Option.bind (gi_gI h v0 4 4) fun t4 => Option.bind (gi_gR h v0 4 3) fun t5 => Option.bind (gi_ln h t5) fun t6 => Option.bind (gi_rg t4) fun _ => Option.bind (gi_rg t6) fun _ => if t6 < t4 then (b_X5_next_33   h) else (Option.bind (gi_gR h v0 4 3) fun t10 => Option.bind (gi_gI h v0 4 4) fun t11 => Option.bind (gi_aI h 1 t10 (t11 - (1 : Int))) fun t12 => some t12))
set_option maxRecDepth 100000 in
theorem z_X5_next {al : Bool} {v0 : Nat} {h : gi_H} {res : Int} (e : f_X5_next v0 h = some res) : gx_Cw mX5_next al [.ref v0] (gi_cv h) (.inl (some (.int (gI res)))) (gi_cv h) := by
  refine gx_enter (by decide +kernel) rfl (Nat.le_of_ble_eq_true rfl) ?_
  show gx_Z mX5_next al al 0 0 0 [(0, .ref v0)] [] (gi_cv h) (.inl (some (.int (gI res)))) (gi_cv h)
  refine gx_aload_n dX5_next_0 rfl 0 rfl ?_
  refine gx_bE e (fun t1 ht1 e => ?_)
  refine gy_fI ht1 dX5_next_1 gf_RX5_29_4_4 (by decide) gkN_4_4 gkR_4_4 ?_
  refine gx_bE e (fun _ g2 e => ?_)
  refine gx_iE e (fun c3 e => ?_) (fun c3 e => ?_)
  · refine gy_if_le (tgt := 33) (gi_rgS g2) dX5_next_4 (by decide) (fun _ => ?_) (fun z => absurd c3 z)
    refine gx_sub (ls2 := []) [] rfl ?_
    exact zb_X5_next_33  e
  · refine gy_if_le (tgt := 33) (gi_rgS g2) dX5_next_4 (by decide) (fun z => absurd z c3) (fun _ => ?_)
    refine gx_aload_n dX5_next_7 rfl 0 rfl ?_
    refine gx_bE e (fun t4 ht4 e => ?_)
    refine gy_fI ht4 dX5_next_8 gf_RX5_29_4_4 (by decide) gkN_4_4 gkR_4_4 ?_
    refine gx_aload_n dX5_next_11 rfl 0 rfl ?_
    refine gx_bE e (fun t5 ht5 e => ?_)
    refine gy_fR ht5 dX5_next_12 gf_RX5_9_4_3 (by decide) gkN_4_3 gkR_4_3 ?_
    refine gx_bE e (fun t6 ht6 e => ?_)
    refine gy_al0 ht6 dX5_next_15 ?_
    refine gx_bE e (fun _ g7 e => ?_)
    refine gx_bE e (fun _ g8 e => ?_)
    refine gx_iE e (fun c9 e => ?_) (fun c9 e => ?_)
    · refine gy_icmp_gt (tgt := 33) (gi_rgS g7) (gi_rgS g8) dX5_next_16 (by decide) (fun _ => ?_) (fun z => absurd c9 z)
      refine gx_sub (ls2 := []) [] rfl ?_
      exact zb_X5_next_33  e
    · refine gy_icmp_gt (tgt := 33) (gi_rgS g7) (gi_rgS g8) dX5_next_16 (by decide) (fun z => absurd z c9) (fun _ => ?_)
      refine gx_aload_n dX5_next_19 rfl 0 rfl ?_
      refine gx_bE e (fun t10 ht10 e => ?_)
      refine gy_fR ht10 dX5_next_20 gf_RX5_9_4_3 (by decide) gkN_4_3 gkR_4_3 ?_
      refine gx_aload_n dX5_next_23 rfl 0 rfl ?_
      refine gx_bE e (fun t11 ht11 e => ?_)
      refine gy_fI ht11 dX5_next_24 gf_RX5_29_4_4 (by decide) gkN_4_4 gkR_4_4 ?_
      refine gy_iconst dX5_next_27 ?_
      refine gy_isub dX5_next_28 ?_
      refine gx_bE e (fun t12 ht12 e => ?_)
      refine gy_l1 ht12 dX5_next_29 ?_
      refine gx_goto (tgt := 34) dX5_next_30 (by decide) ?_
      cases e
      exact gx_iret dX5_next_34 rfl ⟨Nat.le_of_ble_eq_true rfl, Nat.le_of_ble_eq_true rfl⟩ (fun z => z)
/-! X5_pop  -/
set_option maxRecDepth 100000 in
def f_X5_pop (v0 : Nat) (h : gi_H) : Option (Int × gi_H) :=
  Option.bind (gi_is h v0 4) fun _ => Option.bind (f_X5_next v0 h) fun q2 => Option.bind (gi_gI h v0 4 4) fun t3 => Option.bind (gi_rg t3) fun _ => if t3 ≤ 0 then (some (q2, h)) else (Option.bind (gi_gI h v0 4 4) fun t6 => Option.bind (gi_pI h v0 4 4 (t6 - (1 : Int))) fun h7 => some (q2, h7))
set_option maxRecDepth 100000 in
theorem z_X5_pop {al : Bool} {v0 : Nat} {h : gi_H} {res : Int} {h1 : gi_H} (e : f_X5_pop v0 h = some (res, h1)) : gx_Cw mX5_pop al [.ref v0] (gi_cv h) (.inl (some (.int (gI res)))) (gi_cv h1) := by
  refine gx_enter (by decide +kernel) rfl (Nat.le_of_ble_eq_true rfl) ?_
  show gx_Z mX5_pop al al 0 0 0 [(0, .ref v0)] [] (gi_cv h) (.inl (some (.int (gI res)))) (gi_cv h1)
  refine gx_aload_n dX5_pop_0 rfl 0 rfl ?_
  refine gx_bE e (fun _ hu1 e => ?_)
  refine gx_bE e (fun q2 hq2 e => ?_)
  refine gx_callV (n := 0) (st := []) (As := []) (b := v0) dX5_pop_1 (z_X5_next hq2) rfl ⟨rfl, gw_cw_X5_next, gw_9, gp_X5_next, ⟨Nat.le_of_ble_eq_true rfl, Nat.le_of_ble_eq_true rfl⟩⟩ (gi_isS hu1) (by decide) gw_1201 gw_1203 gs_49 rfl ⟨Nat.le_of_ble_eq_true rfl, Nat.le_of_ble_eq_true rfl⟩ (Nat.le_of_ble_eq_true rfl) (gy_k1 (x := .int (gI q2)) (kc2 := 0) (ks2 := 0) ⟨rfl, rfl⟩ ?_) gy_kn
  refine gx_istore_n (ls2 := [(1, .int (gI q2)), (0, .ref v0)]) dX5_pop_4 rfl (Nat.le_of_ble_eq_true rfl) rfl ?_
  refine gx_aload_n dX5_pop_5 rfl 1 rfl ?_
  refine gx_bE e (fun t3 ht3 e => ?_)
  refine gy_fI ht3 dX5_pop_6 gf_RX5_29_4_4 (by decide) gkN_4_4 gkR_4_4 ?_
  refine gx_bE e (fun _ g4 e => ?_)
  refine gx_iE e (fun c5 e => ?_) (fun c5 e => ?_)
  · refine gy_if_le (tgt := 22) (gi_rgS g4) dX5_pop_9 (by decide) (fun _ => ?_) (fun z => absurd c5 z)
    refine gx_iload_n dX5_pop_22 rfl 0 rfl ?_
    cases e
    exact gx_iret dX5_pop_23 rfl ⟨Nat.le_of_ble_eq_true rfl, Nat.le_of_ble_eq_true rfl⟩ (fun z => z)
  · refine gy_if_le (tgt := 22) (gi_rgS g4) dX5_pop_9 (by decide) (fun z => absurd z c5) (fun _ => ?_)
    refine gx_aload_n dX5_pop_12 rfl 1 rfl ?_
    refine gx_dup dX5_pop_13 rfl ?_
    refine gx_bE e (fun t6 ht6 e => ?_)
    refine gy_fI ht6 dX5_pop_14 gf_RX5_29_4_4 (by decide) gkN_4_4 gkR_4_4 ?_
    refine gy_iconst dX5_pop_17 ?_
    refine gy_isub dX5_pop_18 ?_
    refine gx_bE e (fun h7 hh7 e => ?_)
    refine gy_qI hh7 dX5_pop_19 gf_RX5_29_4_4 (by decide) gkN_4_4 rfl (Or.inl rfl) ?_
    refine gx_iload_n dX5_pop_22 rfl 0 rfl ?_
    cases e
    exact gx_iret dX5_pop_23 rfl ⟨Nat.le_of_ble_eq_true rfl, Nat.le_of_ble_eq_true rfl⟩ (fun z => z)
/-! X5_worthOfTree  -/
set_option maxRecDepth 100000 in
def b_X5_worthOfTree_121 (n : Nat)  (v0 : Nat)  (h : gi_H) : Option (Int × gi_H) :=
  Option.bind (gi_is h v0 4) fun _ => Option.bind (f_X5_pop v0 h) fun q11 => some (q11.1, q11.2)
set_option maxRecDepth 100000 in
theorem zb_X5_worthOfTree_121 {al : Bool} {n : Nat}  {res : Int} {h1 : gi_H}  {v0 : Nat}  {h : gi_H} (e : b_X5_worthOfTree_121 n v0 h = some (res, h1)) : gx_Z mX5_worthOfTree al al 0 0 121 [(0, .ref v0)] [] (gi_cv h) (.inl (some (.int (gI res)))) (gi_cv h1) := by
  refine gx_aload_n dX5_worthOfTree_121 rfl 0 rfl ?_
  refine gx_bE e (fun _ hu10 e => ?_)
  refine gx_bE e (fun q11 hq11 e => ?_)
  refine gx_callV (n := 0) (st := []) (As := []) (b := v0) dX5_worthOfTree_122 (z_X5_pop hq11) rfl ⟨rfl, gw_cw_X5_pop, gw_9, gp_X5_pop, ⟨Nat.le_of_ble_eq_true rfl, Nat.le_of_ble_eq_true rfl⟩⟩ (gi_isS hu10) (by decide) gw_1197 gw_1199 gs_48 rfl ⟨Nat.le_of_ble_eq_true rfl, Nat.le_of_ble_eq_true rfl⟩ (Nat.le_of_ble_eq_true rfl) (gy_k1 (x := .int (gI q11.1)) (kc2 := 0) (ks2 := 0) ⟨rfl, rfl⟩ ?_) gy_kn
  cases e
  exact gx_iret dX5_worthOfTree_125 rfl ⟨Nat.le_of_ble_eq_true rfl, Nat.le_of_ble_eq_true rfl⟩ (fun z => z)
set_option maxRecDepth 100000 in
def b_X5_worthOfTree_106 (n : Nat) (r20 : Nat → Int → gi_H → Option (Int × gi_H)) (v0 : Nat) (v1 : Int) (v3 : Int)  (h : gi_H) : Option (Int × gi_H) :=
  Option.bind (gi_dg v3 (1009 : Int)) fun _ => Option.bind (gi_is h v0 4) fun _ => Option.bind (f_X5_push v0 (v3 % (1009 : Int)) h) fun q25 => gx_nm (v1 + (-1 : Int)) fun t26 => r20 v0 t26 q25
set_option maxRecDepth 100000 in
theorem zb_X5_worthOfTree_106 {al : Bool} {n : Nat} {r20 : Nat → Int → gi_H → Option (Int × gi_H)} {res : Int} {h1 : gi_H} (hr20 : ∀ (x0 : Nat) (x1 : Int) (hh : gi_H), r20 x0 x1 hh = some (res, h1) → gx_Z mX5_worthOfTree al al 0 0 20 [(0, .ref x0), (1, .int (gI x1))] [] (gi_cv hh) (.inl (some (.int (gI res)))) (gi_cv h1)) {v0 : Nat} {v1 : Int} {v3 : Int}  {h : gi_H} (e : b_X5_worthOfTree_106 n r20 v0 v1 v3 h = some (res, h1)) : gx_Z mX5_worthOfTree al al 0 0 106 [(0, .ref v0), (1, .int (gI v1)), (3, .int (gI v3))] [] (gi_cv h) (.inl (some (.int (gI res)))) (gi_cv h1) := by
  refine gx_aload_n dX5_worthOfTree_106 rfl 0 rfl ?_
  refine gx_iload_n dX5_worthOfTree_107 rfl 2 rfl ?_
  refine gy_sipush dX5_worthOfTree_108 gcs_1009 ?_
  refine gx_bE e (fun _ hu23 e => ?_)
  refine gy_irem hu23 dX5_worthOfTree_111 ?_
  refine gx_bE e (fun _ hu24 e => ?_)
  refine gx_bE e (fun q25 hq25 e => ?_)
  refine gx_callV (n := 1) (st := []) (As := [.int (gI (v3 % (1009 : Int)))]) (b := v0) dX5_worthOfTree_112 (z_X5_push hq25) rfl ⟨rfl, gw_cw_X5_push, gw_9, gp_X5_push, ⟨Nat.le_of_ble_eq_true rfl, Nat.le_of_ble_eq_true rfl⟩⟩ (gi_isS hu24) (by decide) gw_1182 gw_1184 gs_46 rfl ⟨Nat.le_of_ble_eq_true rfl, Nat.le_of_ble_eq_true rfl⟩ (Nat.le_of_ble_eq_true rfl) (gy_k0 (kc2 := 0) (ks2 := 0) ⟨rfl, rfl⟩ ?_) gy_kn
  refine gx_nE e (fun t26 ht26 e => ?_)
  refine gy_iinc (v := t26) (ls2 := [(1, .int (gI t26)), (0, .ref v0), (3, .int (gI v3))]) dX5_worthOfTree_115 1 rfl ht26 (Nat.le_of_ble_eq_true rfl) rfl ?_
  refine gx_goto (tgt := 20) dX5_worthOfTree_118 (by decide) ?_
  refine gx_sub (ls2 := [(0, .ref v0), (1, .int (gI t26))]) [1, 0] rfl ?_
  exact hr20 _ _ _ e
set_option maxRecDepth 100000 in
def b_X5_worthOfTree_88 (n : Nat) (r20 : Nat → Int → gi_H → Option (Int × gi_H)) (r38 : Nat → Int → Int → Int → Int → gi_H → Option (Int × gi_H)) (v0 : Nat) (v1 : Int) (v2 : Int) (v3 : Int) (v4 : Int) (s0 : Int) (h : gi_H) : Option (Int × gi_H) :=
  gx_nm (v3 + ((v4 + (1 : Int)) * s0)) fun t37 => gx_nm (v4 + (1 : Int)) fun t38 => r38 v0 v1 v2 t37 t38 h
set_option maxRecDepth 100000 in
theorem zb_X5_worthOfTree_88 {al : Bool} {n : Nat} {r20 : Nat → Int → gi_H → Option (Int × gi_H)} {r38 : Nat → Int → Int → Int → Int → gi_H → Option (Int × gi_H)} {res : Int} {h1 : gi_H} (hr20 : ∀ (x0 : Nat) (x1 : Int) (hh : gi_H), r20 x0 x1 hh = some (res, h1) → gx_Z mX5_worthOfTree al al 0 0 20 [(0, .ref x0), (1, .int (gI x1))] [] (gi_cv hh) (.inl (some (.int (gI res)))) (gi_cv h1)) (hr38 : ∀ (x0 : Nat) (x1 : Int) (x2 : Int) (x3 : Int) (x4 : Int) (hh : gi_H), r38 x0 x1 x2 x3 x4 hh = some (res, h1) → gx_Z mX5_worthOfTree al al 0 0 38 [(0, .ref x0), (1, .int (gI x1)), (2, .int (gI x2)), (3, .int (gI x3)), (4, .int (gI x4))] [] (gi_cv hh) (.inl (some (.int (gI res)))) (gi_cv h1)) {v0 : Nat} {v1 : Int} {v2 : Int} {v3 : Int} {v4 : Int} {s0 : Int} {h : gi_H} (e : b_X5_worthOfTree_88 n r20 r38 v0 v1 v2 v3 v4 s0 h = some (res, h1)) : gx_Z mX5_worthOfTree al al 0 0 88 [(0, .ref v0), (1, .int (gI v1)), (2, .int (gI v2)), (3, .int (gI v3)), (4, .int (gI v4))] [.int (gI s0)] (gi_cv h) (.inl (some (.int (gI res)))) (gi_cv h1) := by
  refine gx_istore (ls2 := [(6, .int (gI s0)), (0, .ref v0), (1, .int (gI v1)), (2, .int (gI v2)), (3, .int (gI v3)), (4, .int (gI v4))]) dX5_worthOfTree_88 (Nat.le_of_ble_eq_true rfl) rfl ?_
  refine gx_iload_n dX5_worthOfTree_90 rfl 4 rfl ?_
  refine gx_iload dX5_worthOfTree_91 5 rfl ?_
  refine gy_iconst dX5_worthOfTree_93 ?_
  refine gy_iadd dX5_worthOfTree_94 ?_
  refine gx_iload dX5_worthOfTree_95 0 rfl ?_
  refine gy_imul dX5_worthOfTree_97 ?_
  refine gy_iadd dX5_worthOfTree_98 ?_
  refine gx_nE e (fun t37 ht37 e => ?_)
  rw [ht37]
  refine gx_istore_n (ls2 := [(3, .int (gI t37)), (6, .int (gI s0)), (0, .ref v0), (1, .int (gI v1)), (2, .int (gI v2)), (4, .int (gI v4))]) dX5_worthOfTree_99 rfl (Nat.le_of_ble_eq_true rfl) rfl ?_
  refine gx_nE e (fun t38 ht38 e => ?_)
  refine gy_iinc (v := t38) (ls2 := [(4, .int (gI t38)), (3, .int (gI t37)), (6, .int (gI s0)), (0, .ref v0), (1, .int (gI v1)), (2, .int (gI v2))]) dX5_worthOfTree_100 5 rfl ht38 (Nat.le_of_ble_eq_true rfl) rfl ?_
  refine gx_goto (tgt := 38) dX5_worthOfTree_103 (by decide) ?_
  refine gx_sub (ls2 := [(0, .ref v0), (1, .int (gI v1)), (2, .int (gI v2)), (3, .int (gI t37)), (4, .int (gI t38))]) [3, 4, 5, 1, 0] rfl ?_
  exact hr38 _ _ _ _ _ _ e
set_option maxRecDepth 100000 in
def b_X5_worthOfTree_38 (n : Nat) (r20 : Nat → Int → gi_H → Option (Int × gi_H)) (r38 : Nat → Int → Int → Int → Int → gi_H → Option (Int × gi_H)) (v0 : Nat) (v1 : Int) (v2 : Int) (v3 : Int) (v4 : Int)  (h : gi_H) : Option (Int × gi_H) :=
  Option.bind (gi_gR h v0 4 1) fun t15 => Option.bind (gi_is h t15 2) fun _ => Option.bind (f_X3_grammar t15 h) fun q17 => Option.bind (gi_is h q17 3) fun _ => Option.bind (f_X4_length q17 v2 h) fun q19 => Option.bind (gi_rg v4) fun _ => Option.bind (gi_rg q19) fun _ => if q19 ≤ v4 then (b_X5_worthOfTree_106 n r20 v0 v1 v3 h) else (Option.bind (gi_gR h v0 4 1) fun t27 => Option.bind (gi_is h t27 2) fun _ => Option.bind (f_X3_grammar t27 h) fun q29 => Option.bind (gi_is h q29 3) fun _ => Option.bind (f_X4_symbol q29 v2 v4 h) fun q31 => Option.bind (f_X11_isTerminal q31 h) fun q32 => Option.bind (gi_rg q32) fun _ => if q32 = 0 then (Option.bind (gi_is h v0 4) fun _ => Option.bind (f_X5_pop v0 h) fun q36 => b_X5_worthOfTree_88 n r20 r38 v0 v1 v2 v3 v4 q36.1 q36.2) else (b_X5_worthOfTree_88 n r20 r38 v0 v1 v2 v3 v4 (q31 + (1 : Int)) h))
set_option maxRecDepth 100000 in
theorem zb_X5_worthOfTree_38 {al : Bool} {n : Nat} {r20 : Nat → Int → gi_H → Option (Int × gi_H)} {r38 : Nat → Int → Int → Int → Int → gi_H → Option (Int × gi_H)} {res : Int} {h1 : gi_H} (hr20 : ∀ (x0 : Nat) (x1 : Int) (hh : gi_H), r20 x0 x1 hh = some (res, h1) → gx_Z mX5_worthOfTree al al 0 0 20 [(0, .ref x0), (1, .int (gI x1))] [] (gi_cv hh) (.inl (some (.int (gI res)))) (gi_cv h1)) (hr38 : ∀ (x0 : Nat) (x1 : Int) (x2 : Int) (x3 : Int) (x4 : Int) (hh : gi_H), r38 x0 x1 x2 x3 x4 hh = some (res, h1) → gx_Z mX5_worthOfTree al al 0 0 38 [(0, .ref x0), (1, .int (gI x1)), (2, .int (gI x2)), (3, .int (gI x3)), (4, .int (gI x4))] [] (gi_cv hh) (.inl (some (.int (gI res)))) (gi_cv h1)) {v0 : Nat} {v1 : Int} {v2 : Int} {v3 : Int} {v4 : Int}  {h : gi_H} (e : b_X5_worthOfTree_38 n r20 r38 v0 v1 v2 v3 v4 h = some (res, h1)) : gx_Z mX5_worthOfTree al al 0 0 38 [(0, .ref v0), (1, .int (gI v1)), (2, .int (gI v2)), (3, .int (gI v3)), (4, .int (gI v4))] [] (gi_cv h) (.inl (some (.int (gI res)))) (gi_cv h1) := by
  refine gx_iload dX5_worthOfTree_38 4 rfl ?_
  refine gx_aload_n dX5_worthOfTree_40 rfl 0 rfl ?_
  refine gx_bE e (fun t15 ht15 e => ?_)
  refine gy_fR ht15 dX5_worthOfTree_41 gf_RX5_18_4_1 (by decide) gkN_4_1 gkR_4_1 ?_
  refine gx_bE e (fun _ hu16 e => ?_)
  refine gx_bE e (fun q17 hq17 e => ?_)
  refine gx_callV (n := 0) (st := [.int (gI v4)]) (As := []) (b := t15) dX5_worthOfTree_44 (z_X3_grammar hq17) rfl ⟨rfl, gw_cw_X3_grammar, gw_6, gp_X3_grammar, ⟨Nat.le_of_ble_eq_true rfl, Nat.le_of_ble_eq_true rfl⟩⟩ (gi_isS hu16) (by decide) gw_1057 gw_553 gw_554 rfl ⟨Nat.le_of_ble_eq_true rfl, Nat.le_of_ble_eq_true rfl⟩ (Nat.le_of_ble_eq_true rfl) (gy_k1 (x := .ref q17) (kc2 := 0) (ks2 := 0) ⟨rfl, rfl⟩ ?_) gy_kn
  refine gx_iload_n dX5_worthOfTree_47 rfl 2 rfl ?_
  refine gx_bE e (fun _ hu18 e => ?_)
  refine gx_bE e (fun q19 hq19 e => ?_)
  refine gx_callV (n := 1) (st := [.int (gI v4)]) (As := [.int (gI v2)]) (b := q17) dX5_worthOfTree_48 (z_X4_length hq19) rfl ⟨rfl, gw_cw_X4_length, gw_3, gp_X4_length, ⟨Nat.le_of_ble_eq_true rfl, Nat.le_of_ble_eq_true rfl⟩⟩ (gi_isS hu18) (by decide) gw_1194 gw_411 gw_412 rfl ⟨Nat.le_of_ble_eq_true rfl, Nat.le_of_ble_eq_true rfl⟩ (Nat.le_of_ble_eq_true rfl) (gy_k1 (x := .int (gI q19)) (kc2 := 0) (ks2 := 0) ⟨rfl, rfl⟩ ?_) gy_kn
  refine gx_bE e (fun _ g20 e => ?_)
  refine gx_bE e (fun _ g21 e => ?_)
  refine gx_iE e (fun c22 e => ?_) (fun c22 e => ?_)
  · refine gy_icmp_ge (tgt := 106) (gi_rgS g20) (gi_rgS g21) dX5_worthOfTree_51 (by decide) (fun _ => ?_) (fun z => absurd c22 z)
    refine gx_sub (ls2 := [(0, .ref v0), (1, .int (gI v1)), (3, .int (gI v3))]) [0, 1, 3] rfl ?_
    exact zb_X5_worthOfTree_106 hr20 e
  · refine gy_icmp_ge (tgt := 106) (gi_rgS g20) (gi_rgS g21) dX5_worthOfTree_51 (by decide) (fun z => absurd z c22) (fun _ => ?_)
    refine gx_aload_n dX5_worthOfTree_54 rfl 0 rfl ?_
    refine gx_bE e (fun t27 ht27 e => ?_)
    refine gy_fR ht27 dX5_worthOfTree_55 gf_RX5_18_4_1 (by decide) gkN_4_1 gkR_4_1 ?_
    refine gx_bE e (fun _ hu28 e => ?_)
    refine gx_bE e (fun q29 hq29 e => ?_)
    refine gx_callV (n := 0) (st := []) (As := []) (b := t27) dX5_worthOfTree_58 (z_X3_grammar hq29) rfl ⟨rfl, gw_cw_X3_grammar, gw_6, gp_X3_grammar, ⟨Nat.le_of_ble_eq_true rfl, Nat.le_of_ble_eq_true rfl⟩⟩ (gi_isS hu28) (by decide) gw_1057 gw_553 gw_554 rfl ⟨Nat.le_of_ble_eq_true rfl, Nat.le_of_ble_eq_true rfl⟩ (Nat.le_of_ble_eq_true rfl) (gy_k1 (x := .ref q29) (kc2 := 0) (ks2 := 0) ⟨rfl, rfl⟩ ?_) gy_kn
    refine gx_iload_n dX5_worthOfTree_61 rfl 2 rfl ?_
    refine gx_iload dX5_worthOfTree_62 4 rfl ?_
    refine gx_bE e (fun _ hu30 e => ?_)
    refine gx_bE e (fun q31 hq31 e => ?_)
    refine gx_callV (n := 2) (st := []) (As := [.int (gI v2), .int (gI v4)]) (b := q29) dX5_worthOfTree_64 (z_X4_symbol hq31) rfl ⟨rfl, gw_cw_X4_symbol, gw_3, gp_X4_symbol, ⟨Nat.le_of_ble_eq_true rfl, Nat.le_of_ble_eq_true rfl⟩⟩ (gi_isS hu30) (by decide) gw_1195 gw_415 gw_416 rfl ⟨Nat.le_of_ble_eq_true rfl, Nat.le_of_ble_eq_true rfl⟩ (Nat.le_of_ble_eq_true rfl) (gy_k1 (x := .int (gI q31)) (kc2 := 0) (ks2 := 0) ⟨rfl, rfl⟩ ?_) gy_kn
    refine gx_istore (ls2 := [(5, .int (gI q31)), (0, .ref v0), (1, .int (gI v1)), (2, .int (gI v2)), (3, .int (gI v3)), (4, .int (gI v4))]) dX5_worthOfTree_67 (Nat.le_of_ble_eq_true rfl) rfl ?_
    refine gx_iload dX5_worthOfTree_69 0 rfl ?_
    refine gx_bE e (fun q32 hq32 e => ?_)
    refine gx_callSN (n := 1) (st := []) (As := [.int (gI q31)]) dX5_worthOfTree_71 (z_X11_isTerminal hq32) rfl ⟨rfl, gw_cw_X11_isTerminal, gw_1, gp_X11_isTerminal, ⟨Nat.le_of_ble_eq_true rfl, Nat.le_of_ble_eq_true rfl⟩⟩ (host := "Grammarsmith") (by decide +kernel) gw_582 ⟨Nat.le_of_ble_eq_true rfl, Nat.le_of_ble_eq_true rfl⟩ (Nat.le_of_ble_eq_true rfl) (gy_k1 (x := .int (gI q32)) (kc2 := 0) (ks2 := 0) ⟨rfl, rfl⟩ ?_) gy_kn
    refine gx_bE e (fun _ g33 e => ?_)
    refine gx_iE e (fun c34 e => ?_) (fun c34 e => ?_)
    · refine gy_if_eq (tgt := 84) (gi_rgS g33) dX5_worthOfTree_74 (by decide) (fun _ => ?_) (fun z => absurd c34 z)
      refine gx_aload_n dX5_worthOfTree_84 rfl 1 rfl ?_
      refine gx_bE e (fun _ hu35 e => ?_)
      refine gx_bE e (fun q36 hq36 e => ?_)
      refine gx_callV (n := 0) (st := []) (As := []) (b := v0) dX5_worthOfTree_85 (z_X5_pop hq36) rfl ⟨rfl, gw_cw_X5_pop, gw_9, gp_X5_pop, ⟨Nat.le_of_ble_eq_true rfl, Nat.le_of_ble_eq_true rfl⟩⟩ (gi_isS hu35) (by decide) gw_1197 gw_1199 gs_48 rfl ⟨Nat.le_of_ble_eq_true rfl, Nat.le_of_ble_eq_true rfl⟩ (Nat.le_of_ble_eq_true rfl) (gy_k1 (x := .int (gI q36.1)) (kc2 := 0) (ks2 := 0) ⟨rfl, rfl⟩ ?_) gy_kn
      refine gx_sub (ls2 := [(0, .ref v0), (1, .int (gI v1)), (2, .int (gI v2)), (3, .int (gI v3)), (4, .int (gI v4))]) [1, 2, 3, 4, 5] rfl ?_
      exact zb_X5_worthOfTree_88 hr20 hr38 e
    · refine gy_if_eq (tgt := 84) (gi_rgS g33) dX5_worthOfTree_74 (by decide) (fun z => absurd z c34) (fun _ => ?_)
      refine gx_iload dX5_worthOfTree_77 0 rfl ?_
      refine gy_iconst dX5_worthOfTree_79 ?_
      refine gy_iadd dX5_worthOfTree_80 ?_
      refine gx_goto (tgt := 88) dX5_worthOfTree_81 (by decide) ?_
      refine gx_sub (ls2 := [(0, .ref v0), (1, .int (gI v1)), (2, .int (gI v2)), (3, .int (gI v3)), (4, .int (gI v4))]) [1, 2, 3, 4, 5] rfl ?_
      exact zb_X5_worthOfTree_88 hr20 hr38 e
def l_X5_worthOfTree_38 (n : Nat) (r20 : Nat → Int → gi_H → Option (Int × gi_H)) : Nat → Nat → Int → Int → Int → Int → gi_H → Option (Int × gi_H)
  | 0, _, _, _, _, _, _ => none
  | k + 1, v0, v1, v2, v3, v4, h => b_X5_worthOfTree_38 n r20 (l_X5_worthOfTree_38 n r20 k) v0 v1 v2 v3 v4 h
theorem zl_X5_worthOfTree_38 {al : Bool} {n : Nat} {r20 : Nat → Int → gi_H → Option (Int × gi_H)} {res : Int} {h1 : gi_H} (hr20 : ∀ (x0 : Nat) (x1 : Int) (hh : gi_H), r20 x0 x1 hh = some (res, h1) → gx_Z mX5_worthOfTree al al 0 0 20 [(0, .ref x0), (1, .int (gI x1))] [] (gi_cv hh) (.inl (some (.int (gI res)))) (gi_cv h1)) : ∀ (k : Nat) (v0 : Nat) (v1 : Int) (v2 : Int) (v3 : Int) (v4 : Int) (h : gi_H), l_X5_worthOfTree_38 n r20 k v0 v1 v2 v3 v4 h = some (res, h1) → gx_Z mX5_worthOfTree al al 0 0 38 [(0, .ref v0), (1, .int (gI v1)), (2, .int (gI v2)), (3, .int (gI v3)), (4, .int (gI v4))] [] (gi_cv h) (.inl (some (.int (gI res)))) (gi_cv h1)
  | 0, _, _, _, _, _, _, e => gx_0E e
  | k + 1, _, _, _, _, _, _, e => zb_X5_worthOfTree_38 (n := n) hr20 (zl_X5_worthOfTree_38 hr20 k) e
set_option maxRecDepth 100000 in
def b_X5_worthOfTree_20 (n : Nat) (r20 : Nat → Int → gi_H → Option (Int × gi_H)) (v0 : Nat) (v1 : Int)  (h : gi_H) : Option (Int × gi_H) :=
  Option.bind (gi_rg v1) fun _ => if v1 < 0 then (b_X5_worthOfTree_121 n  v0 h) else (Option.bind (gi_gR h v0 4 5) fun t12 => Option.bind (gi_aI h 1 t12 v1) fun t13 => gx_nm (t13 + (1 : Int)) fun t14 => l_X5_worthOfTree_38 n r20 n v0 v1 t13 t14 (0 : Int) h)
set_option maxRecDepth 100000 in
theorem zb_X5_worthOfTree_20 {al : Bool} {n : Nat} {r20 : Nat → Int → gi_H → Option (Int × gi_H)} {res : Int} {h1 : gi_H} (hr20 : ∀ (x0 : Nat) (x1 : Int) (hh : gi_H), r20 x0 x1 hh = some (res, h1) → gx_Z mX5_worthOfTree al al 0 0 20 [(0, .ref x0), (1, .int (gI x1))] [] (gi_cv hh) (.inl (some (.int (gI res)))) (gi_cv h1)) {v0 : Nat} {v1 : Int}  {h : gi_H} (e : b_X5_worthOfTree_20 n r20 v0 v1 h = some (res, h1)) : gx_Z mX5_worthOfTree al al 0 0 20 [(0, .ref v0), (1, .int (gI v1))] [] (gi_cv h) (.inl (some (.int (gI res)))) (gi_cv h1) := by
  refine gx_iload_n dX5_worthOfTree_20 rfl 1 rfl ?_
  refine gx_bE e (fun _ g8 e => ?_)
  refine gx_iE e (fun c9 e => ?_) (fun c9 e => ?_)
  · refine gy_if_lt (tgt := 121) (gi_rgS g8) dX5_worthOfTree_21 (by decide) (fun _ => ?_) (fun z => absurd c9 z)
    refine gx_sub (ls2 := [(0, .ref v0)]) [0] rfl ?_
    exact zb_X5_worthOfTree_121  e
  · refine gy_if_lt (tgt := 121) (gi_rgS g8) dX5_worthOfTree_21 (by decide) (fun z => absurd z c9) (fun _ => ?_)
    refine gx_aload_n dX5_worthOfTree_24 rfl 0 rfl ?_
    refine gx_bE e (fun t12 ht12 e => ?_)
    refine gy_fR ht12 dX5_worthOfTree_25 gf_RX5_15_4_5 (by decide) gkN_4_5 gkR_4_5 ?_
    refine gx_iload_n dX5_worthOfTree_28 rfl 1 rfl ?_
    refine gx_bE e (fun t13 ht13 e => ?_)
    refine gy_l1 ht13 dX5_worthOfTree_29 ?_
    refine gx_istore_n (ls2 := [(2, .int (gI t13)), (0, .ref v0), (1, .int (gI v1))]) dX5_worthOfTree_30 rfl (Nat.le_of_ble_eq_true rfl) rfl ?_
    refine gx_iload_n dX5_worthOfTree_31 rfl 0 rfl ?_
    refine gy_iconst dX5_worthOfTree_32 ?_
    refine gy_iadd dX5_worthOfTree_33 ?_
    refine gx_nE e (fun t14 ht14 e => ?_)
    rw [ht14]
    refine gx_istore_n (ls2 := [(3, .int (gI t14)), (2, .int (gI t13)), (0, .ref v0), (1, .int (gI v1))]) dX5_worthOfTree_34 rfl (Nat.le_of_ble_eq_true rfl) rfl ?_
    refine gy_iconst dX5_worthOfTree_35 ?_
    refine gx_istore (ls2 := [(4, .int (gI (0 : Int))), (3, .int (gI t14)), (2, .int (gI t13)), (0, .ref v0), (1, .int (gI v1))]) dX5_worthOfTree_36 (Nat.le_of_ble_eq_true rfl) rfl ?_
    refine gx_sub (ls2 := [(0, .ref v0), (1, .int (gI v1)), (2, .int (gI t13)), (3, .int (gI t14)), (4, .int (gI (0 : Int)))]) [3, 4, 2, 1, 0] rfl ?_
    exact zl_X5_worthOfTree_38 hr20 n _ _ _ _ _ _ e
def l_X5_worthOfTree_20 (n : Nat)  : Nat → Nat → Int → gi_H → Option (Int × gi_H)
  | 0, _, _, _ => none
  | k + 1, v0, v1, h => b_X5_worthOfTree_20 n  (l_X5_worthOfTree_20 n  k) v0 v1 h
theorem zl_X5_worthOfTree_20 {al : Bool} {n : Nat}  {res : Int} {h1 : gi_H}  : ∀ (k : Nat) (v0 : Nat) (v1 : Int) (h : gi_H), l_X5_worthOfTree_20 n  k v0 v1 h = some (res, h1) → gx_Z mX5_worthOfTree al al 0 0 20 [(0, .ref v0), (1, .int (gI v1))] [] (gi_cv h) (.inl (some (.int (gI res)))) (gi_cv h1)
  | 0, _, _, _, e => gx_0E e
  | k + 1, _, _, _, e => zb_X5_worthOfTree_20 (n := n)  (zl_X5_worthOfTree_20  k) e
set_option maxRecDepth 100000 in
def f_X5_worthOfTree (n : Nat) (v0 : Nat) (h : gi_H) : Option (Int × gi_H) :=
  Option.bind (gi_pI h v0 4 4 (0 : Int)) fun h1 => Option.bind (gi_gI h1 v0 4 6) fun t2 => Option.bind (gi_gR h1 v0 4 5) fun t3 => Option.bind (gi_ln h1 t3) fun t4 => Option.bind (gi_rg t2) fun _ => Option.bind (gi_rg t4) fun _ => gx_nm ((gi_min t2 t4) - (1 : Int)) fun t7 => l_X5_worthOfTree_20 n  n v0 t7 h1
set_option maxRecDepth 100000 in
theorem z_X5_worthOfTree {al : Bool} {n : Nat} {v0 : Nat} {h : gi_H} {res : Int} {h1 : gi_H} (e : f_X5_worthOfTree n v0 h = some (res, h1)) : gx_Cw mX5_worthOfTree al [.ref v0] (gi_cv h) (.inl (some (.int (gI res)))) (gi_cv h1) := by
  refine gx_enter (by decide +kernel) rfl (Nat.le_of_ble_eq_true rfl) ?_
  show gx_Z mX5_worthOfTree al al 0 0 0 [(0, .ref v0)] [] (gi_cv h) (.inl (some (.int (gI res)))) (gi_cv h1)
  refine gx_aload_n dX5_worthOfTree_0 rfl 0 rfl ?_
  refine gy_iconst dX5_worthOfTree_1 ?_
  refine gx_bE e (fun h1 hh1 e => ?_)
  refine gy_qI hh1 dX5_worthOfTree_2 gf_RX5_29_4_4 (by decide) gkN_4_4 rfl (Or.inl rfl) ?_
  refine gx_aload_n dX5_worthOfTree_5 rfl 0 rfl ?_
  refine gx_bE e (fun t2 ht2 e => ?_)
  refine gy_fI ht2 dX5_worthOfTree_6 gf_RX5_33_4_6 (by decide) gkN_4_6 gkR_4_6 ?_
  refine gx_aload_n dX5_worthOfTree_9 rfl 0 rfl ?_
  refine gx_bE e (fun t3 ht3 e => ?_)
  refine gy_fR ht3 dX5_worthOfTree_10 gf_RX5_15_4_5 (by decide) gkN_4_5 gkR_4_5 ?_
  refine gx_bE e (fun t4 ht4 e => ?_)
  refine gy_al0 ht4 dX5_worthOfTree_13 ?_
  refine gx_bE e (fun _ g5 e => ?_)
  refine gx_bE e (fun _ g6 e => ?_)
  refine gy_mmin (gi_rgS g5) (gi_rgS g6) dX5_worthOfTree_14 gw_1193 (Nat.le_of_ble_eq_true rfl) (Nat.le_of_ble_eq_true rfl) ⟨Nat.le_of_ble_eq_true rfl, Nat.le_of_ble_eq_true rfl⟩ ?_
  refine gy_iconst dX5_worthOfTree_17 ?_
  refine gy_isub dX5_worthOfTree_18 ?_
  refine gx_nE e (fun t7 ht7 e => ?_)
  rw [ht7]
  refine gx_istore_n (ls2 := [(1, .int (gI t7)), (0, .ref v0)]) dX5_worthOfTree_19 rfl (Nat.le_of_ble_eq_true rfl) rfl ?_
  refine gx_sub (ls2 := [(0, .ref v0), (1, .int (gI t7))]) [1, 0] rfl ?_
  exact zl_X5_worthOfTree_20  n _ _ _ e
/-! X10_keepWorth 4 -/
set_option maxRecDepth 100000 in
def f_X10_keepWorth_4 (v0 : Nat) (v1 : Int) (h : gi_H) : Option (gi_H) :=
  Option.bind (gi_pI h v0 4 0 v1) fun h1 => some h1
set_option maxRecDepth 100000 in
theorem z_X10_keepWorth_4 {al : Bool} {v0 : Nat} {v1 : Int} {h : gi_H} {h1 : gi_H} (e : f_X10_keepWorth_4 v0 v1 h = some h1) : gx_Cw mX10_keepWorth al [.ref v0, .int (gI v1)] (gi_cv h) (.inl none) (gi_cv h1) := by
  refine gx_enter (by decide +kernel) rfl (Nat.le_of_ble_eq_true rfl) ?_
  show gx_Z mX10_keepWorth al al 0 0 0 [(0, .ref v0), (1, .int (gI v1))] [] (gi_cv h) (.inl none) (gi_cv h1)
  refine gx_aload_n dX10_keepWorth_0 rfl 0 rfl ?_
  refine gx_iload_n dX10_keepWorth_1 rfl 1 rfl ?_
  refine gx_bE e (fun h1 hh1 e => ?_)
  refine gy_qI hh1 dX10_keepWorth_2 gf_RX10_7_4_0 (by decide) gkN_4_0 rfl (Or.inl rfl) ?_
  cases e
  exact gx_vret dX10_keepWorth_5 rfl ⟨Nat.le_of_ble_eq_true rfl, Nat.le_of_ble_eq_true rfl⟩ (fun z => z)
/-! X5_lowestIn  -/
set_option maxRecDepth 100000 in
def b_X5_lowestIn_2 (n : Nat) (r2 : Nat → Int → Int → Int → gi_H → Option (Int)) (v0 : Nat) (v1 : Int) (v2 : Int) (v3 : Int)  (h : gi_H) : Option (Int) :=
  Option.bind (gi_gR h v0 4 1) fun t1 => Option.bind (gi_is h t1 2) fun _ => Option.bind (f_X3_grammar t1 h) fun q3 => Option.bind (gi_is h q3 3) fun _ => Option.bind (f_X4_count q3 h) fun q5 => Option.bind (gi_rg v3) fun _ => Option.bind (gi_rg q5) fun _ => if q5 ≤ v3 then (some (-1 : Int)) else (Option.bind (gi_is h v0 4) fun _ => Option.bind (f_X5_isIn v0 v3 v1 v2 h) fun q10 => Option.bind (gi_rg q10) fun _ => if q10 = 0 then (gx_nm (v3 + (1 : Int)) fun t13 => r2 v0 v1 v2 t13 h) else (some v3))
set_option maxRecDepth 100000 in
theorem zb_X5_lowestIn_2 {al : Bool} {n : Nat} {r2 : Nat → Int → Int → Int → gi_H → Option (Int)} {res : Int} (hr2 : ∀ (x0 : Nat) (x1 : Int) (x2 : Int) (x3 : Int) (hh : gi_H), r2 x0 x1 x2 x3 hh = some res → gx_Z mX5_lowestIn al al 0 0 2 [(0, .ref x0), (1, .int (gI x1)), (2, .int (gI x2)), (3, .int (gI x3))] [] (gi_cv hh) (.inl (some (.int (gI res)))) (gi_cv hh)) {v0 : Nat} {v1 : Int} {v2 : Int} {v3 : Int}  {h : gi_H} (e : b_X5_lowestIn_2 n r2 v0 v1 v2 v3 h = some res) : gx_Z mX5_lowestIn al al 0 0 2 [(0, .ref v0), (1, .int (gI v1)), (2, .int (gI v2)), (3, .int (gI v3))] [] (gi_cv h) (.inl (some (.int (gI res)))) (gi_cv h) := by
  refine gx_iload_n dX5_lowestIn_2 rfl 3 rfl ?_
  refine gx_aload_n dX5_lowestIn_3 rfl 0 rfl ?_
  refine gx_bE e (fun t1 ht1 e => ?_)
  refine gy_fR ht1 dX5_lowestIn_4 gf_RX5_18_4_1 (by decide) gkN_4_1 gkR_4_1 ?_
  refine gx_bE e (fun _ hu2 e => ?_)
  refine gx_bE e (fun q3 hq3 e => ?_)
  refine gx_callV (n := 0) (st := [.int (gI v3)]) (As := []) (b := t1) dX5_lowestIn_7 (z_X3_grammar hq3) rfl ⟨rfl, gw_cw_X3_grammar, gw_6, gp_X3_grammar, ⟨Nat.le_of_ble_eq_true rfl, Nat.le_of_ble_eq_true rfl⟩⟩ (gi_isS hu2) (by decide) gw_1057 gw_553 gw_554 rfl ⟨Nat.le_of_ble_eq_true rfl, Nat.le_of_ble_eq_true rfl⟩ (Nat.le_of_ble_eq_true rfl) (gy_k1 (x := .ref q3) (kc2 := 0) (ks2 := 0) ⟨rfl, rfl⟩ ?_) gy_kn
  refine gx_bE e (fun _ hu4 e => ?_)
  refine gx_bE e (fun q5 hq5 e => ?_)
  refine gx_callV (n := 0) (st := [.int (gI v3)]) (As := []) (b := q3) dX5_lowestIn_10 (z_X4_count hq5) rfl ⟨rfl, gw_cw_X4_count, gw_3, gp_X4_count, ⟨Nat.le_of_ble_eq_true rfl, Nat.le_of_ble_eq_true rfl⟩⟩ (gi_isS hu4) (by decide) gw_1058 gw_384 gw_385 rfl ⟨Nat.le_of_ble_eq_true rfl, Nat.le_of_ble_eq_true rfl⟩ (Nat.le_of_ble_eq_true rfl) (gy_k1 (x := .int (gI q5)) (kc2 := 0) (ks2 := 0) ⟨rfl, rfl⟩ ?_) gy_kn
  refine gx_bE e (fun _ g6 e => ?_)
  refine gx_bE e (fun _ g7 e => ?_)
  refine gx_iE e (fun c8 e => ?_) (fun c8 e => ?_)
  · refine gy_icmp_ge (tgt := 34) (gi_rgS g6) (gi_rgS g7) dX5_lowestIn_13 (by decide) (fun _ => ?_) (fun z => absurd c8 z)
    refine gy_iconst dX5_lowestIn_34 ?_
    cases e
    exact gx_iret dX5_lowestIn_35 rfl ⟨Nat.le_of_ble_eq_true rfl, Nat.le_of_ble_eq_true rfl⟩ (fun z => z)
  · refine gy_icmp_ge (tgt := 34) (gi_rgS g6) (gi_rgS g7) dX5_lowestIn_13 (by decide) (fun z => absurd z c8) (fun _ => ?_)
    refine gx_aload_n dX5_lowestIn_16 rfl 0 rfl ?_
    refine gx_iload_n dX5_lowestIn_17 rfl 3 rfl ?_
    refine gx_iload_n dX5_lowestIn_18 rfl 1 rfl ?_
    refine gx_iload_n dX5_lowestIn_19 rfl 2 rfl ?_
    refine gx_bE e (fun _ hu9 e => ?_)
    refine gx_bE e (fun q10 hq10 e => ?_)
    refine gx_callV (n := 3) (st := []) (As := [.int (gI v3), .int (gI v1), .int (gI v2)]) (b := v0) dX5_lowestIn_20 (z_X5_isIn hq10) rfl ⟨rfl, gw_cw_X5_isIn, gw_9, gp_X5_isIn, ⟨Nat.le_of_ble_eq_true rfl, Nat.le_of_ble_eq_true rfl⟩⟩ (gi_isS hu9) (by decide) gw_1059 gw_1061 gs_38 rfl ⟨Nat.le_of_ble_eq_true rfl, Nat.le_of_ble_eq_true rfl⟩ (Nat.le_of_ble_eq_true rfl) (gy_k1 (x := .int (gI q10)) (kc2 := 0) (ks2 := 0) ⟨rfl, rfl⟩ ?_) gy_kn
    refine gx_bE e (fun _ g11 e => ?_)
    refine gx_iE e (fun c12 e => ?_) (fun c12 e => ?_)
    · refine gy_if_eq (tgt := 28) (gi_rgS g11) dX5_lowestIn_23 (by decide) (fun _ => ?_) (fun z => absurd c12 z)
      refine gx_nE e (fun t13 ht13 e => ?_)
      refine gy_iinc (v := t13) (ls2 := [(3, .int (gI t13)), (0, .ref v0), (1, .int (gI v1)), (2, .int (gI v2))]) dX5_lowestIn_28 3 rfl ht13 (Nat.le_of_ble_eq_true rfl) rfl ?_
      refine gx_goto (tgt := 2) dX5_lowestIn_31 (by decide) ?_
      refine gx_sub (ls2 := [(0, .ref v0), (1, .int (gI v1)), (2, .int (gI v2)), (3, .int (gI t13))]) [1, 2, 3, 0] rfl ?_
      exact hr2 _ _ _ _ _ e
    · refine gy_if_eq (tgt := 28) (gi_rgS g11) dX5_lowestIn_23 (by decide) (fun z => absurd z c12) (fun _ => ?_)
      refine gx_iload_n dX5_lowestIn_26 rfl 3 rfl ?_
      cases e
      exact gx_iret dX5_lowestIn_27 rfl ⟨Nat.le_of_ble_eq_true rfl, Nat.le_of_ble_eq_true rfl⟩ (fun z => z)
def l_X5_lowestIn_2 (n : Nat)  : Nat → Nat → Int → Int → Int → gi_H → Option (Int)
  | 0, _, _, _, _, _ => none
  | k + 1, v0, v1, v2, v3, h => b_X5_lowestIn_2 n  (l_X5_lowestIn_2 n  k) v0 v1 v2 v3 h
theorem zl_X5_lowestIn_2 {al : Bool} {n : Nat}  {res : Int}  : ∀ (k : Nat) (v0 : Nat) (v1 : Int) (v2 : Int) (v3 : Int) (h : gi_H), l_X5_lowestIn_2 n  k v0 v1 v2 v3 h = some res → gx_Z mX5_lowestIn al al 0 0 2 [(0, .ref v0), (1, .int (gI v1)), (2, .int (gI v2)), (3, .int (gI v3))] [] (gi_cv h) (.inl (some (.int (gI res)))) (gi_cv h)
  | 0, _, _, _, _, _, e => gx_0E e
  | k + 1, _, _, _, _, _, e => zb_X5_lowestIn_2 (n := n)  (zl_X5_lowestIn_2  k) e
set_option maxRecDepth 100000 in
def f_X5_lowestIn (n : Nat) (v0 : Nat) (v1 : Int) (v2 : Int) (h : gi_H) : Option (Int) :=
  l_X5_lowestIn_2 n  n v0 v1 v2 (0 : Int) h
set_option maxRecDepth 100000 in
theorem z_X5_lowestIn {al : Bool} {n : Nat} {v0 : Nat} {v1 : Int} {v2 : Int} {h : gi_H} {res : Int} (e : f_X5_lowestIn n v0 v1 v2 h = some res) : gx_Cw mX5_lowestIn al [.ref v0, .int (gI v1), .int (gI v2)] (gi_cv h) (.inl (some (.int (gI res)))) (gi_cv h) := by
  refine gx_enter (by decide +kernel) rfl (Nat.le_of_ble_eq_true rfl) ?_
  show gx_Z mX5_lowestIn al al 0 0 0 [(0, .ref v0), (1, .int (gI v1)), (2, .int (gI v2))] [] (gi_cv h) (.inl (some (.int (gI res)))) (gi_cv h)
  refine gy_iconst dX5_lowestIn_0 ?_
  refine gx_istore_n (ls2 := [(3, .int (gI (0 : Int))), (0, .ref v0), (1, .int (gI v1)), (2, .int (gI v2))]) dX5_lowestIn_1 rfl (Nat.le_of_ble_eq_true rfl) rfl ?_
  refine gx_sub (ls2 := [(0, .ref v0), (1, .int (gI v1)), (2, .int (gI v2)), (3, .int (gI (0 : Int)))]) [1, 2, 3, 0] rfl ?_
  exact zl_X5_lowestIn_2  n _ _ _ _ _ e
/-! X5_apply  -/
set_option maxRecDepth 100000 in
def b_X5_apply_40 (n : Nat)  (v0 : Nat) (v1 : Int)  (h : gi_H) : Option (gi_H) :=
  Option.bind (gi_rg v1) fun _ => if v1 = (-1 : Int) then (some h) else (Option.bind (gi_gI h v0 4 6) fun t11 => Option.bind (gi_rg t11) fun _ => if t11 < 0 then (some h) else (Option.bind (gi_gI h v0 4 6) fun t14 => Option.bind (gi_gR h v0 4 5) fun t15 => Option.bind (gi_ln h t15) fun t16 => Option.bind (gi_rg t14) fun _ => Option.bind (gi_rg t16) fun _ => if t16 ≤ t14 then (some h) else (Option.bind (gi_gR h v0 4 5) fun t20 => Option.bind (gi_gI h v0 4 6) fun t21 => Option.bind (gi_s1 h t20 t21 v1) fun h22 => Option.bind (gi_gI h22 v0 4 6) fun t23 => Option.bind (gi_pI h22 v0 4 6 (t23 + (1 : Int))) fun h24 => some h24)))
set_option maxRecDepth 100000 in
theorem zb_X5_apply_40 {al : Bool} {n : Nat}  {h1 : gi_H}  {v0 : Nat} {v1 : Int}  {h : gi_H} (e : b_X5_apply_40 n v0 v1 h = some h1) : gx_Z mX5_apply al al 0 0 40 [(0, .ref v0), (1, .int (gI v1))] [] (gi_cv h) (.inl none) (gi_cv h1) := by
  refine gx_iload_n dX5_apply_40 rfl 1 rfl ?_
  refine gy_iconst dX5_apply_41 ?_
  refine gx_bE e (fun _ g9 e => ?_)
  refine gx_iE e (fun c10 e => ?_) (fun c10 e => ?_)
  · refine gy_icmp_eq (tgt := 84) (gi_rgS g9) (by decide) dX5_apply_42 (by decide) (fun _ => ?_) (fun z => absurd c10 z)
    cases e
    exact gx_vret dX5_apply_84 rfl ⟨Nat.le_of_ble_eq_true rfl, Nat.le_of_ble_eq_true rfl⟩ (fun z => z)
  · refine gy_icmp_eq (tgt := 84) (gi_rgS g9) (by decide) dX5_apply_42 (by decide) (fun z => absurd z c10) (fun _ => ?_)
    refine gx_aload_n dX5_apply_45 rfl 0 rfl ?_
    refine gx_bE e (fun t11 ht11 e => ?_)
    refine gy_fI ht11 dX5_apply_46 gf_RX5_33_4_6 (by decide) gkN_4_6 gkR_4_6 ?_
    refine gx_bE e (fun _ g12 e => ?_)
    refine gx_iE e (fun c13 e => ?_) (fun c13 e => ?_)
    · refine gy_if_lt (tgt := 84) (gi_rgS g12) dX5_apply_49 (by decide) (fun _ => ?_) (fun z => absurd c13 z)
      cases e
      exact gx_vret dX5_apply_84 rfl ⟨Nat.le_of_ble_eq_true rfl, Nat.le_of_ble_eq_true rfl⟩ (fun z => z)
    · refine gy_if_lt (tgt := 84) (gi_rgS g12) dX5_apply_49 (by decide) (fun z => absurd z c13) (fun _ => ?_)
      refine gx_aload_n dX5_apply_52 rfl 0 rfl ?_
      refine gx_bE e (fun t14 ht14 e => ?_)
      refine gy_fI ht14 dX5_apply_53 gf_RX5_33_4_6 (by decide) gkN_4_6 gkR_4_6 ?_
      refine gx_aload_n dX5_apply_56 rfl 0 rfl ?_
      refine gx_bE e (fun t15 ht15 e => ?_)
      refine gy_fR ht15 dX5_apply_57 gf_RX5_15_4_5 (by decide) gkN_4_5 gkR_4_5 ?_
      refine gx_bE e (fun t16 ht16 e => ?_)
      refine gy_al0 ht16 dX5_apply_60 ?_
      refine gx_bE e (fun _ g17 e => ?_)
      refine gx_bE e (fun _ g18 e => ?_)
      refine gx_iE e (fun c19 e => ?_) (fun c19 e => ?_)
      · refine gy_icmp_ge (tgt := 84) (gi_rgS g17) (gi_rgS g18) dX5_apply_61 (by decide) (fun _ => ?_) (fun z => absurd c19 z)
        cases e
        exact gx_vret dX5_apply_84 rfl ⟨Nat.le_of_ble_eq_true rfl, Nat.le_of_ble_eq_true rfl⟩ (fun z => z)
      · refine gy_icmp_ge (tgt := 84) (gi_rgS g17) (gi_rgS g18) dX5_apply_61 (by decide) (fun z => absurd z c19) (fun _ => ?_)
        refine gx_aload_n dX5_apply_64 rfl 0 rfl ?_
        refine gx_bE e (fun t20 ht20 e => ?_)
        refine gy_fR ht20 dX5_apply_65 gf_RX5_15_4_5 (by decide) gkN_4_5 gkR_4_5 ?_
        refine gx_aload_n dX5_apply_68 rfl 0 rfl ?_
        refine gx_bE e (fun t21 ht21 e => ?_)
        refine gy_fI ht21 dX5_apply_69 gf_RX5_33_4_6 (by decide) gkN_4_6 gkR_4_6 ?_
        refine gx_iload_n dX5_apply_72 rfl 1 rfl ?_
        refine gx_bE e (fun h22 hh22 e => ?_)
        refine gy_t1 hh22 dX5_apply_73 ?_
        refine gx_aload_n dX5_apply_74 rfl 0 rfl ?_
        refine gx_dup dX5_apply_75 rfl ?_
        refine gx_bE e (fun t23 ht23 e => ?_)
        refine gy_fI ht23 dX5_apply_76 gf_RX5_33_4_6 (by decide) gkN_4_6 gkR_4_6 ?_
        refine gy_iconst dX5_apply_79 ?_
        refine gy_iadd dX5_apply_80 ?_
        refine gx_bE e (fun h24 hh24 e => ?_)
        refine gy_qI hh24 dX5_apply_81 gf_RX5_33_4_6 (by decide) gkN_4_6 rfl (Or.inl rfl) ?_
        cases e
        exact gx_vret dX5_apply_84 rfl ⟨Nat.le_of_ble_eq_true rfl, Nat.le_of_ble_eq_true rfl⟩ (fun z => z)
set_option maxRecDepth 100000 in
def b_X5_apply_14 (n : Nat) (r14 : Nat → Int → Int → gi_H → Option (gi_H)) (v0 : Nat) (v1 : Int) (v2 : Int)  (h : gi_H) : Option (gi_H) :=
  Option.bind (gi_rg v2) fun _ => if v2 < 0 then (b_X5_apply_40 n  v0 v1 h) else (Option.bind (gi_gR h v0 4 1) fun t25 => Option.bind (gi_is h t25 2) fun _ => Option.bind (f_X3_grammar t25 h) fun q27 => Option.bind (gi_is h q27 3) fun _ => Option.bind (f_X4_symbol q27 v1 v2 h) fun q29 => Option.bind (gi_is h v0 4) fun _ => Option.bind (f_X5_push v0 q29 h) fun q31 => gx_nm (v2 + (-1 : Int)) fun t32 => r14 v0 v1 t32 q31)
set_option maxRecDepth 100000 in
theorem zb_X5_apply_14 {al : Bool} {n : Nat} {r14 : Nat → Int → Int → gi_H → Option (gi_H)} {h1 : gi_H} (hr14 : ∀ (x0 : Nat) (x1 : Int) (x2 : Int) (hh : gi_H), r14 x0 x1 x2 hh = some h1 → gx_Z mX5_apply al al 0 0 14 [(0, .ref x0), (1, .int (gI x1)), (2, .int (gI x2))] [] (gi_cv hh) (.inl none) (gi_cv h1)) {v0 : Nat} {v1 : Int} {v2 : Int}  {h : gi_H} (e : b_X5_apply_14 n r14 v0 v1 v2 h = some h1) : gx_Z mX5_apply al al 0 0 14 [(0, .ref v0), (1, .int (gI v1)), (2, .int (gI v2))] [] (gi_cv h) (.inl none) (gi_cv h1) := by
  refine gx_iload_n dX5_apply_14 rfl 2 rfl ?_
  refine gx_bE e (fun _ g7 e => ?_)
  refine gx_iE e (fun c8 e => ?_) (fun c8 e => ?_)
  · refine gy_if_lt (tgt := 40) (gi_rgS g7) dX5_apply_15 (by decide) (fun _ => ?_) (fun z => absurd c8 z)
    refine gx_sub (ls2 := [(0, .ref v0), (1, .int (gI v1))]) [0, 1] rfl ?_
    exact zb_X5_apply_40  e
  · refine gy_if_lt (tgt := 40) (gi_rgS g7) dX5_apply_15 (by decide) (fun z => absurd z c8) (fun _ => ?_)
    refine gx_aload_n dX5_apply_18 rfl 0 rfl ?_
    refine gx_aload_n dX5_apply_19 rfl 0 rfl ?_
    refine gx_bE e (fun t25 ht25 e => ?_)
    refine gy_fR ht25 dX5_apply_20 gf_RX5_18_4_1 (by decide) gkN_4_1 gkR_4_1 ?_
    refine gx_bE e (fun _ hu26 e => ?_)
    refine gx_bE e (fun q27 hq27 e => ?_)
    refine gx_callV (n := 0) (st := [.ref v0]) (As := []) (b := t25) dX5_apply_23 (z_X3_grammar hq27) rfl ⟨rfl, gw_cw_X3_grammar, gw_6, gp_X3_grammar, ⟨Nat.le_of_ble_eq_true rfl, Nat.le_of_ble_eq_true rfl⟩⟩ (gi_isS hu26) (by decide) gw_1057 gw_553 gw_554 rfl ⟨Nat.le_of_ble_eq_true rfl, Nat.le_of_ble_eq_true rfl⟩ (Nat.le_of_ble_eq_true rfl) (gy_k1 (x := .ref q27) (kc2 := 0) (ks2 := 0) ⟨rfl, rfl⟩ ?_) gy_kn
    refine gx_iload_n dX5_apply_26 rfl 1 rfl ?_
    refine gx_iload_n dX5_apply_27 rfl 2 rfl ?_
    refine gx_bE e (fun _ hu28 e => ?_)
    refine gx_bE e (fun q29 hq29 e => ?_)
    refine gx_callV (n := 2) (st := [.ref v0]) (As := [.int (gI v1), .int (gI v2)]) (b := q27) dX5_apply_28 (z_X4_symbol hq29) rfl ⟨rfl, gw_cw_X4_symbol, gw_3, gp_X4_symbol, ⟨Nat.le_of_ble_eq_true rfl, Nat.le_of_ble_eq_true rfl⟩⟩ (gi_isS hu28) (by decide) gw_1195 gw_415 gw_416 rfl ⟨Nat.le_of_ble_eq_true rfl, Nat.le_of_ble_eq_true rfl⟩ (Nat.le_of_ble_eq_true rfl) (gy_k1 (x := .int (gI q29)) (kc2 := 0) (ks2 := 0) ⟨rfl, rfl⟩ ?_) gy_kn
    refine gx_bE e (fun _ hu30 e => ?_)
    refine gx_bE e (fun q31 hq31 e => ?_)
    refine gx_callV (n := 1) (st := []) (As := [.int (gI q29)]) (b := v0) dX5_apply_31 (z_X5_push hq31) rfl ⟨rfl, gw_cw_X5_push, gw_9, gp_X5_push, ⟨Nat.le_of_ble_eq_true rfl, Nat.le_of_ble_eq_true rfl⟩⟩ (gi_isS hu30) (by decide) gw_1182 gw_1184 gs_46 rfl ⟨Nat.le_of_ble_eq_true rfl, Nat.le_of_ble_eq_true rfl⟩ (Nat.le_of_ble_eq_true rfl) (gy_k0 (kc2 := 0) (ks2 := 0) ⟨rfl, rfl⟩ ?_) gy_kn
    refine gx_nE e (fun t32 ht32 e => ?_)
    refine gy_iinc (v := t32) (ls2 := [(2, .int (gI t32)), (0, .ref v0), (1, .int (gI v1))]) dX5_apply_34 2 rfl ht32 (Nat.le_of_ble_eq_true rfl) rfl ?_
    refine gx_goto (tgt := 14) dX5_apply_37 (by decide) ?_
    refine gx_sub (ls2 := [(0, .ref v0), (1, .int (gI v1)), (2, .int (gI t32))]) [1, 2, 0] rfl ?_
    exact hr14 _ _ _ _ e
def l_X5_apply_14 (n : Nat)  : Nat → Nat → Int → Int → gi_H → Option (gi_H)
  | 0, _, _, _, _ => none
  | k + 1, v0, v1, v2, h => b_X5_apply_14 n  (l_X5_apply_14 n  k) v0 v1 v2 h
theorem zl_X5_apply_14 {al : Bool} {n : Nat}  {h1 : gi_H}  : ∀ (k : Nat) (v0 : Nat) (v1 : Int) (v2 : Int) (h : gi_H), l_X5_apply_14 n  k v0 v1 v2 h = some h1 → gx_Z mX5_apply al al 0 0 14 [(0, .ref v0), (1, .int (gI v1)), (2, .int (gI v2))] [] (gi_cv h) (.inl none) (gi_cv h1)
  | 0, _, _, _, _, e => gx_0E e
  | k + 1, _, _, _, _, e => zb_X5_apply_14 (n := n)  (zl_X5_apply_14  k) e
set_option maxRecDepth 100000 in
def f_X5_apply (n : Nat) (v0 : Nat) (v1 : Int) (h : gi_H) : Option (gi_H) :=
  Option.bind (gi_gR h v0 4 1) fun t1 => Option.bind (gi_is h t1 2) fun _ => Option.bind (f_X3_grammar t1 h) fun q3 => Option.bind (gi_is h q3 3) fun _ => Option.bind (f_X4_length q3 v1 h) fun q5 => gx_nm (q5 - (1 : Int)) fun t6 => l_X5_apply_14 n  n v0 v1 t6 h
set_option maxRecDepth 100000 in
theorem z_X5_apply {al : Bool} {n : Nat} {v0 : Nat} {v1 : Int} {h : gi_H} {h1 : gi_H} (e : f_X5_apply n v0 v1 h = some h1) : gx_Cw mX5_apply al [.ref v0, .int (gI v1)] (gi_cv h) (.inl none) (gi_cv h1) := by
  refine gx_enter (by decide +kernel) rfl (Nat.le_of_ble_eq_true rfl) ?_
  show gx_Z mX5_apply al al 0 0 0 [(0, .ref v0), (1, .int (gI v1))] [] (gi_cv h) (.inl none) (gi_cv h1)
  refine gx_aload_n dX5_apply_0 rfl 0 rfl ?_
  refine gx_bE e (fun t1 ht1 e => ?_)
  refine gy_fR ht1 dX5_apply_1 gf_RX5_18_4_1 (by decide) gkN_4_1 gkR_4_1 ?_
  refine gx_bE e (fun _ hu2 e => ?_)
  refine gx_bE e (fun q3 hq3 e => ?_)
  refine gx_callV (n := 0) (st := []) (As := []) (b := t1) dX5_apply_4 (z_X3_grammar hq3) rfl ⟨rfl, gw_cw_X3_grammar, gw_6, gp_X3_grammar, ⟨Nat.le_of_ble_eq_true rfl, Nat.le_of_ble_eq_true rfl⟩⟩ (gi_isS hu2) (by decide) gw_1057 gw_553 gw_554 rfl ⟨Nat.le_of_ble_eq_true rfl, Nat.le_of_ble_eq_true rfl⟩ (Nat.le_of_ble_eq_true rfl) (gy_k1 (x := .ref q3) (kc2 := 0) (ks2 := 0) ⟨rfl, rfl⟩ ?_) gy_kn
  refine gx_iload_n dX5_apply_7 rfl 1 rfl ?_
  refine gx_bE e (fun _ hu4 e => ?_)
  refine gx_bE e (fun q5 hq5 e => ?_)
  refine gx_callV (n := 1) (st := []) (As := [.int (gI v1)]) (b := q3) dX5_apply_8 (z_X4_length hq5) rfl ⟨rfl, gw_cw_X4_length, gw_3, gp_X4_length, ⟨Nat.le_of_ble_eq_true rfl, Nat.le_of_ble_eq_true rfl⟩⟩ (gi_isS hu4) (by decide) gw_1194 gw_411 gw_412 rfl ⟨Nat.le_of_ble_eq_true rfl, Nat.le_of_ble_eq_true rfl⟩ (Nat.le_of_ble_eq_true rfl) (gy_k1 (x := .int (gI q5)) (kc2 := 0) (ks2 := 0) ⟨rfl, rfl⟩ ?_) gy_kn
  refine gy_iconst dX5_apply_11 ?_
  refine gy_isub dX5_apply_12 ?_
  refine gx_nE e (fun t6 ht6 e => ?_)
  rw [ht6]
  refine gx_istore_n (ls2 := [(2, .int (gI t6)), (0, .ref v0), (1, .int (gI v1))]) dX5_apply_13 rfl (Nat.le_of_ble_eq_true rfl) rfl ?_
  refine gx_sub (ls2 := [(0, .ref v0), (1, .int (gI v1)), (2, .int (gI t6))]) [1, 2, 0] rfl ?_
  exact zl_X5_apply_14  n _ _ _ _ e
