/-! X3_vanishes  -/
set_option maxRecDepth 100000 in
def f_X3_vanishes (v0 : Nat) (v1 : Int) (h : gi_H) : Option (Int) :=
  Option.bind (gi_is h v0 2) fun _ => Option.bind (f_X3_beginOf v0 ((16 : Int) + v1) h) fun q2 => Option.bind (gi_rg (gi_and q2 (512 : Int))) fun _ => if (gi_and q2 (512 : Int)) = 0 then (some (0 : Int)) else (some (1 : Int))
set_option maxRecDepth 100000 in
theorem z_X3_vanishes {al : Bool} {v0 : Nat} {v1 : Int} {h : gi_H} {res : Int} (e : f_X3_vanishes v0 v1 h = some res) : gx_Cw mX3_vanishes al [.ref v0, .int (gI v1)] (gi_cv h) (.inl (some (.int (gI res)))) (gi_cv h) := by
  refine gx_enter (by decide +kernel) rfl (Nat.le_of_ble_eq_true rfl) ?_
  show gx_Z mX3_vanishes al al 0 0 0 [(0, .ref v0), (1, .int (gI v1))] [] (gi_cv h) (.inl (some (.int (gI res)))) (gi_cv h)
  refine gx_aload_n dX3_vanishes_0 rfl 0 rfl ?_
  refine gy_bipush dX3_vanishes_1 gcb_16 ?_
  refine gx_iload_n dX3_vanishes_3 rfl 1 rfl ?_
  refine gy_iadd dX3_vanishes_4 ?_
  refine gx_bE e (fun _ hu1 e => ?_)
  refine gx_bE e (fun q2 hq2 e => ?_)
  refine gx_callV (n := 1) (st := []) (As := [.int (gI ((16 : Int) + v1))]) (b := v0) dX3_vanishes_5 (z_X3_beginOf hq2) rfl ⟨rfl, gw_cw_X3_beginOf, gw_6, gp_X3_beginOf, ⟨Nat.le_of_ble_eq_true rfl, Nat.le_of_ble_eq_true rfl⟩⟩ (gi_isS hu1) (by decide) gw_418 gw_420 gs_2 rfl ⟨Nat.le_of_ble_eq_true rfl, Nat.le_of_ble_eq_true rfl⟩ (Nat.le_of_ble_eq_true rfl) (gy_k1 (x := .int (gI q2)) (kc2 := 0) (ks2 := 0) ⟨rfl, rfl⟩ ?_) gy_kn
  refine gy_sipush dX3_vanishes_8 gcs_512 ?_
  refine gy_iand dX3_vanishes_11 ?_
  refine gx_bE e (fun _ g3 e => ?_)
  refine gx_iE e (fun c4 e => ?_) (fun c4 e => ?_)
  · refine gy_if_eq (tgt := 19) (gi_rgS g3) dX3_vanishes_12 (by decide) (fun _ => ?_) (fun z => absurd c4 z)
    refine gy_iconst dX3_vanishes_19 ?_
    cases e
    exact gx_zret (by decide +kernel) dX3_vanishes_20 rfl ⟨Nat.le_of_ble_eq_true rfl, Nat.le_of_ble_eq_true rfl⟩ (fun z => z)
  · refine gy_if_eq (tgt := 19) (gi_rgS g3) dX3_vanishes_12 (by decide) (fun z => absurd z c4) (fun _ => ?_)
    refine gy_iconst dX3_vanishes_15 ?_
    refine gx_goto (tgt := 20) dX3_vanishes_16 (by decide) ?_
    cases e
    exact gx_zret (by decide +kernel) dX3_vanishes_20 rfl ⟨Nat.le_of_ble_eq_true rfl, Nat.le_of_ble_eq_true rfl⟩ (fun z => z)
/-! X11_isNullable  -/
set_option maxRecDepth 100000 in
def f_X11_isNullable (n : Nat) (v0 : Nat) (v1 : Int) (h : gi_H) : Option ((Int ⊕ String) × gi_H) :=
  Option.bind (f_X11_requireNonterminal v1 h) fun q1 => gx_sm q1.1 (fun t2 => Option.bind (gi_gR q1.2 v0 9 8) fun t3 => Option.bind (gi_is q1.2 t3 2) fun _ => Option.bind (f_X3_learn n t3 q1.2) fun q5 => Option.bind (gi_gR q5 v0 9 8) fun t6 => Option.bind (gi_is q5 t6 2) fun _ => Option.bind (f_X3_vanishes t6 v1 q5) fun q8 => Option.bind (gi_zo q8) fun _ => some (.inl q8, q5)) (fun t2 => some (.inr t2, q1.2))
set_option maxRecDepth 100000 in
theorem z_X11_isNullable {n : Nat} {v0 : Nat} {v1 : Int} {h : gi_H} {res : Int ⊕ String} {h1 : gi_H} (e : f_X11_isNullable n v0 v1 h = some (res, h1)) : gx_Cw mX11_isNullable false [.ref v0, .int (gI v1)] (gi_cv h) (gx_oI res) (gi_cv h1) := by
  refine gx_enter (by decide +kernel) rfl (Nat.le_of_ble_eq_true rfl) ?_
  show gx_Z mX11_isNullable false false 0 0 0 [(0, .ref v0), (1, .int (gI v1))] [] (gi_cv h) (gx_oI res) (gi_cv h1)
  refine gx_iload_n dX11_isNullable_0 rfl 1 rfl ?_
  refine gx_bE e (fun q1 hq1 e => ?_)
  refine gx_smE e (fun t2 ht2 e => ?_) (fun t2 ht2 e => ?_)
  · have zq1 := z_X11_requireNonterminal hq1
    rw [ht2] at zq1
    refine gx_callS (n := 1) (st := []) (As := [.int (gI v1)]) dX11_isNullable_1 zq1 rfl ⟨rfl, gw_cw_X11_requireNonterminal, gw_1, gp_X11_requireNonterminal, ⟨Nat.le_of_ble_eq_true rfl, Nat.le_of_ble_eq_true rfl⟩⟩ gw_1275 gw_1276 ⟨Nat.le_of_ble_eq_true rfl, Nat.le_of_ble_eq_true rfl⟩ (Nat.le_of_ble_eq_true rfl) (gy_k0 (kc2 := 1) (ks2 := 6) ⟨rfl, rfl⟩ ?_) gy_kn
    refine gx_aload_n dX11_isNullable_4 rfl 0 rfl ?_
    refine gx_bE e (fun t3 ht3 e => ?_)
    refine gy_fR ht3 dX11_isNullable_5 gf_RX11_52_9_8 (by decide) gkN_9_8 gkR_9_8 ?_
    refine gx_bE e (fun _ hu4 e => ?_)
    refine gx_bE e (fun q5 hq5 e => ?_)
    refine gx_callV (n := 0) (st := []) (As := []) (b := t3) dX11_isNullable_8 (z_X3_learn hq5) rfl ⟨rfl, gw_cw_X3_learn, gw_6, gp_X3_learn, ⟨Nat.le_of_ble_eq_true rfl, Nat.le_of_ble_eq_true rfl⟩⟩ (gi_isS hu4) (by decide) gw_391 gw_392 gw_393 rfl ⟨Nat.le_of_ble_eq_true rfl, Nat.le_of_ble_eq_true rfl⟩ (Nat.le_of_ble_eq_true rfl) (gy_k0 (kc2 := 1) (ks2 := 6) ⟨rfl, rfl⟩ ?_) gy_kn
    refine gx_aload_n dX11_isNullable_11 rfl 0 rfl ?_
    refine gx_bE e (fun t6 ht6 e => ?_)
    refine gy_fR ht6 dX11_isNullable_12 gf_RX11_52_9_8 (by decide) gkN_9_8 gkR_9_8 ?_
    refine gx_iload_n dX11_isNullable_15 rfl 1 rfl ?_
    refine gx_bE e (fun _ hu7 e => ?_)
    refine gx_bE e (fun q8 hq8 e => ?_)
    refine gx_callV (n := 1) (st := []) (As := [.int (gI v1)]) (b := t6) dX11_isNullable_16 (z_X3_vanishes hq8) rfl ⟨rfl, gw_cw_X3_vanishes, gw_6, gp_X3_vanishes, ⟨Nat.le_of_ble_eq_true rfl, Nat.le_of_ble_eq_true rfl⟩⟩ (gi_isS hu7) (by decide) gw_1297 gw_1298 gw_1299 rfl ⟨Nat.le_of_ble_eq_true rfl, Nat.le_of_ble_eq_true rfl⟩ (Nat.le_of_ble_eq_true rfl) (gy_k1 (x := .int (gI q8)) (kc2 := 1) (ks2 := 6) ⟨rfl, rfl⟩ ?_) gy_kn
    refine gx_bE e (fun _ hu9 e => ?_)
    cases e
    exact gx_zret (gi_zoS hu9) dX11_isNullable_19 rfl ⟨Nat.le_of_ble_eq_true rfl, Nat.le_of_ble_eq_true rfl⟩ (fun z => z)
  · have zq1 := z_X11_requireNonterminal hq1
    rw [ht2] at zq1
    refine gx_callS (n := 1) (st := []) (As := [.int (gI v1)]) dX11_isNullable_1 zq1 rfl ⟨rfl, gw_cw_X11_requireNonterminal, gw_1, gp_X11_requireNonterminal, ⟨Nat.le_of_ble_eq_true rfl, Nat.le_of_ble_eq_true rfl⟩⟩ gw_1275 gw_1276 ⟨Nat.le_of_ble_eq_true rfl, Nat.le_of_ble_eq_true rfl⟩ (Nat.le_of_ble_eq_true rfl) gy_kN (gy_kE (kc2 := 1) (ks2 := 6) ⟨rfl, rfl⟩ ?_)
    cases e
    exact gx_out rfl ⟨Nat.le_of_ble_eq_true rfl, Nat.le_of_ble_eq_true rfl⟩ (fun z => z)
/-! L_nullable  -/
set_option maxRecDepth 100000 in
def f_L_nullable (n : Nat) (v0 : Nat) (v1 : Int) (h : gi_H) : Option (Int × gi_H) :=
  Option.bind (gi_is h v0 9) fun _ => Option.bind (f_X11_isNullable n v0 v1 h) fun q2 => gx_sm q2.1 (fun t3 => Option.bind (gi_rg t3) fun _ => if t3 = 0 then (some ((0 : Int), q2.2)) else (some ((1 : Int), q2.2))) (fun t3 => if t3 = gx_IOB then (some ((-101 : Int), q2.2)) else (none))
set_option maxRecDepth 100000 in
theorem z_L_nullable {n : Nat} {v0 : Nat} {v1 : Int} {h : gi_H} {res : Int} {h1 : gi_H} (e : f_L_nullable n v0 v1 h = some (res, h1)) : gx_Cw mL_nullable false [.ref v0, .int (gI v1)] (gi_cv h) (.inl (some (.int (gI res)))) (gi_cv h1) := by
  refine gx_enter (by decide +kernel) rfl (Nat.le_of_ble_eq_true rfl) ?_
  show gx_Z mL_nullable false false 0 0 0 [(0, .ref v0), (1, .int (gI v1))] [] (gi_cv h) (.inl (some (.int (gI res)))) (gi_cv h1)
  refine gx_aload_n dL_nullable_0 rfl 0 rfl ?_
  refine gx_iload_n dL_nullable_1 rfl 1 rfl ?_
  refine gx_bE e (fun _ hu1 e => ?_)
  refine gx_bE e (fun q2 hq2 e => ?_)
  refine gx_smE e (fun t3 ht3 e => ?_) (fun t3 ht3 e => ?_)
  · have zq2 := z_X11_isNullable hq2
    rw [ht3] at zq2
    refine gx_callV (n := 1) (st := []) (As := [.int (gI v1)]) (b := v0) dL_nullable_2 zq2 rfl ⟨rfl, gw_cw_X11_isNullable, gw_1, gp_X11_isNullable, ⟨Nat.le_of_ble_eq_true rfl, Nat.le_of_ble_eq_true rfl⟩⟩ (gi_isS hu1) (by decide) gw_1293 gw_1294 gw_1295 rfl ⟨Nat.le_of_ble_eq_true rfl, Nat.le_of_ble_eq_true rfl⟩ (Nat.le_of_ble_eq_true rfl) (gy_k1 (x := .int (gI t3)) (kc2 := 1) (ks2 := 6) ⟨rfl, rfl⟩ ?_) gy_kn
    refine gx_bE e (fun _ g4 e => ?_)
    refine gx_iE e (fun c5 e => ?_) (fun c5 e => ?_)
    · refine gy_if_eq (tgt := 12) (gi_rgS g4) dL_nullable_5 (by decide) (fun _ => ?_) (fun z => absurd c5 z)
      refine gy_iconst dL_nullable_12 ?_
      cases e
      exact gx_iret dL_nullable_13 rfl ⟨Nat.le_of_ble_eq_true rfl, Nat.le_of_ble_eq_true rfl⟩ (fun z => z)
    · refine gy_if_eq (tgt := 12) (gi_rgS g4) dL_nullable_5 (by decide) (fun z => absurd z c5) (fun _ => ?_)
      refine gy_iconst dL_nullable_8 ?_
      refine gx_goto (tgt := 13) dL_nullable_9 (by decide) ?_
      cases e
      exact gx_iret dL_nullable_13 rfl ⟨Nat.le_of_ble_eq_true rfl, Nat.le_of_ble_eq_true rfl⟩ (fun z => z)
  · have zq2 := z_X11_isNullable hq2
    rw [ht3] at zq2
    refine gx_callV (n := 1) (st := []) (As := [.int (gI v1)]) (b := v0) dL_nullable_2 zq2 rfl ⟨rfl, gw_cw_X11_isNullable, gw_1, gp_X11_isNullable, ⟨Nat.le_of_ble_eq_true rfl, Nat.le_of_ble_eq_true rfl⟩⟩ (gi_isS hu1) (by decide) gw_1293 gw_1294 gw_1295 rfl ⟨Nat.le_of_ble_eq_true rfl, Nat.le_of_ble_eq_true rfl⟩ (Nat.le_of_ble_eq_true rfl) gy_kN (gy_kE (kc2 := 1) (ks2 := 6) ⟨rfl, rfl⟩ ?_)
    refine gx_iE e (fun c6 e => ?_) (fun c6 e => ?_)
    · rw [c6]
      refine gx_catch (ls2 := [(0, .ref v0), (1, .int (gI v1))]) [] (x := (0, 13, 14, 33)) rfl (fun z hz => by cases hz) (by decide +kernel) (by decide) gw_866 (by decide +kernel) (Nat.le_of_ble_eq_true rfl) (Or.inl ⟨2, rfl, rfl, dL_nullable_14⟩) rfl ?_
      refine gy_bipush dL_nullable_15 gcb_m101 ?_
      cases e
      exact gx_iret dL_nullable_17 rfl ⟨Nat.le_of_ble_eq_true rfl, Nat.le_of_ble_eq_true rfl⟩ (fun z => z)
    cases e
/-! X3_firsts  -/
set_option maxRecDepth 100000 in
def f_X3_firsts (v0 : Nat) (v1 : Int) (h : gi_H) : Option (Int) :=
  Option.bind (gi_is h v0 2) fun _ => Option.bind (f_X3_beginOf v0 ((16 : Int) + v1) h) fun q2 => some (gi_and q2 (255 : Int))
set_option maxRecDepth 100000 in
theorem z_X3_firsts {al : Bool} {v0 : Nat} {v1 : Int} {h : gi_H} {res : Int} (e : f_X3_firsts v0 v1 h = some res) : gx_Cw mX3_firsts al [.ref v0, .int (gI v1)] (gi_cv h) (.inl (some (.int (gI res)))) (gi_cv h) := by
  refine gx_enter (by decide +kernel) rfl (Nat.le_of_ble_eq_true rfl) ?_
  show gx_Z mX3_firsts al al 0 0 0 [(0, .ref v0), (1, .int (gI v1))] [] (gi_cv h) (.inl (some (.int (gI res)))) (gi_cv h)
  refine gx_aload_n dX3_firsts_0 rfl 0 rfl ?_
  refine gy_bipush dX3_firsts_1 gcb_16 ?_
  refine gx_iload_n dX3_firsts_3 rfl 1 rfl ?_
  refine gy_iadd dX3_firsts_4 ?_
  refine gx_bE e (fun _ hu1 e => ?_)
  refine gx_bE e (fun q2 hq2 e => ?_)
  refine gx_callV (n := 1) (st := []) (As := [.int (gI ((16 : Int) + v1))]) (b := v0) dX3_firsts_5 (z_X3_beginOf hq2) rfl ⟨rfl, gw_cw_X3_beginOf, gw_6, gp_X3_beginOf, ⟨Nat.le_of_ble_eq_true rfl, Nat.le_of_ble_eq_true rfl⟩⟩ (gi_isS hu1) (by decide) gw_418 gw_420 gs_2 rfl ⟨Nat.le_of_ble_eq_true rfl, Nat.le_of_ble_eq_true rfl⟩ (Nat.le_of_ble_eq_true rfl) (gy_k1 (x := .int (gI q2)) (kc2 := 0) (ks2 := 0) ⟨rfl, rfl⟩ ?_) gy_kn
  refine gy_sipush dX3_firsts_8 gcs_255 ?_
  refine gy_iand dX3_firsts_11 ?_
  cases e
  exact gx_iret dX3_firsts_12 rfl ⟨Nat.le_of_ble_eq_true rfl, Nat.le_of_ble_eq_true rfl⟩ (fun z => z)
/-! X11_first  -/
set_option maxRecDepth 100000 in
def f_X11_first (n : Nat) (v0 : Nat) (v1 : Int) (h : gi_H) : Option ((Int ⊕ String) × gi_H) :=
  Option.bind (f_X11_requireNonterminal v1 h) fun q1 => gx_sm q1.1 (fun t2 => Option.bind (gi_gR q1.2 v0 9 8) fun t3 => Option.bind (gi_is q1.2 t3 2) fun _ => Option.bind (f_X3_learn n t3 q1.2) fun q5 => Option.bind (gi_gR q5 v0 9 8) fun t6 => Option.bind (gi_is q5 t6 2) fun _ => Option.bind (f_X3_firsts t6 v1 q5) fun q8 => some (.inl q8, q5)) (fun t2 => some (.inr t2, q1.2))
set_option maxRecDepth 100000 in
theorem z_X11_first {n : Nat} {v0 : Nat} {v1 : Int} {h : gi_H} {res : Int ⊕ String} {h1 : gi_H} (e : f_X11_first n v0 v1 h = some (res, h1)) : gx_Cw mX11_first false [.ref v0, .int (gI v1)] (gi_cv h) (gx_oI res) (gi_cv h1) := by
  refine gx_enter (by decide +kernel) rfl (Nat.le_of_ble_eq_true rfl) ?_
  show gx_Z mX11_first false false 0 0 0 [(0, .ref v0), (1, .int (gI v1))] [] (gi_cv h) (gx_oI res) (gi_cv h1)
  refine gx_iload_n dX11_first_0 rfl 1 rfl ?_
  refine gx_bE e (fun q1 hq1 e => ?_)
  refine gx_smE e (fun t2 ht2 e => ?_) (fun t2 ht2 e => ?_)
  · have zq1 := z_X11_requireNonterminal hq1
    rw [ht2] at zq1
    refine gx_callS (n := 1) (st := []) (As := [.int (gI v1)]) dX11_first_1 zq1 rfl ⟨rfl, gw_cw_X11_requireNonterminal, gw_1, gp_X11_requireNonterminal, ⟨Nat.le_of_ble_eq_true rfl, Nat.le_of_ble_eq_true rfl⟩⟩ gw_1275 gw_1276 ⟨Nat.le_of_ble_eq_true rfl, Nat.le_of_ble_eq_true rfl⟩ (Nat.le_of_ble_eq_true rfl) (gy_k0 (kc2 := 1) (ks2 := 6) ⟨rfl, rfl⟩ ?_) gy_kn
    refine gx_aload_n dX11_first_4 rfl 0 rfl ?_
    refine gx_bE e (fun t3 ht3 e => ?_)
    refine gy_fR ht3 dX11_first_5 gf_RX11_52_9_8 (by decide) gkN_9_8 gkR_9_8 ?_
    refine gx_bE e (fun _ hu4 e => ?_)
    refine gx_bE e (fun q5 hq5 e => ?_)
    refine gx_callV (n := 0) (st := []) (As := []) (b := t3) dX11_first_8 (z_X3_learn hq5) rfl ⟨rfl, gw_cw_X3_learn, gw_6, gp_X3_learn, ⟨Nat.le_of_ble_eq_true rfl, Nat.le_of_ble_eq_true rfl⟩⟩ (gi_isS hu4) (by decide) gw_391 gw_392 gw_393 rfl ⟨Nat.le_of_ble_eq_true rfl, Nat.le_of_ble_eq_true rfl⟩ (Nat.le_of_ble_eq_true rfl) (gy_k0 (kc2 := 1) (ks2 := 6) ⟨rfl, rfl⟩ ?_) gy_kn
    refine gx_aload_n dX11_first_11 rfl 0 rfl ?_
    refine gx_bE e (fun t6 ht6 e => ?_)
    refine gy_fR ht6 dX11_first_12 gf_RX11_52_9_8 (by decide) gkN_9_8 gkR_9_8 ?_
    refine gx_iload_n dX11_first_15 rfl 1 rfl ?_
    refine gx_bE e (fun _ hu7 e => ?_)
    refine gx_bE e (fun q8 hq8 e => ?_)
    refine gx_callV (n := 1) (st := []) (As := [.int (gI v1)]) (b := t6) dX11_first_16 (z_X3_firsts hq8) rfl ⟨rfl, gw_cw_X3_firsts, gw_6, gp_X3_firsts, ⟨Nat.le_of_ble_eq_true rfl, Nat.le_of_ble_eq_true rfl⟩⟩ (gi_isS hu7) (by decide) gw_1308 gw_1309 gw_1310 rfl ⟨Nat.le_of_ble_eq_true rfl, Nat.le_of_ble_eq_true rfl⟩ (Nat.le_of_ble_eq_true rfl) (gy_k1 (x := .int (gI q8)) (kc2 := 1) (ks2 := 6) ⟨rfl, rfl⟩ ?_) gy_kn
    cases e
    exact gx_iret dX11_first_19 rfl ⟨Nat.le_of_ble_eq_true rfl, Nat.le_of_ble_eq_true rfl⟩ (fun z => z)
  · have zq1 := z_X11_requireNonterminal hq1
    rw [ht2] at zq1
    refine gx_callS (n := 1) (st := []) (As := [.int (gI v1)]) dX11_first_1 zq1 rfl ⟨rfl, gw_cw_X11_requireNonterminal, gw_1, gp_X11_requireNonterminal, ⟨Nat.le_of_ble_eq_true rfl, Nat.le_of_ble_eq_true rfl⟩⟩ gw_1275 gw_1276 ⟨Nat.le_of_ble_eq_true rfl, Nat.le_of_ble_eq_true rfl⟩ (Nat.le_of_ble_eq_true rfl) gy_kN (gy_kE (kc2 := 1) (ks2 := 6) ⟨rfl, rfl⟩ ?_)
    cases e
    exact gx_out rfl ⟨Nat.le_of_ble_eq_true rfl, Nat.le_of_ble_eq_true rfl⟩ (fun z => z)
/-! L_first  -/
set_option maxRecDepth 100000 in
def f_L_first (n : Nat) (v0 : Nat) (v1 : Int) (h : gi_H) : Option (Int × gi_H) :=
  Option.bind (gi_is h v0 9) fun _ => Option.bind (f_X11_first n v0 v1 h) fun q2 => gx_sm q2.1 (fun t3 => some (t3, q2.2)) (fun t3 => if t3 = gx_IOB then (some ((-101 : Int), q2.2)) else (none))
set_option maxRecDepth 100000 in
theorem z_L_first {n : Nat} {v0 : Nat} {v1 : Int} {h : gi_H} {res : Int} {h1 : gi_H} (e : f_L_first n v0 v1 h = some (res, h1)) : gx_Cw mL_first false [.ref v0, .int (gI v1)] (gi_cv h) (.inl (some (.int (gI res)))) (gi_cv h1) := by
  refine gx_enter (by decide +kernel) rfl (Nat.le_of_ble_eq_true rfl) ?_
  show gx_Z mL_first false false 0 0 0 [(0, .ref v0), (1, .int (gI v1))] [] (gi_cv h) (.inl (some (.int (gI res)))) (gi_cv h1)
  refine gx_aload_n dL_first_0 rfl 0 rfl ?_
  refine gx_iload_n dL_first_1 rfl 1 rfl ?_
  refine gx_bE e (fun _ hu1 e => ?_)
  refine gx_bE e (fun q2 hq2 e => ?_)
  refine gx_smE e (fun t3 ht3 e => ?_) (fun t3 ht3 e => ?_)
  · have zq2 := z_X11_first hq2
    rw [ht3] at zq2
    refine gx_callV (n := 1) (st := []) (As := [.int (gI v1)]) (b := v0) dL_first_2 zq2 rfl ⟨rfl, gw_cw_X11_first, gw_1, gp_X11_first, ⟨Nat.le_of_ble_eq_true rfl, Nat.le_of_ble_eq_true rfl⟩⟩ (gi_isS hu1) (by decide) gw_1304 gw_1305 gw_1306 rfl ⟨Nat.le_of_ble_eq_true rfl, Nat.le_of_ble_eq_true rfl⟩ (Nat.le_of_ble_eq_true rfl) (gy_k1 (x := .int (gI t3)) (kc2 := 1) (ks2 := 6) ⟨rfl, rfl⟩ ?_) gy_kn
    cases e
    exact gx_iret dL_first_5 rfl ⟨Nat.le_of_ble_eq_true rfl, Nat.le_of_ble_eq_true rfl⟩ (fun z => z)
  · have zq2 := z_X11_first hq2
    rw [ht3] at zq2
    refine gx_callV (n := 1) (st := []) (As := [.int (gI v1)]) (b := v0) dL_first_2 zq2 rfl ⟨rfl, gw_cw_X11_first, gw_1, gp_X11_first, ⟨Nat.le_of_ble_eq_true rfl, Nat.le_of_ble_eq_true rfl⟩⟩ (gi_isS hu1) (by decide) gw_1304 gw_1305 gw_1306 rfl ⟨Nat.le_of_ble_eq_true rfl, Nat.le_of_ble_eq_true rfl⟩ (Nat.le_of_ble_eq_true rfl) gy_kN (gy_kE (kc2 := 1) (ks2 := 6) ⟨rfl, rfl⟩ ?_)
    refine gx_iE e (fun c4 e => ?_) (fun c4 e => ?_)
    · rw [c4]
      refine gx_catch (ls2 := [(0, .ref v0), (1, .int (gI v1))]) [] (x := (0, 5, 6, 33)) rfl (fun z hz => by cases hz) (by decide +kernel) (by decide) gw_866 (by decide +kernel) (Nat.le_of_ble_eq_true rfl) (Or.inl ⟨2, rfl, rfl, dL_first_6⟩) rfl ?_
      refine gy_bipush dL_first_7 gcb_m101 ?_
      cases e
      exact gx_iret dL_first_9 rfl ⟨Nat.le_of_ble_eq_true rfl, Nat.le_of_ble_eq_true rfl⟩ (fun z => z)
    cases e
/-! X3_spelled  -/
set_option maxRecDepth 100000 in
def f_X3_spelled (v0 : Nat) (v1 : Int) (v2 : Int) (h : gi_H) : Option (Int) :=
  Option.bind (gi_is h v0 2) fun _ => Option.bind (f_X3_least v0 v1 h) fun q2 => gx_nm ((q2 - (1 : Int)) - v2) fun t3 => Option.bind (gi_rg v1) fun _ => if v1 < 0 then (some (-1 : Int)) else (if (16 : Int) ≤ v1 then (some (-1 : Int)) else (Option.bind (gi_rg t3) fun _ => if t3 < 0 then (some (-1 : Int)) else (if t3 < (20 : Int) then (Option.bind (gi_gR h v0 2 9) fun t10 => Option.bind (gi_aL h t10 ((16 : Int) + v1)) fun t11 => some (gi_and (gi_shrL t11 ((3 : Int) * t3)) (7 : Int))) else (some (-1 : Int)))))
set_option maxRecDepth 100000 in
theorem z_X3_spelled {al : Bool} {v0 : Nat} {v1 : Int} {v2 : Int} {h : gi_H} {res : Int} (e : f_X3_spelled v0 v1 v2 h = some res) : gx_Cw mX3_spelled al [.ref v0, .int (gI v1), .int (gI v2)] (gi_cv h) (.inl (some (.int (gI res)))) (gi_cv h) := by
  refine gx_enter (by decide +kernel) rfl (Nat.le_of_ble_eq_true rfl) ?_
  show gx_Z mX3_spelled al al 0 0 0 [(0, .ref v0), (1, .int (gI v1)), (2, .int (gI v2))] [] (gi_cv h) (.inl (some (.int (gI res)))) (gi_cv h)
  refine gx_aload_n dX3_spelled_0 rfl 0 rfl ?_
  refine gx_iload_n dX3_spelled_1 rfl 1 rfl ?_
  refine gx_bE e (fun _ hu1 e => ?_)
  refine gx_bE e (fun q2 hq2 e => ?_)
  refine gx_callV (n := 1) (st := []) (As := [.int (gI v1)]) (b := v0) dX3_spelled_2 (z_X3_least hq2) rfl ⟨rfl, gw_cw_X3_least, gw_6, gp_X3_least, ⟨Nat.le_of_ble_eq_true rfl, Nat.le_of_ble_eq_true rfl⟩⟩ (gi_isS hu1) (by decide) gw_515 gw_516 gw_517 rfl ⟨Nat.le_of_ble_eq_true rfl, Nat.le_of_ble_eq_true rfl⟩ (Nat.le_of_ble_eq_true rfl) (gy_k1 (x := .int (gI q2)) (kc2 := 0) (ks2 := 0) ⟨rfl, rfl⟩ ?_) gy_kn
  refine gy_iconst dX3_spelled_5 ?_
  refine gy_isub dX3_spelled_6 ?_
  refine gx_iload_n dX3_spelled_7 rfl 2 rfl ?_
  refine gy_isub dX3_spelled_8 ?_
  refine gx_nE e (fun t3 ht3 e => ?_)
  rw [ht3]
  refine gx_istore_n (ls2 := [(3, .int (gI t3)), (0, .ref v0), (1, .int (gI v1)), (2, .int (gI v2))]) dX3_spelled_9 rfl (Nat.le_of_ble_eq_true rfl) rfl ?_
  refine gx_iload_n dX3_spelled_10 rfl 2 rfl ?_
  refine gx_bE e (fun _ g4 e => ?_)
  refine gx_iE e (fun c5 e => ?_) (fun c5 e => ?_)
  · refine gy_if_lt (tgt := 30) (gi_rgS g4) dX3_spelled_11 (by decide) (fun _ => ?_) (fun z => absurd c5 z)
    refine gy_iconst dX3_spelled_30 ?_
    cases e
    exact gx_iret dX3_spelled_31 rfl ⟨Nat.le_of_ble_eq_true rfl, Nat.le_of_ble_eq_true rfl⟩ (fun z => z)
  · refine gy_if_lt (tgt := 30) (gi_rgS g4) dX3_spelled_11 (by decide) (fun z => absurd z c5) (fun _ => ?_)
    refine gx_iload_n dX3_spelled_14 rfl 2 rfl ?_
    refine gy_bipush dX3_spelled_15 gcb_16 ?_
    refine gx_iE e (fun c6 e => ?_) (fun c6 e => ?_)
    · refine gy_icmp_ge (tgt := 30) (gi_rgS g4) (by decide) dX3_spelled_17 (by decide) (fun _ => ?_) (fun z => absurd c6 z)
      refine gy_iconst dX3_spelled_30 ?_
      cases e
      exact gx_iret dX3_spelled_31 rfl ⟨Nat.le_of_ble_eq_true rfl, Nat.le_of_ble_eq_true rfl⟩ (fun z => z)
    · refine gy_icmp_ge (tgt := 30) (gi_rgS g4) (by decide) dX3_spelled_17 (by decide) (fun z => absurd z c6) (fun _ => ?_)
      refine gx_iload_n dX3_spelled_20 rfl 0 rfl ?_
      refine gx_bE e (fun _ g7 e => ?_)
      refine gx_iE e (fun c8 e => ?_) (fun c8 e => ?_)
      · refine gy_if_lt (tgt := 30) (gi_rgS g7) dX3_spelled_21 (by decide) (fun _ => ?_) (fun z => absurd c8 z)
        refine gy_iconst dX3_spelled_30 ?_
        cases e
        exact gx_iret dX3_spelled_31 rfl ⟨Nat.le_of_ble_eq_true rfl, Nat.le_of_ble_eq_true rfl⟩ (fun z => z)
      · refine gy_if_lt (tgt := 30) (gi_rgS g7) dX3_spelled_21 (by decide) (fun z => absurd z c8) (fun _ => ?_)
        refine gx_iload_n dX3_spelled_24 rfl 0 rfl ?_
        refine gy_bipush dX3_spelled_25 gcb_20 ?_
        refine gx_iE e (fun c9 e => ?_) (fun c9 e => ?_)
        · refine gy_icmp_lt (tgt := 32) (gi_rgS g7) (by decide) dX3_spelled_27 (by decide) (fun _ => ?_) (fun z => absurd c9 z)
          refine gx_aload_n dX3_spelled_32 rfl 1 rfl ?_
          refine gx_bE e (fun t10 ht10 e => ?_)
          refine gy_fR ht10 dX3_spelled_33 gf_RX3_24_2_9 (by decide) gkN_2_9 gkR_2_9 ?_
          refine gy_bipush dX3_spelled_36 gcb_16 ?_
          refine gx_iload_n dX3_spelled_38 rfl 2 rfl ?_
          refine gy_iadd dX3_spelled_39 ?_
          refine gx_bE e (fun t11 ht11 e => ?_)
          refine gy_l2 ht11 dX3_spelled_40 ?_
          refine gy_iconst dX3_spelled_41 ?_
          refine gx_iload_n dX3_spelled_42 rfl 0 rfl ?_
          refine gy_imul dX3_spelled_43 ?_
          refine gy_lshr dX3_spelled_44 ?_
          refine gy_l2i dX3_spelled_45 ?_
          refine gy_bipush dX3_spelled_46 gcb_7 ?_
          refine gy_iand dX3_spelled_48 ?_
          cases e
          exact gx_iret dX3_spelled_49 rfl ⟨Nat.le_of_ble_eq_true rfl, Nat.le_of_ble_eq_true rfl⟩ (fun z => z)
        · refine gy_icmp_lt (tgt := 32) (gi_rgS g7) (by decide) dX3_spelled_27 (by decide) (fun z => absurd z c9) (fun _ => ?_)
          refine gy_iconst dX3_spelled_30 ?_
          cases e
          exact gx_iret dX3_spelled_31 rfl ⟨Nat.le_of_ble_eq_true rfl, Nat.le_of_ble_eq_true rfl⟩ (fun z => z)
/-! X11_sentence  -/
set_option maxRecDepth 100000 in
def b_X11_sentence_50 (n : Nat)    (h : gi_H) : Option ((Int ⊕ String) × gi_H) :=
  some (.inr gx_ISE, h)
set_option maxRecDepth 100000 in
theorem zb_X11_sentence_50 {n : Nat}  {res : Int ⊕ String} {h1 : gi_H}    {h : gi_H} (e : b_X11_sentence_50 n  h = some (res, h1)) : gx_Z mX11_sentence false false 1 6 50 [] [] (gi_cv h) (gx_oI res) (gi_cv h1) := by
  cases e
  exact gx_throw rfl gt_116_229_120 rfl dX11_sentence_50 dX11_sentence_53 dX11_sentence_54 dX11_sentence_56 dX11_sentence_59 (Nat.le_of_ble_eq_true rfl) (Nat.le_of_ble_eq_true rfl) ⟨Nat.le_of_ble_eq_true rfl, Nat.le_of_ble_eq_true rfl⟩
set_option maxRecDepth 100000 in
def f_X11_sentence (n : Nat) (v0 : Nat) (v1 : Int) (v2 : Int) (h : gi_H) : Option ((Int ⊕ String) × gi_H) :=
  Option.bind (f_X11_requireNonterminal v1 h) fun q1 => gx_sm q1.1 (fun t2 => Option.bind (gi_rg v2) fun _ => if 0 ≤ v2 then (Option.bind (gi_gR q1.2 v0 9 8) fun t5 => Option.bind (gi_is q1.2 t5 2) fun _ => Option.bind (f_X3_learn n t5 q1.2) fun q7 => Option.bind (gi_gR q7 v0 9 8) fun t8 => Option.bind (gi_is q7 t8 2) fun _ => Option.bind (f_X3_least t8 v1 q7) fun q10 => Option.bind (gi_rg q10) fun _ => if q10 = (-1 : Int) then (b_X11_sentence_50 n   q7) else (if (20 : Int) < q10 then (b_X11_sentence_50 n   q7) else (if v2 < q10 then (Option.bind (gi_gR q7 v0 9 8) fun t15 => Option.bind (gi_is q7 t15 2) fun _ => Option.bind (f_X3_spelled t15 v1 v2 q7) fun q17 => some (.inl q17, q7)) else (b_X11_sentence_50 n   q7)))) else (some (.inr gx_IOB, q1.2))) (fun t2 => some (.inr t2, q1.2))
set_option maxRecDepth 100000 in
theorem z_X11_sentence {n : Nat} {v0 : Nat} {v1 : Int} {v2 : Int} {h : gi_H} {res : Int ⊕ String} {h1 : gi_H} (e : f_X11_sentence n v0 v1 v2 h = some (res, h1)) : gx_Cw mX11_sentence false [.ref v0, .int (gI v1), .int (gI v2)] (gi_cv h) (gx_oI res) (gi_cv h1) := by
  refine gx_enter (by decide +kernel) rfl (Nat.le_of_ble_eq_true rfl) ?_
  show gx_Z mX11_sentence false false 0 0 0 [(0, .ref v0), (1, .int (gI v1)), (2, .int (gI v2))] [] (gi_cv h) (gx_oI res) (gi_cv h1)
  refine gx_iload_n dX11_sentence_0 rfl 1 rfl ?_
  refine gx_bE e (fun q1 hq1 e => ?_)
  refine gx_smE e (fun t2 ht2 e => ?_) (fun t2 ht2 e => ?_)
  · have zq1 := z_X11_requireNonterminal hq1
    rw [ht2] at zq1
    refine gx_callS (n := 1) (st := []) (As := [.int (gI v1)]) dX11_sentence_1 zq1 rfl ⟨rfl, gw_cw_X11_requireNonterminal, gw_1, gp_X11_requireNonterminal, ⟨Nat.le_of_ble_eq_true rfl, Nat.le_of_ble_eq_true rfl⟩⟩ gw_1275 gw_1276 ⟨Nat.le_of_ble_eq_true rfl, Nat.le_of_ble_eq_true rfl⟩ (Nat.le_of_ble_eq_true rfl) (gy_k0 (kc2 := 1) (ks2 := 6) ⟨rfl, rfl⟩ ?_) gy_kn
    refine gx_iload_n dX11_sentence_4 rfl 2 rfl ?_
    refine gx_bE e (fun _ g3 e => ?_)
    refine gx_iE e (fun c4 e => ?_) (fun c4 e => ?_)
    · refine gy_if_ge (tgt := 18) (gi_rgS g3) dX11_sentence_5 (by decide) (fun _ => ?_) (fun z => absurd c4 z)
      refine gx_aload_n dX11_sentence_18 rfl 0 rfl ?_
      refine gx_bE e (fun t5 ht5 e => ?_)
      refine gy_fR ht5 dX11_sentence_19 gf_RX11_52_9_8 (by decide) gkN_9_8 gkR_9_8 ?_
      refine gx_bE e (fun _ hu6 e => ?_)
      refine gx_bE e (fun q7 hq7 e => ?_)
      refine gx_callV (n := 0) (st := []) (As := []) (b := t5) dX11_sentence_22 (z_X3_learn hq7) rfl ⟨rfl, gw_cw_X3_learn, gw_6, gp_X3_learn, ⟨Nat.le_of_ble_eq_true rfl, Nat.le_of_ble_eq_true rfl⟩⟩ (gi_isS hu6) (by decide) gw_391 gw_392 gw_393 rfl ⟨Nat.le_of_ble_eq_true rfl, Nat.le_of_ble_eq_true rfl⟩ (Nat.le_of_ble_eq_true rfl) (gy_k0 (kc2 := 1) (ks2 := 6) ⟨rfl, rfl⟩ ?_) gy_kn
      refine gx_aload_n dX11_sentence_25 rfl 0 rfl ?_
      refine gx_bE e (fun t8 ht8 e => ?_)
      refine gy_fR ht8 dX11_sentence_26 gf_RX11_52_9_8 (by decide) gkN_9_8 gkR_9_8 ?_
      refine gx_iload_n dX11_sentence_29 rfl 1 rfl ?_
      refine gx_bE e (fun _ hu9 e => ?_)
      refine gx_bE e (fun q10 hq10 e => ?_)
      refine gx_callV (n := 1) (st := []) (As := [.int (gI v1)]) (b := t8) dX11_sentence_30 (z_X3_least hq10) rfl ⟨rfl, gw_cw_X3_least, gw_6, gp_X3_least, ⟨Nat.le_of_ble_eq_true rfl, Nat.le_of_ble_eq_true rfl⟩⟩ (gi_isS hu9) (by decide) gw_1278 gw_516 gw_517 rfl ⟨Nat.le_of_ble_eq_true rfl, Nat.le_of_ble_eq_true rfl⟩ (Nat.le_of_ble_eq_true rfl) (gy_k1 (x := .int (gI q10)) (kc2 := 1) (ks2 := 6) ⟨rfl, rfl⟩ ?_) gy_kn
      refine gx_istore_n (ls2 := [(3, .int (gI q10)), (0, .ref v0), (1, .int (gI v1)), (2, .int (gI v2))]) dX11_sentence_33 rfl (Nat.le_of_ble_eq_true rfl) rfl ?_
      refine gx_iload_n dX11_sentence_34 rfl 0 rfl ?_
      refine gy_iconst dX11_sentence_35 ?_
      refine gx_bE e (fun _ g11 e => ?_)
      refine gx_iE e (fun c12 e => ?_) (fun c12 e => ?_)
      · refine gy_icmp_eq (tgt := 50) (gi_rgS g11) (by decide) dX11_sentence_36 (by decide) (fun _ => ?_) (fun z => absurd c12 z)
        refine gx_sub (ls2 := []) [] rfl ?_
        exact zb_X11_sentence_50  e
      · refine gy_icmp_eq (tgt := 50) (gi_rgS g11) (by decide) dX11_sentence_36 (by decide) (fun z => absurd z c12) (fun _ => ?_)
        refine gx_iload_n dX11_sentence_39 rfl 0 rfl ?_
        refine gy_bipush dX11_sentence_40 gcb_20 ?_
        refine gx_iE e (fun c13 e => ?_) (fun c13 e => ?_)
        · refine gy_icmp_gt (tgt := 50) (gi_rgS g11) (by decide) dX11_sentence_42 (by decide) (fun _ => ?_) (fun z => absurd c13 z)
          refine gx_sub (ls2 := []) [] rfl ?_
          exact zb_X11_sentence_50  e
        · refine gy_icmp_gt (tgt := 50) (gi_rgS g11) (by decide) dX11_sentence_42 (by decide) (fun z => absurd z c13) (fun _ => ?_)
          refine gx_iload_n dX11_sentence_45 rfl 3 rfl ?_
          refine gx_iload_n dX11_sentence_46 rfl 0 rfl ?_
          refine gx_iE e (fun c14 e => ?_) (fun c14 e => ?_)
          · refine gy_icmp_lt (tgt := 60) (gi_rgS g3) (gi_rgS g11) dX11_sentence_47 (by decide) (fun _ => ?_) (fun z => absurd c14 z)
            refine gx_aload_n dX11_sentence_60 rfl 1 rfl ?_
            refine gx_bE e (fun t15 ht15 e => ?_)
            refine gy_fR ht15 dX11_sentence_61 gf_RX11_52_9_8 (by decide) gkN_9_8 gkR_9_8 ?_
            refine gx_iload_n dX11_sentence_64 rfl 2 rfl ?_
            refine gx_iload_n dX11_sentence_65 rfl 3 rfl ?_
            refine gx_bE e (fun _ hu16 e => ?_)
            refine gx_bE e (fun q17 hq17 e => ?_)
            refine gx_callV (n := 2) (st := []) (As := [.int (gI v1), .int (gI v2)]) (b := t15) dX11_sentence_66 (z_X3_spelled hq17) rfl ⟨rfl, gw_cw_X3_spelled, gw_6, gp_X3_spelled, ⟨Nat.le_of_ble_eq_true rfl, Nat.le_of_ble_eq_true rfl⟩⟩ (gi_isS hu16) (by decide) gw_1320 gw_1321 gw_1322 rfl ⟨Nat.le_of_ble_eq_true rfl, Nat.le_of_ble_eq_true rfl⟩ (Nat.le_of_ble_eq_true rfl) (gy_k1 (x := .int (gI q17)) (kc2 := 1) (ks2 := 6) ⟨rfl, rfl⟩ ?_) gy_kn
            cases e
            exact gx_iret dX11_sentence_69 rfl ⟨Nat.le_of_ble_eq_true rfl, Nat.le_of_ble_eq_true rfl⟩ (fun z => z)
          · refine gy_icmp_lt (tgt := 60) (gi_rgS g3) (gi_rgS g11) dX11_sentence_47 (by decide) (fun z => absurd z c14) (fun _ => ?_)
            refine gx_sub (ls2 := []) [] rfl ?_
            exact zb_X11_sentence_50  e
    · refine gy_if_ge (tgt := 18) (gi_rgS g3) dX11_sentence_5 (by decide) (fun z => absurd z c4) (fun _ => ?_)
      cases e
      exact gx_throw rfl gt_151_227_155 rfl dX11_sentence_8 dX11_sentence_11 dX11_sentence_12 dX11_sentence_14 dX11_sentence_17 (Nat.le_of_ble_eq_true rfl) (Nat.le_of_ble_eq_true rfl) ⟨Nat.le_of_ble_eq_true rfl, Nat.le_of_ble_eq_true rfl⟩
  · have zq1 := z_X11_requireNonterminal hq1
    rw [ht2] at zq1
    refine gx_callS (n := 1) (st := []) (As := [.int (gI v1)]) dX11_sentence_1 zq1 rfl ⟨rfl, gw_cw_X11_requireNonterminal, gw_1, gp_X11_requireNonterminal, ⟨Nat.le_of_ble_eq_true rfl, Nat.le_of_ble_eq_true rfl⟩⟩ gw_1275 gw_1276 ⟨Nat.le_of_ble_eq_true rfl, Nat.le_of_ble_eq_true rfl⟩ (Nat.le_of_ble_eq_true rfl) gy_kN (gy_kE (kc2 := 1) (ks2 := 6) ⟨rfl, rfl⟩ ?_)
    cases e
    exact gx_out rfl ⟨Nat.le_of_ble_eq_true rfl, Nat.le_of_ble_eq_true rfl⟩ (fun z => z)
/-! L_sentence  -/
set_option maxRecDepth 100000 in
def f_L_sentence (n : Nat) (v0 : Nat) (v1 : Int) (v2 : Int) (h : gi_H) : Option (Int × gi_H) :=
  Option.bind (gi_is h v0 9) fun _ => Option.bind (f_X11_sentence n v0 v1 v2 h) fun q2 => gx_sm q2.1 (fun t3 => some (t3, q2.2)) (fun t3 => if t3 = gx_IOB then (some ((-101 : Int), q2.2)) else (if t3 = gx_ISE then (some ((-103 : Int), q2.2)) else (none)))
set_option maxRecDepth 100000 in
theorem z_L_sentence {n : Nat} {v0 : Nat} {v1 : Int} {v2 : Int} {h : gi_H} {res : Int} {h1 : gi_H} (e : f_L_sentence n v0 v1 v2 h = some (res, h1)) : gx_Cw mL_sentence false [.ref v0, .int (gI v1), .int (gI v2)] (gi_cv h) (.inl (some (.int (gI res)))) (gi_cv h1) := by
  refine gx_enter (by decide +kernel) rfl (Nat.le_of_ble_eq_true rfl) ?_
  show gx_Z mL_sentence false false 0 0 0 [(0, .ref v0), (1, .int (gI v1)), (2, .int (gI v2))] [] (gi_cv h) (.inl (some (.int (gI res)))) (gi_cv h1)
  refine gx_aload_n dL_sentence_0 rfl 0 rfl ?_
  refine gx_iload_n dL_sentence_1 rfl 1 rfl ?_
  refine gx_iload_n dL_sentence_2 rfl 2 rfl ?_
  refine gx_bE e (fun _ hu1 e => ?_)
  refine gx_bE e (fun q2 hq2 e => ?_)
  refine gx_smE e (fun t3 ht3 e => ?_) (fun t3 ht3 e => ?_)
  · have zq2 := z_X11_sentence hq2
    rw [ht3] at zq2
    refine gx_callV (n := 2) (st := []) (As := [.int (gI v1), .int (gI v2)]) (b := v0) dL_sentence_3 zq2 rfl ⟨rfl, gw_cw_X11_sentence, gw_1, gp_X11_sentence, ⟨Nat.le_of_ble_eq_true rfl, Nat.le_of_ble_eq_true rfl⟩⟩ (gi_isS hu1) (by decide) gw_1315 gw_1316 gw_1317 rfl ⟨Nat.le_of_ble_eq_true rfl, Nat.le_of_ble_eq_true rfl⟩ (Nat.le_of_ble_eq_true rfl) (gy_k1 (x := .int (gI t3)) (kc2 := 2) (ks2 := 12) ⟨rfl, rfl⟩ ?_) gy_kn
    cases e
    exact gx_iret dL_sentence_6 rfl ⟨Nat.le_of_ble_eq_true rfl, Nat.le_of_ble_eq_true rfl⟩ (fun z => z)
  · have zq2 := z_X11_sentence hq2
    rw [ht3] at zq2
    refine gx_callV (n := 2) (st := []) (As := [.int (gI v1), .int (gI v2)]) (b := v0) dL_sentence_3 zq2 rfl ⟨rfl, gw_cw_X11_sentence, gw_1, gp_X11_sentence, ⟨Nat.le_of_ble_eq_true rfl, Nat.le_of_ble_eq_true rfl⟩⟩ (gi_isS hu1) (by decide) gw_1315 gw_1316 gw_1317 rfl ⟨Nat.le_of_ble_eq_true rfl, Nat.le_of_ble_eq_true rfl⟩ (Nat.le_of_ble_eq_true rfl) gy_kN (gy_kE (kc2 := 2) (ks2 := 12) ⟨rfl, rfl⟩ ?_)
    refine gx_iE e (fun c4 e => ?_) (fun c4 e => ?_)
    · rw [c4]
      refine gx_catch (ls2 := [(0, .ref v0), (1, .int (gI v1)), (2, .int (gI v2))]) [] (x := (0, 6, 7, 33)) rfl (fun z hz => by cases hz) (by decide +kernel) (by decide) gw_866 (by decide +kernel) (Nat.le_of_ble_eq_true rfl) (Or.inl ⟨3, rfl, rfl, dL_sentence_7⟩) rfl ?_
      refine gy_bipush dL_sentence_8 gcb_m101 ?_
      cases e
      exact gx_iret dL_sentence_10 rfl ⟨Nat.le_of_ble_eq_true rfl, Nat.le_of_ble_eq_true rfl⟩ (fun z => z)
    refine gx_iE e (fun c5 e => ?_) (fun c5 e => ?_)
    · rw [c5]
      refine gx_catch (ls2 := [(0, .ref v0), (1, .int (gI v1)), (2, .int (gI v2))]) [(0, 6, 7, 33)] (x := (0, 6, 11, 17)) rfl (by refine List.forall_mem_cons.mpr ⟨⟨by decide, "java/lang/IndexOutOfBoundsException", gw_866, by decide +kernel⟩, ?_⟩;  exact fun z hz => absurd hz List.not_mem_nil) (by decide +kernel) (by decide) gw_655 (by decide +kernel) (Nat.le_of_ble_eq_true rfl) (Or.inl ⟨3, rfl, rfl, dL_sentence_11⟩) rfl ?_
      refine gy_bipush dL_sentence_12 gcb_m103 ?_
      cases e
      exact gx_iret dL_sentence_14 rfl ⟨Nat.le_of_ble_eq_true rfl, Nat.le_of_ble_eq_true rfl⟩ (fun z => z)
    cases e
/-! X11_follow  -/
set_option maxRecDepth 100000 in
def f_X11_follow (n : Nat) (v0 : Nat) (v1 : Int) (h : gi_H) : Option ((Int ⊕ String) × gi_H) :=
  Option.bind (f_X11_requireNonterminal v1 h) fun q1 => gx_sm q1.1 (fun t2 => Option.bind (gi_gR q1.2 v0 9 8) fun t3 => Option.bind (gi_is q1.2 t3 2) fun _ => Option.bind (f_X3_learn n t3 q1.2) fun q5 => Option.bind (gi_gR q5 v0 9 8) fun t6 => Option.bind (gi_is q5 t6 2) fun _ => Option.bind (f_X3_behind t6 v1 q5) fun q8 => some (.inl q8, q5)) (fun t2 => some (.inr t2, q1.2))
set_option maxRecDepth 100000 in
theorem z_X11_follow {n : Nat} {v0 : Nat} {v1 : Int} {h : gi_H} {res : Int ⊕ String} {h1 : gi_H} (e : f_X11_follow n v0 v1 h = some (res, h1)) : gx_Cw mX11_follow false [.ref v0, .int (gI v1)] (gi_cv h) (gx_oI res) (gi_cv h1) := by
  refine gx_enter (by decide +kernel) rfl (Nat.le_of_ble_eq_true rfl) ?_
  show gx_Z mX11_follow false false 0 0 0 [(0, .ref v0), (1, .int (gI v1))] [] (gi_cv h) (gx_oI res) (gi_cv h1)
  refine gx_iload_n dX11_follow_0 rfl 1 rfl ?_
  refine gx_bE e (fun q1 hq1 e => ?_)
  refine gx_smE e (fun t2 ht2 e => ?_) (fun t2 ht2 e => ?_)
  · have zq1 := z_X11_requireNonterminal hq1
    rw [ht2] at zq1
    refine gx_callS (n := 1) (st := []) (As := [.int (gI v1)]) dX11_follow_1 zq1 rfl ⟨rfl, gw_cw_X11_requireNonterminal, gw_1, gp_X11_requireNonterminal, ⟨Nat.le_of_ble_eq_true rfl, Nat.le_of_ble_eq_true rfl⟩⟩ gw_1275 gw_1276 ⟨Nat.le_of_ble_eq_true rfl, Nat.le_of_ble_eq_true rfl⟩ (Nat.le_of_ble_eq_true rfl) (gy_k0 (kc2 := 1) (ks2 := 6) ⟨rfl, rfl⟩ ?_) gy_kn
    refine gx_aload_n dX11_follow_4 rfl 0 rfl ?_
    refine gx_bE e (fun t3 ht3 e => ?_)
    refine gy_fR ht3 dX11_follow_5 gf_RX11_52_9_8 (by decide) gkN_9_8 gkR_9_8 ?_
    refine gx_bE e (fun _ hu4 e => ?_)
    refine gx_bE e (fun q5 hq5 e => ?_)
    refine gx_callV (n := 0) (st := []) (As := []) (b := t3) dX11_follow_8 (z_X3_learn hq5) rfl ⟨rfl, gw_cw_X3_learn, gw_6, gp_X3_learn, ⟨Nat.le_of_ble_eq_true rfl, Nat.le_of_ble_eq_true rfl⟩⟩ (gi_isS hu4) (by decide) gw_391 gw_392 gw_393 rfl ⟨Nat.le_of_ble_eq_true rfl, Nat.le_of_ble_eq_true rfl⟩ (Nat.le_of_ble_eq_true rfl) (gy_k0 (kc2 := 1) (ks2 := 6) ⟨rfl, rfl⟩ ?_) gy_kn
    refine gx_aload_n dX11_follow_11 rfl 0 rfl ?_
    refine gx_bE e (fun t6 ht6 e => ?_)
    refine gy_fR ht6 dX11_follow_12 gf_RX11_52_9_8 (by decide) gkN_9_8 gkR_9_8 ?_
    refine gx_iload_n dX11_follow_15 rfl 1 rfl ?_
    refine gx_bE e (fun _ hu7 e => ?_)
    refine gx_bE e (fun q8 hq8 e => ?_)
    refine gx_callV (n := 1) (st := []) (As := [.int (gI v1)]) (b := t6) dX11_follow_16 (z_X3_behind hq8) rfl ⟨rfl, gw_cw_X3_behind, gw_6, gp_X3_behind, ⟨Nat.le_of_ble_eq_true rfl, Nat.le_of_ble_eq_true rfl⟩⟩ (gi_isS hu7) (by decide) gw_1331 gw_441 gw_442 rfl ⟨Nat.le_of_ble_eq_true rfl, Nat.le_of_ble_eq_true rfl⟩ (Nat.le_of_ble_eq_true rfl) (gy_k1 (x := .int (gI q8)) (kc2 := 1) (ks2 := 6) ⟨rfl, rfl⟩ ?_) gy_kn
    cases e
    exact gx_iret dX11_follow_19 rfl ⟨Nat.le_of_ble_eq_true rfl, Nat.le_of_ble_eq_true rfl⟩ (fun z => z)
  · have zq1 := z_X11_requireNonterminal hq1
    rw [ht2] at zq1
    refine gx_callS (n := 1) (st := []) (As := [.int (gI v1)]) dX11_follow_1 zq1 rfl ⟨rfl, gw_cw_X11_requireNonterminal, gw_1, gp_X11_requireNonterminal, ⟨Nat.le_of_ble_eq_true rfl, Nat.le_of_ble_eq_true rfl⟩⟩ gw_1275 gw_1276 ⟨Nat.le_of_ble_eq_true rfl, Nat.le_of_ble_eq_true rfl⟩ (Nat.le_of_ble_eq_true rfl) gy_kN (gy_kE (kc2 := 1) (ks2 := 6) ⟨rfl, rfl⟩ ?_)
    cases e
    exact gx_out rfl ⟨Nat.le_of_ble_eq_true rfl, Nat.le_of_ble_eq_true rfl⟩ (fun z => z)
/-! L_follow  -/
set_option maxRecDepth 100000 in
def f_L_follow (n : Nat) (v0 : Nat) (v1 : Int) (h : gi_H) : Option (Int × gi_H) :=
  Option.bind (gi_is h v0 9) fun _ => Option.bind (f_X11_follow n v0 v1 h) fun q2 => gx_sm q2.1 (fun t3 => some (t3, q2.2)) (fun t3 => if t3 = gx_IOB then (some ((-101 : Int), q2.2)) else (none))
set_option maxRecDepth 100000 in
theorem z_L_follow {n : Nat} {v0 : Nat} {v1 : Int} {h : gi_H} {res : Int} {h1 : gi_H} (e : f_L_follow n v0 v1 h = some (res, h1)) : gx_Cw mL_follow false [.ref v0, .int (gI v1)] (gi_cv h) (.inl (some (.int (gI res)))) (gi_cv h1) := by
  refine gx_enter (by decide +kernel) rfl (Nat.le_of_ble_eq_true rfl) ?_
  show gx_Z mL_follow false false 0 0 0 [(0, .ref v0), (1, .int (gI v1))] [] (gi_cv h) (.inl (some (.int (gI res)))) (gi_cv h1)
  refine gx_aload_n dL_follow_0 rfl 0 rfl ?_
  refine gx_iload_n dL_follow_1 rfl 1 rfl ?_
  refine gx_bE e (fun _ hu1 e => ?_)
  refine gx_bE e (fun q2 hq2 e => ?_)
  refine gx_smE e (fun t3 ht3 e => ?_) (fun t3 ht3 e => ?_)
  · have zq2 := z_X11_follow hq2
    rw [ht3] at zq2
    refine gx_callV (n := 1) (st := []) (As := [.int (gI v1)]) (b := v0) dL_follow_2 zq2 rfl ⟨rfl, gw_cw_X11_follow, gw_1, gp_X11_follow, ⟨Nat.le_of_ble_eq_true rfl, Nat.le_of_ble_eq_true rfl⟩⟩ (gi_isS hu1) (by decide) gw_1327 gw_1328 gw_1329 rfl ⟨Nat.le_of_ble_eq_true rfl, Nat.le_of_ble_eq_true rfl⟩ (Nat.le_of_ble_eq_true rfl) (gy_k1 (x := .int (gI t3)) (kc2 := 1) (ks2 := 6) ⟨rfl, rfl⟩ ?_) gy_kn
    cases e
    exact gx_iret dL_follow_5 rfl ⟨Nat.le_of_ble_eq_true rfl, Nat.le_of_ble_eq_true rfl⟩ (fun z => z)
  · have zq2 := z_X11_follow hq2
    rw [ht3] at zq2
    refine gx_callV (n := 1) (st := []) (As := [.int (gI v1)]) (b := v0) dL_follow_2 zq2 rfl ⟨rfl, gw_cw_X11_follow, gw_1, gp_X11_follow, ⟨Nat.le_of_ble_eq_true rfl, Nat.le_of_ble_eq_true rfl⟩⟩ (gi_isS hu1) (by decide) gw_1327 gw_1328 gw_1329 rfl ⟨Nat.le_of_ble_eq_true rfl, Nat.le_of_ble_eq_true rfl⟩ (Nat.le_of_ble_eq_true rfl) gy_kN (gy_kE (kc2 := 1) (ks2 := 6) ⟨rfl, rfl⟩ ?_)
    refine gx_iE e (fun c4 e => ?_) (fun c4 e => ?_)
    · rw [c4]
      refine gx_catch (ls2 := [(0, .ref v0), (1, .int (gI v1))]) [] (x := (0, 5, 6, 33)) rfl (fun z hz => by cases hz) (by decide +kernel) (by decide) gw_866 (by decide +kernel) (Nat.le_of_ble_eq_true rfl) (Or.inl ⟨2, rfl, rfl, dL_follow_6⟩) rfl ?_
      refine gy_bipush dL_follow_7 gcb_m101 ?_
      cases e
      exact gx_iret dL_follow_9 rfl ⟨Nat.le_of_ble_eq_true rfl, Nat.le_of_ble_eq_true rfl⟩ (fun z => z)
    cases e
/-! L_names  -/
set_option maxRecDepth 100000 in
def b_L_names_178 (n : Nat)    (h : gi_H) : Option (Int × gi_H) :=
  some ((0 : Int), h)
set_option maxRecDepth 100000 in
theorem zb_L_names_178 {n : Nat}  {res : Int} {h1 : gi_H}    {h : gi_H} (e : b_L_names_178 n  h = some (res, h1)) : gx_Z mL_names false false 409 2454 178 [] [] (gi_cv h) (.inl (some (.int (gI res)))) (gi_cv h1) := by
  refine gy_iconst dL_names_178 ?_
  cases e
  exact gx_zret (by decide +kernel) dL_names_179 rfl ⟨Nat.le_of_ble_eq_true rfl, Nat.le_of_ble_eq_true rfl⟩ (fun z => z)
set_option maxRecDepth 100000 in
def b_L_names_162 (n : Nat)  (v0 : Nat) (v1 : Int)  (h : gi_H) : Option (Int × gi_H) :=
  Option.bind (gi_rg v1) fun _ => if v1 = 0 then (b_L_names_178 n   h) else (Option.bind (f_L_follow n v0 (0 : Int) h) fun q5 => Option.bind (gi_rg q5.1) fun _ => if q5.1 < 0 then (b_L_names_178 n   q5.2) else (some ((1 : Int), q5.2)))
set_option maxRecDepth 100000 in
theorem zb_L_names_162 {n : Nat}  {res : Int} {h1 : gi_H}  {v0 : Nat} {v1 : Int}  {h : gi_H} (e : b_L_names_162 n v0 v1 h = some (res, h1)) : gx_Z mL_names false false 408 2448 162 [(0, .ref v0), (1, .int (gI v1))] [] (gi_cv h) (.inl (some (.int (gI res)))) (gi_cv h1) := by
  refine gx_iload_n dL_names_162 rfl 1 rfl ?_
  refine gx_bE e (fun _ g3 e => ?_)
  refine gx_iE e (fun c4 e => ?_) (fun c4 e => ?_)
  · refine gy_if_eq (tgt := 178) (gi_rgS g3) dL_names_163 (by decide) (fun _ => ?_) (fun z => absurd c4 z)
    refine gx_sub (ls2 := []) [] rfl ?_
    refine gx_kup (kc2 := 409) (ks2 := 2454) (Nat.le_of_ble_eq_true rfl) (Nat.le_of_ble_eq_true rfl) ?_
    exact zb_L_names_178  e
  · refine gy_if_eq (tgt := 178) (gi_rgS g3) dL_names_163 (by decide) (fun z => absurd z c4) (fun _ => ?_)
    refine gx_aload_n dL_names_166 rfl 0 rfl ?_
    refine gy_iconst dL_names_167 ?_
    refine gx_bE e (fun q5 hq5 e => ?_)
    refine gx_callSW (n := 2) (st := []) (As := [.ref v0, .int (gI (0 : Int))]) dL_names_168 (z_L_follow hq5) rfl ⟨(by decide +kernel), gw_cw_L_follow, gw_0, gp_L_follow, ⟨Nat.le_of_ble_eq_true rfl, Nat.le_of_ble_eq_true rfl⟩⟩ gw_1324 gw_1325 ⟨Nat.le_of_ble_eq_true rfl, Nat.le_of_ble_eq_true rfl⟩ (Nat.le_of_ble_eq_true rfl) (gy_k1 (x := .int (gI q5.1)) (kc2 := 409) (ks2 := 2454) ⟨rfl, rfl⟩ ?_)
    refine gx_bE e (fun _ g6 e => ?_)
    refine gx_iE e (fun c7 e => ?_) (fun c7 e => ?_)
    · refine gy_if_lt (tgt := 178) (gi_rgS g6) dL_names_171 (by decide) (fun _ => ?_) (fun z => absurd c7 z)
      refine gx_sub (ls2 := []) [] rfl ?_
      exact zb_L_names_178  e
    · refine gy_if_lt (tgt := 178) (gi_rgS g6) dL_names_171 (by decide) (fun z => absurd z c7) (fun _ => ?_)
      refine gy_iconst dL_names_174 ?_
      refine gx_goto (tgt := 179) dL_names_175 (by decide) ?_
      cases e
      exact gx_zret (by decide +kernel) dL_names_179 rfl ⟨Nat.le_of_ble_eq_true rfl, Nat.le_of_ble_eq_true rfl⟩ (fun z => z)
set_option maxRecDepth 100000 in
def b_L_names_156 (n : Nat) (r4 : Nat → Int → Int → gi_H → Option (Int × gi_H)) (v0 : Nat) (v1 : Int) (v2 : Int)  (h : gi_H) : Option (Int × gi_H) :=
  gx_nm (v2 + (1 : Int)) fun t32 => r4 v0 v1 t32 h
set_option maxRecDepth 100000 in
theorem zb_L_names_156 {n : Nat} {r4 : Nat → Int → Int → gi_H → Option (Int × gi_H)} {res : Int} {h1 : gi_H} {kc ks k : Nat} (hkc : kc + (k + 1) * 24 ≤ 408) (hks : ks + (k + 1) * 144 ≤ 2448) (hr4 : ∀ (kc ks : Nat) (x0 : Nat) (x1 : Int) (x2 : Int) (hh : gi_H), kc + k * 24 ≤ 408 → ks + k * 144 ≤ 2448 → r4 x0 x1 x2 hh = some (res, h1) → gx_Z mL_names false false kc ks 4 [(0, .ref x0), (1, .int (gI x1)), (2, .int (gI x2))] [] (gi_cv hh) (.inl (some (.int (gI res)))) (gi_cv h1)) {v0 : Nat} {v1 : Int} {v2 : Int}  {h : gi_H} (e : b_L_names_156 n r4 v0 v1 v2 h = some (res, h1)) : gx_Z mL_names false false (kc + 10) (ks + 60) 156 [(0, .ref v0), (1, .int (gI v1)), (2, .int (gI v2))] [] (gi_cv h) (.inl (some (.int (gI res)))) (gi_cv h1) := by
  have hKc : 408 ≤ (gx_rm mL_names).cells := Nat.le_of_ble_eq_true rfl
  have hKs : 2448 ≤ (gx_rm mL_names).slots := Nat.le_of_ble_eq_true rfl
  refine gx_nE e (fun t32 ht32 e => ?_)
  refine gy_iinc (v := t32) (ls2 := [(2, .int (gI t32)), (0, .ref v0), (1, .int (gI v1))]) dL_names_156 2 rfl ht32 (Nat.le_of_ble_eq_true rfl) rfl ?_
  refine gx_goto (tgt := 4) dL_names_159 (by decide) ?_
  refine gx_sub (ls2 := [(0, .ref v0), (1, .int (gI v1)), (2, .int (gI t32))]) [1, 2, 0] rfl ?_
  exact hr4 _ _ _ _ _ _ (by show (kc + 10) + _ ≤ _; omega) (by show (ks + 60) + _ ≤ _; omega) e
set_option maxRecDepth 100000 in
def b_L_names_155 (n : Nat) (r4 : Nat → Int → Int → gi_H → Option (Int × gi_H)) (v0 : Nat) (v2 : Int) (s0 : Int) (h : gi_H) : Option (Int × gi_H) :=
  b_L_names_156 n r4 v0 s0 v2 h
set_option maxRecDepth 100000 in
theorem zb_L_names_155 {n : Nat} {r4 : Nat → Int → Int → gi_H → Option (Int × gi_H)} {res : Int} {h1 : gi_H} {kc ks k : Nat} (hkc : kc + (k + 1) * 24 ≤ 408) (hks : ks + (k + 1) * 144 ≤ 2448) (hr4 : ∀ (kc ks : Nat) (x0 : Nat) (x1 : Int) (x2 : Int) (hh : gi_H), kc + k * 24 ≤ 408 → ks + k * 144 ≤ 2448 → r4 x0 x1 x2 hh = some (res, h1) → gx_Z mL_names false false kc ks 4 [(0, .ref x0), (1, .int (gI x1)), (2, .int (gI x2))] [] (gi_cv hh) (.inl (some (.int (gI res)))) (gi_cv h1)) {v0 : Nat} {v2 : Int} {s0 : Int} {h : gi_H} (e : b_L_names_155 n r4 v0 v2 s0 h = some (res, h1)) : gx_Z mL_names false false (kc + 10) (ks + 60) 155 [(0, .ref v0), (2, .int (gI v2))] [.int (gI s0)] (gi_cv h) (.inl (some (.int (gI res)))) (gi_cv h1) := by
  have hKc : 408 ≤ (gx_rm mL_names).cells := Nat.le_of_ble_eq_true rfl
  have hKs : 2448 ≤ (gx_rm mL_names).slots := Nat.le_of_ble_eq_true rfl
  refine gx_istore_n (ls2 := [(1, .int (gI s0)), (0, .ref v0), (2, .int (gI v2))]) dL_names_155 rfl (Nat.le_of_ble_eq_true rfl) rfl ?_
  refine gx_sub (ls2 := [(0, .ref v0), (1, .int (gI s0)), (2, .int (gI v2))]) [1, 0, 2] rfl ?_
  exact zb_L_names_156 hkc hks hr4 e
set_option maxRecDepth 100000 in
def b_L_names_154 (n : Nat) (r4 : Nat → Int → Int → gi_H → Option (Int × gi_H)) (v0 : Nat) (v2 : Int)  (h : gi_H) : Option (Int × gi_H) :=
  b_L_names_155 n r4 v0 v2 (0 : Int) h
set_option maxRecDepth 100000 in
theorem zb_L_names_154 {n : Nat} {r4 : Nat → Int → Int → gi_H → Option (Int × gi_H)} {res : Int} {h1 : gi_H} {kc ks k : Nat} (hkc : kc + (k + 1) * 24 ≤ 408) (hks : ks + (k + 1) * 144 ≤ 2448) (hr4 : ∀ (kc ks : Nat) (x0 : Nat) (x1 : Int) (x2 : Int) (hh : gi_H), kc + k * 24 ≤ 408 → ks + k * 144 ≤ 2448 → r4 x0 x1 x2 hh = some (res, h1) → gx_Z mL_names false false kc ks 4 [(0, .ref x0), (1, .int (gI x1)), (2, .int (gI x2))] [] (gi_cv hh) (.inl (some (.int (gI res)))) (gi_cv h1)) {v0 : Nat} {v2 : Int}  {h : gi_H} (e : b_L_names_154 n r4 v0 v2 h = some (res, h1)) : gx_Z mL_names false false (kc + 10) (ks + 60) 154 [(0, .ref v0), (2, .int (gI v2))] [] (gi_cv h) (.inl (some (.int (gI res)))) (gi_cv h1) := by
  have hKc : 408 ≤ (gx_rm mL_names).cells := Nat.le_of_ble_eq_true rfl
  have hKs : 2448 ≤ (gx_rm mL_names).slots := Nat.le_of_ble_eq_true rfl
  refine gy_iconst dL_names_154 ?_
  exact zb_L_names_155 hkc hks hr4 e
set_option maxRecDepth 100000 in
def b_L_names_95 (n : Nat) (r4 : Nat → Int → Int → gi_H → Option (Int × gi_H)) (v0 : Nat) (v2 : Int) (v3 : Int) (s0 : Int) (h : gi_H) : Option (Int × gi_H) :=
  Option.bind (gi_rg s0) fun _ => if s0 = 0 then (b_L_names_156 n r4 v0 s0 v2 h) else (Option.bind (gi_rg v3) fun _ => if v3 ≤ 0 then (b_L_names_156 n r4 v0 s0 v2 h) else (if (20 : Int) < v3 then (b_L_names_156 n r4 v0 s0 v2 h) else (Option.bind (f_L_first n v0 v2 h) fun q36 => Option.bind (f_L_sentence n v0 v2 (0 : Int) q36.2) fun q37 => Option.bind (gi_rg (gi_and (gi_shr q36.1 q37.1) (1 : Int))) fun _ => if (gi_and (gi_shr q36.1 q37.1) (1 : Int)) = (1 : Int) then (Option.bind (f_L_sentence n v0 v2 v3 q37.2) fun q40 => Option.bind (gi_rg q40.1) fun _ => if q40.1 = (-103 : Int) then (Option.bind (f_L_sentence n v0 v2 (v3 - (1 : Int)) q40.2) fun q43 => Option.bind (gi_rg q43.1) fun _ => if q43.1 < 0 then (b_L_names_154 n r4 v0 v2 q43.2) else (b_L_names_155 n r4 v0 v2 (1 : Int) q43.2)) else (b_L_names_154 n r4 v0 v2 q40.2)) else (b_L_names_154 n r4 v0 v2 q37.2))))
set_option maxRecDepth 100000 in
theorem zb_L_names_95 {n : Nat} {r4 : Nat → Int → Int → gi_H → Option (Int × gi_H)} {res : Int} {h1 : gi_H} {kc ks k : Nat} (hkc : kc + (k + 1) * 24 ≤ 408) (hks : ks + (k + 1) * 144 ≤ 2448) (hr4 : ∀ (kc ks : Nat) (x0 : Nat) (x1 : Int) (x2 : Int) (hh : gi_H), kc + k * 24 ≤ 408 → ks + k * 144 ≤ 2448 → r4 x0 x1 x2 hh = some (res, h1) → gx_Z mL_names false false kc ks 4 [(0, .ref x0), (1, .int (gI x1)), (2, .int (gI x2))] [] (gi_cv hh) (.inl (some (.int (gI res)))) (gi_cv h1)) {v0 : Nat} {v2 : Int} {v3 : Int} {s0 : Int} {h : gi_H} (e : b_L_names_95 n r4 v0 v2 v3 s0 h = some (res, h1)) : gx_Z mL_names false false (kc + 3) (ks + 18) 95 [(0, .ref v0), (2, .int (gI v2)), (3, .int (gI v3))] [.int (gI s0)] (gi_cv h) (.inl (some (.int (gI res)))) (gi_cv h1) := by
  have hKc : 408 ≤ (gx_rm mL_names).cells := Nat.le_of_ble_eq_true rfl
  have hKs : 2448 ≤ (gx_rm mL_names).slots := Nat.le_of_ble_eq_true rfl
  refine gx_istore_n (ls2 := [(1, .int (gI s0)), (0, .ref v0), (2, .int (gI v2)), (3, .int (gI v3))]) dL_names_95 rfl (Nat.le_of_ble_eq_true rfl) rfl ?_
  refine gx_iload_n dL_names_96 rfl 0 rfl ?_
  refine gx_bE e (fun _ g30 e => ?_)
  refine gx_iE e (fun c31 e => ?_) (fun c31 e => ?_)
  · refine gy_if_eq (tgt := 156) (gi_rgS g30) dL_names_97 (by decide) (fun _ => ?_) (fun z => absurd c31 z)
    refine gx_sub (ls2 := [(0, .ref v0), (1, .int (gI s0)), (2, .int (gI v2))]) [1, 0, 2] rfl ?_
    refine gx_kup (kc2 := (kc + 10)) (ks2 := (ks + 60)) (by show (kc + 3) ≤ (kc + 10); omega) (by show (ks + 18) ≤ (ks + 60); omega) ?_
    exact zb_L_names_156 hkc hks hr4 e
  · refine gy_if_eq (tgt := 156) (gi_rgS g30) dL_names_97 (by decide) (fun z => absurd z c31) (fun _ => ?_)
    refine gx_iload_n dL_names_100 rfl 3 rfl ?_
    refine gx_bE e (fun _ g33 e => ?_)
    refine gx_iE e (fun c34 e => ?_) (fun c34 e => ?_)
    · refine gy_if_le (tgt := 156) (gi_rgS g33) dL_names_101 (by decide) (fun _ => ?_) (fun z => absurd c34 z)
      refine gx_sub (ls2 := [(0, .ref v0), (1, .int (gI s0)), (2, .int (gI v2))]) [1, 0, 2] rfl ?_
      refine gx_kup (kc2 := (kc + 10)) (ks2 := (ks + 60)) (by show (kc + 3) ≤ (kc + 10); omega) (by show (ks + 18) ≤ (ks + 60); omega) ?_
      exact zb_L_names_156 hkc hks hr4 e
    · refine gy_if_le (tgt := 156) (gi_rgS g33) dL_names_101 (by decide) (fun z => absurd z c34) (fun _ => ?_)
      refine gx_iload_n dL_names_104 rfl 3 rfl ?_
      refine gy_bipush dL_names_105 gcb_20 ?_
      refine gx_iE e (fun c35 e => ?_) (fun c35 e => ?_)
      · refine gy_icmp_gt (tgt := 156) (gi_rgS g33) (by decide) dL_names_107 (by decide) (fun _ => ?_) (fun z => absurd c35 z)
        refine gx_sub (ls2 := [(0, .ref v0), (1, .int (gI s0)), (2, .int (gI v2))]) [1, 0, 2] rfl ?_
        refine gx_kup (kc2 := (kc + 10)) (ks2 := (ks + 60)) (by show (kc + 3) ≤ (kc + 10); omega) (by show (ks + 18) ≤ (ks + 60); omega) ?_
        exact zb_L_names_156 hkc hks hr4 e
      · refine gy_icmp_gt (tgt := 156) (gi_rgS g33) (by decide) dL_names_107 (by decide) (fun z => absurd z c35) (fun _ => ?_)
        refine gx_aload_n dL_names_110 rfl 1 rfl ?_
        refine gx_iload_n dL_names_111 rfl 2 rfl ?_
        refine gx_bE e (fun q36 hq36 e => ?_)
        refine gx_callSW (n := 2) (st := []) (As := [.ref v0, .int (gI v2)]) dL_names_112 (z_L_first hq36) rfl ⟨(by decide +kernel), gw_cw_L_first, gw_0, gp_L_first, ⟨Nat.le_of_ble_eq_true rfl, Nat.le_of_ble_eq_true rfl⟩⟩ gw_1301 gw_1302 ⟨by show (kc + 4) ≤ _; omega, by show (ks + 24) ≤ _; omega⟩ (Nat.le_of_ble_eq_true rfl) (gy_k1 (x := .int (gI q36.1)) (kc2 := (kc + 4)) (ks2 := (ks + 24)) ⟨rfl, rfl⟩ ?_)
        refine gx_aload_n dL_names_115 rfl 1 rfl ?_
        refine gx_iload_n dL_names_116 rfl 2 rfl ?_
        refine gy_iconst dL_names_117 ?_
        refine gx_bE e (fun q37 hq37 e => ?_)
        refine gx_callSW (n := 3) (st := [.int (gI q36.1)]) (As := [.ref v0, .int (gI v2), .int (gI (0 : Int))]) dL_names_118 (z_L_sentence hq37) rfl ⟨(by decide +kernel), gw_cw_L_sentence, gw_0, gp_L_sentence, ⟨Nat.le_of_ble_eq_true rfl, Nat.le_of_ble_eq_true rfl⟩⟩ gw_1312 gw_1313 ⟨by show (kc + 6) ≤ _; omega, by show (ks + 36) ≤ _; omega⟩ (Nat.le_of_ble_eq_true rfl) (gy_k1 (x := .int (gI q37.1)) (kc2 := (kc + 6)) (ks2 := (ks + 36)) ⟨rfl, rfl⟩ ?_)
        refine gy_ishr dL_names_121 ?_
        refine gy_iconst dL_names_122 ?_
        refine gy_iand dL_names_123 ?_
        refine gy_iconst dL_names_124 ?_
        refine gx_bE e (fun _ g38 e => ?_)
        refine gx_iE e (fun c39 e => ?_) (fun c39 e => ?_)
        · refine gy_icmp_ne (tgt := 154) (gi_rgS g38) (by decide) dL_names_125 (by decide) (fun z => absurd c39 z) (fun _ => ?_)
          refine gx_aload_n dL_names_128 rfl 1 rfl ?_
          refine gx_iload_n dL_names_129 rfl 2 rfl ?_
          refine gx_iload_n dL_names_130 rfl 3 rfl ?_
          refine gx_bE e (fun q40 hq40 e => ?_)
          refine gx_callSW (n := 3) (st := []) (As := [.ref v0, .int (gI v2), .int (gI v3)]) dL_names_131 (z_L_sentence hq40) rfl ⟨(by decide +kernel), gw_cw_L_sentence, gw_0, gp_L_sentence, ⟨Nat.le_of_ble_eq_true rfl, Nat.le_of_ble_eq_true rfl⟩⟩ gw_1312 gw_1313 ⟨by show (kc + 8) ≤ _; omega, by show (ks + 48) ≤ _; omega⟩ (Nat.le_of_ble_eq_true rfl) (gy_k1 (x := .int (gI q40.1)) (kc2 := (kc + 8)) (ks2 := (ks + 48)) ⟨rfl, rfl⟩ ?_)
          refine gy_bipush dL_names_134 gcb_m103 ?_
          refine gx_bE e (fun _ g41 e => ?_)
          refine gx_iE e (fun c42 e => ?_) (fun c42 e => ?_)
          · refine gy_icmp_ne (tgt := 154) (gi_rgS g41) (by decide) dL_names_136 (by decide) (fun z => absurd c42 z) (fun _ => ?_)
            refine gx_aload_n dL_names_139 rfl 1 rfl ?_
            refine gx_iload_n dL_names_140 rfl 2 rfl ?_
            refine gx_iload_n dL_names_141 rfl 3 rfl ?_
            refine gy_iconst dL_names_142 ?_
            refine gy_isub dL_names_143 ?_
            refine gx_bE e (fun q43 hq43 e => ?_)
            refine gx_callSW (n := 3) (st := []) (As := [.ref v0, .int (gI v2), .int (gI (v3 - (1 : Int)))]) dL_names_144 (z_L_sentence hq43) rfl ⟨(by decide +kernel), gw_cw_L_sentence, gw_0, gp_L_sentence, ⟨Nat.le_of_ble_eq_true rfl, Nat.le_of_ble_eq_true rfl⟩⟩ gw_1312 gw_1313 ⟨by show (kc + 10) ≤ _; omega, by show (ks + 60) ≤ _; omega⟩ (Nat.le_of_ble_eq_true rfl) (gy_k1 (x := .int (gI q43.1)) (kc2 := (kc + 10)) (ks2 := (ks + 60)) ⟨rfl, rfl⟩ ?_)
            refine gx_bE e (fun _ g44 e => ?_)
            refine gx_iE e (fun c45 e => ?_) (fun c45 e => ?_)
            · refine gy_if_lt (tgt := 154) (gi_rgS g44) dL_names_147 (by decide) (fun _ => ?_) (fun z => absurd c45 z)
              refine gx_sub (ls2 := [(0, .ref v0), (2, .int (gI v2))]) [1, 2] rfl ?_
              exact zb_L_names_154 hkc hks hr4 e
            · refine gy_if_lt (tgt := 154) (gi_rgS g44) dL_names_147 (by decide) (fun z => absurd z c45) (fun _ => ?_)
              refine gy_iconst dL_names_150 ?_
              refine gx_goto (tgt := 155) dL_names_151 (by decide) ?_
              refine gx_sub (ls2 := [(0, .ref v0), (2, .int (gI v2))]) [1, 2] rfl ?_
              exact zb_L_names_155 hkc hks hr4 e
          · refine gy_icmp_ne (tgt := 154) (gi_rgS g41) (by decide) dL_names_136 (by decide) (fun _ => ?_) (fun z => absurd z c42)
            refine gx_sub (ls2 := [(0, .ref v0), (2, .int (gI v2))]) [1, 2] rfl ?_
            refine gx_kup (kc2 := (kc + 10)) (ks2 := (ks + 60)) (by show (kc + 8) ≤ (kc + 10); omega) (by show (ks + 48) ≤ (ks + 60); omega) ?_
            exact zb_L_names_154 hkc hks hr4 e
        · refine gy_icmp_ne (tgt := 154) (gi_rgS g38) (by decide) dL_names_125 (by decide) (fun _ => ?_) (fun z => absurd z c39)
          refine gx_sub (ls2 := [(0, .ref v0), (2, .int (gI v2))]) [1, 2] rfl ?_
          refine gx_kup (kc2 := (kc + 10)) (ks2 := (ks + 60)) (by show (kc + 6) ≤ (kc + 10); omega) (by show (ks + 36) ≤ (ks + 60); omega) ?_
          exact zb_L_names_154 hkc hks hr4 e
set_option maxRecDepth 100000 in
def b_L_names_94 (n : Nat) (r4 : Nat → Int → Int → gi_H → Option (Int × gi_H)) (v0 : Nat) (v2 : Int) (v3 : Int)  (h : gi_H) : Option (Int × gi_H) :=
  b_L_names_95 n r4 v0 v2 v3 (0 : Int) h
set_option maxRecDepth 100000 in
theorem zb_L_names_94 {n : Nat} {r4 : Nat → Int → Int → gi_H → Option (Int × gi_H)} {res : Int} {h1 : gi_H} {kc ks k : Nat} (hkc : kc + (k + 1) * 24 ≤ 408) (hks : ks + (k + 1) * 144 ≤ 2448) (hr4 : ∀ (kc ks : Nat) (x0 : Nat) (x1 : Int) (x2 : Int) (hh : gi_H), kc + k * 24 ≤ 408 → ks + k * 144 ≤ 2448 → r4 x0 x1 x2 hh = some (res, h1) → gx_Z mL_names false false kc ks 4 [(0, .ref x0), (1, .int (gI x1)), (2, .int (gI x2))] [] (gi_cv hh) (.inl (some (.int (gI res)))) (gi_cv h1)) {v0 : Nat} {v2 : Int} {v3 : Int}  {h : gi_H} (e : b_L_names_94 n r4 v0 v2 v3 h = some (res, h1)) : gx_Z mL_names false false (kc + 3) (ks + 18) 94 [(0, .ref v0), (2, .int (gI v2)), (3, .int (gI v3))] [] (gi_cv h) (.inl (some (.int (gI res)))) (gi_cv h1) := by
  have hKc : 408 ≤ (gx_rm mL_names).cells := Nat.le_of_ble_eq_true rfl
  have hKs : 2448 ≤ (gx_rm mL_names).slots := Nat.le_of_ble_eq_true rfl
  refine gy_iconst dL_names_94 ?_
  exact zb_L_names_95 hkc hks hr4 e
set_option maxRecDepth 100000 in
def b_L_names_75 (n : Nat) (r4 : Nat → Int → Int → gi_H → Option (Int × gi_H)) (v0 : Nat) (v2 : Int) (v3 : Int) (v4 : Int) (s0 : Int) (s1 : Int) (h : gi_H) : Option (Int × gi_H) :=
  Option.bind (gi_rg s0) fun _ => Option.bind (gi_rg s1) fun _ => if s0 = s1 then (Option.bind (gi_rg v3) fun _ => if (99 : Int) < v3 then (b_L_names_94 n r4 v0 v2 v3 h) else (Option.bind (gi_rg v4) fun _ => if (4 : Int) ≤ v4 then (b_L_names_94 n r4 v0 v2 v3 h) else (b_L_names_95 n r4 v0 v2 v3 (1 : Int) h))) else (b_L_names_94 n r4 v0 v2 v3 h)
set_option maxRecDepth 100000 in
theorem zb_L_names_75 {n : Nat} {r4 : Nat → Int → Int → gi_H → Option (Int × gi_H)} {res : Int} {h1 : gi_H} {kc ks k : Nat} (hkc : kc + (k + 1) * 24 ≤ 408) (hks : ks + (k + 1) * 144 ≤ 2448) (hr4 : ∀ (kc ks : Nat) (x0 : Nat) (x1 : Int) (x2 : Int) (hh : gi_H), kc + k * 24 ≤ 408 → ks + k * 144 ≤ 2448 → r4 x0 x1 x2 hh = some (res, h1) → gx_Z mL_names false false kc ks 4 [(0, .ref x0), (1, .int (gI x1)), (2, .int (gI x2))] [] (gi_cv hh) (.inl (some (.int (gI res)))) (gi_cv h1)) {v0 : Nat} {v2 : Int} {v3 : Int} {v4 : Int} {s0 : Int} {s1 : Int} {h : gi_H} (e : b_L_names_75 n r4 v0 v2 v3 v4 s0 s1 h = some (res, h1)) : gx_Z mL_names false false (kc + 3) (ks + 18) 75 [(0, .ref v0), (2, .int (gI v2)), (3, .int (gI v3)), (4, .int (gI v4))] [.int (gI s1), .int (gI s0)] (gi_cv h) (.inl (some (.int (gI res)))) (gi_cv h1) := by
  have hKc : 408 ≤ (gx_rm mL_names).cells := Nat.le_of_ble_eq_true rfl
  have hKs : 2448 ≤ (gx_rm mL_names).slots := Nat.le_of_ble_eq_true rfl
  refine gx_bE e (fun _ g25 e => ?_)
  refine gx_bE e (fun _ g26 e => ?_)
  refine gx_iE e (fun c27 e => ?_) (fun c27 e => ?_)
  · refine gy_icmp_ne (tgt := 94) (gi_rgS g25) (gi_rgS g26) dL_names_75 (by decide) (fun z => absurd c27 z) (fun _ => ?_)
    refine gx_iload_n dL_names_78 rfl 2 rfl ?_
    refine gy_bipush dL_names_79 gcb_99 ?_
    refine gx_bE e (fun _ g28 e => ?_)
    refine gx_iE e (fun c29 e => ?_) (fun c29 e => ?_)
    · refine gy_icmp_gt (tgt := 94) (gi_rgS g28) (by decide) dL_names_81 (by decide) (fun _ => ?_) (fun z => absurd c29 z)
      refine gx_sub (ls2 := [(0, .ref v0), (2, .int (gI v2)), (3, .int (gI v3))]) [0, 1, 2] rfl ?_
      exact zb_L_names_94 hkc hks hr4 e
    · refine gy_icmp_gt (tgt := 94) (gi_rgS g28) (by decide) dL_names_81 (by decide) (fun z => absurd z c29) (fun _ => ?_)
      refine gx_iload dL_names_84 3 rfl ?_
      refine gy_iconst dL_names_86 ?_
      refine gx_bE e (fun _ g46 e => ?_)
      refine gx_iE e (fun c47 e => ?_) (fun c47 e => ?_)
      · refine gy_icmp_ge (tgt := 94) (gi_rgS g46) (by decide) dL_names_87 (by decide) (fun _ => ?_) (fun z => absurd c47 z)
        refine gx_sub (ls2 := [(0, .ref v0), (2, .int (gI v2)), (3, .int (gI v3))]) [0, 1, 2] rfl ?_
        exact zb_L_names_94 hkc hks hr4 e
      · refine gy_icmp_ge (tgt := 94) (gi_rgS g46) (by decide) dL_names_87 (by decide) (fun z => absurd z c47) (fun _ => ?_)
        refine gy_iconst dL_names_90 ?_
        refine gx_goto (tgt := 95) dL_names_91 (by decide) ?_
        refine gx_sub (ls2 := [(0, .ref v0), (2, .int (gI v2)), (3, .int (gI v3))]) [0, 1, 2] rfl ?_
        exact zb_L_names_95 hkc hks hr4 e
  · refine gy_icmp_ne (tgt := 94) (gi_rgS g25) (gi_rgS g26) dL_names_75 (by decide) (fun _ => ?_) (fun z => absurd z c27)
    refine gx_sub (ls2 := [(0, .ref v0), (2, .int (gI v2)), (3, .int (gI v3))]) [0, 1, 2] rfl ?_
    exact zb_L_names_94 hkc hks hr4 e
set_option maxRecDepth 100000 in
def b_L_names_62 (n : Nat) (r4 : Nat → Int → Int → gi_H → Option (Int × gi_H)) (v0 : Nat) (v2 : Int) (v3 : Int) (v4 : Int) (s0 : Int) (h : gi_H) : Option (Int × gi_H) :=
  Option.bind (gi_dg v4 (2 : Int)) fun _ => Option.bind (gi_rg (v4 % (2 : Int))) fun _ => if (v4 % (2 : Int)) = (1 : Int) then (b_L_names_75 n r4 v0 v2 v3 v4 s0 (1 : Int) h) else (b_L_names_75 n r4 v0 v2 v3 v4 s0 (0 : Int) h)
set_option maxRecDepth 100000 in
theorem zb_L_names_62 {n : Nat} {r4 : Nat → Int → Int → gi_H → Option (Int × gi_H)} {res : Int} {h1 : gi_H} {kc ks k : Nat} (hkc : kc + (k + 1) * 24 ≤ 408) (hks : ks + (k + 1) * 144 ≤ 2448) (hr4 : ∀ (kc ks : Nat) (x0 : Nat) (x1 : Int) (x2 : Int) (hh : gi_H), kc + k * 24 ≤ 408 → ks + k * 144 ≤ 2448 → r4 x0 x1 x2 hh = some (res, h1) → gx_Z mL_names false false kc ks 4 [(0, .ref x0), (1, .int (gI x1)), (2, .int (gI x2))] [] (gi_cv hh) (.inl (some (.int (gI res)))) (gi_cv h1)) {v0 : Nat} {v2 : Int} {v3 : Int} {v4 : Int} {s0 : Int} {h : gi_H} (e : b_L_names_62 n r4 v0 v2 v3 v4 s0 h = some (res, h1)) : gx_Z mL_names false false (kc + 3) (ks + 18) 62 [(0, .ref v0), (2, .int (gI v2)), (3, .int (gI v3)), (4, .int (gI v4))] [.int (gI s0)] (gi_cv h) (.inl (some (.int (gI res)))) (gi_cv h1) := by
  have hKc : 408 ≤ (gx_rm mL_names).cells := Nat.le_of_ble_eq_true rfl
  have hKs : 2448 ≤ (gx_rm mL_names).slots := Nat.le_of_ble_eq_true rfl
  refine gx_iload dL_names_62 3 rfl ?_
  refine gy_iconst dL_names_64 ?_
  refine gx_bE e (fun _ hu22 e => ?_)
  refine gy_irem hu22 dL_names_65 ?_
  refine gy_iconst dL_names_66 ?_
  refine gx_bE e (fun _ g23 e => ?_)
  refine gx_iE e (fun c24 e => ?_) (fun c24 e => ?_)
  · refine gy_icmp_ne (tgt := 74) (gi_rgS g23) (by decide) dL_names_67 (by decide) (fun z => absurd c24 z) (fun _ => ?_)
    refine gy_iconst dL_names_70 ?_
    refine gx_goto (tgt := 75) dL_names_71 (by decide) ?_
    exact zb_L_names_75 hkc hks hr4 e
  · refine gy_icmp_ne (tgt := 74) (gi_rgS g23) (by decide) dL_names_67 (by decide) (fun _ => ?_) (fun z => absurd z c24)
    refine gy_iconst dL_names_74 ?_
    exact zb_L_names_75 hkc hks hr4 e
set_option maxRecDepth 100000 in
def b_L_names_50 (n : Nat) (r4 : Nat → Int → Int → gi_H → Option (Int × gi_H)) (v0 : Nat) (v2 : Int) (v3 : Int) (v4 : Int) (s0 : Int) (s1 : Int) (h : gi_H) : Option (Int × gi_H) :=
  Option.bind (gi_rg s0) fun _ => Option.bind (gi_rg s1) fun _ => if s0 = s1 then (Option.bind (gi_rg v3) fun _ => if v3 < 0 then (b_L_names_62 n r4 v0 v2 v3 v4 (0 : Int) h) else (b_L_names_62 n r4 v0 v2 v3 v4 (1 : Int) h)) else (b_L_names_94 n r4 v0 v2 v3 h)
set_option maxRecDepth 100000 in
theorem zb_L_names_50 {n : Nat} {r4 : Nat → Int → Int → gi_H → Option (Int × gi_H)} {res : Int} {h1 : gi_H} {kc ks k : Nat} (hkc : kc + (k + 1) * 24 ≤ 408) (hks : ks + (k + 1) * 144 ≤ 2448) (hr4 : ∀ (kc ks : Nat) (x0 : Nat) (x1 : Int) (x2 : Int) (hh : gi_H), kc + k * 24 ≤ 408 → ks + k * 144 ≤ 2448 → r4 x0 x1 x2 hh = some (res, h1) → gx_Z mL_names false false kc ks 4 [(0, .ref x0), (1, .int (gI x1)), (2, .int (gI x2))] [] (gi_cv hh) (.inl (some (.int (gI res)))) (gi_cv h1)) {v0 : Nat} {v2 : Int} {v3 : Int} {v4 : Int} {s0 : Int} {s1 : Int} {h : gi_H} (e : b_L_names_50 n r4 v0 v2 v3 v4 s0 s1 h = some (res, h1)) : gx_Z mL_names false false (kc + 3) (ks + 18) 50 [(0, .ref v0), (2, .int (gI v2)), (3, .int (gI v3)), (4, .int (gI v4))] [.int (gI s1), .int (gI s0)] (gi_cv h) (.inl (some (.int (gI res)))) (gi_cv h1) := by
  have hKc : 408 ≤ (gx_rm mL_names).cells := Nat.le_of_ble_eq_true rfl
  have hKs : 2448 ≤ (gx_rm mL_names).slots := Nat.le_of_ble_eq_true rfl
  refine gx_bE e (fun _ g17 e => ?_)
  refine gx_bE e (fun _ g18 e => ?_)
  refine gx_iE e (fun c19 e => ?_) (fun c19 e => ?_)
  · refine gy_icmp_ne (tgt := 94) (gi_rgS g17) (gi_rgS g18) dL_names_50 (by decide) (fun z => absurd c19 z) (fun _ => ?_)
    refine gx_iload_n dL_names_53 rfl 2 rfl ?_
    refine gx_bE e (fun _ g20 e => ?_)
    refine gx_iE e (fun c21 e => ?_) (fun c21 e => ?_)
    · refine gy_if_lt (tgt := 61) (gi_rgS g20) dL_names_54 (by decide) (fun _ => ?_) (fun z => absurd c21 z)
      refine gy_iconst dL_names_61 ?_
      exact zb_L_names_62 hkc hks hr4 e
    · refine gy_if_lt (tgt := 61) (gi_rgS g20) dL_names_54 (by decide) (fun z => absurd z c21) (fun _ => ?_)
      refine gy_iconst dL_names_57 ?_
      refine gx_goto (tgt := 62) dL_names_58 (by decide) ?_
      exact zb_L_names_62 hkc hks hr4 e
  · refine gy_icmp_ne (tgt := 94) (gi_rgS g17) (gi_rgS g18) dL_names_50 (by decide) (fun _ => ?_) (fun z => absurd z c19)
    refine gx_sub (ls2 := [(0, .ref v0), (2, .int (gI v2)), (3, .int (gI v3))]) [0, 1, 2] rfl ?_
    exact zb_L_names_94 hkc hks hr4 e
set_option maxRecDepth 100000 in
def b_L_names_36 (n : Nat) (r4 : Nat → Int → Int → gi_H → Option (Int × gi_H)) (v0 : Nat) (v2 : Int) (v3 : Int) (v4 : Int) (s0 : Int) (h : gi_H) : Option (Int × gi_H) :=
  Option.bind (f_L_nullable n v0 v2 h) fun q14 => Option.bind (gi_rg q14.1) fun _ => if q14.1 = (1 : Int) then (b_L_names_50 n r4 v0 v2 v3 v4 s0 (1 : Int) q14.2) else (b_L_names_50 n r4 v0 v2 v3 v4 s0 (0 : Int) q14.2)
set_option maxRecDepth 100000 in
theorem zb_L_names_36 {n : Nat} {r4 : Nat → Int → Int → gi_H → Option (Int × gi_H)} {res : Int} {h1 : gi_H} {kc ks k : Nat} (hkc : kc + (k + 1) * 24 ≤ 408) (hks : ks + (k + 1) * 144 ≤ 2448) (hr4 : ∀ (kc ks : Nat) (x0 : Nat) (x1 : Int) (x2 : Int) (hh : gi_H), kc + k * 24 ≤ 408 → ks + k * 144 ≤ 2448 → r4 x0 x1 x2 hh = some (res, h1) → gx_Z mL_names false false kc ks 4 [(0, .ref x0), (1, .int (gI x1)), (2, .int (gI x2))] [] (gi_cv hh) (.inl (some (.int (gI res)))) (gi_cv h1)) {v0 : Nat} {v2 : Int} {v3 : Int} {v4 : Int} {s0 : Int} {h : gi_H} (e : b_L_names_36 n r4 v0 v2 v3 v4 s0 h = some (res, h1)) : gx_Z mL_names false false (kc + 2) (ks + 12) 36 [(0, .ref v0), (2, .int (gI v2)), (3, .int (gI v3)), (4, .int (gI v4))] [.int (gI s0)] (gi_cv h) (.inl (some (.int (gI res)))) (gi_cv h1) := by
  have hKc : 408 ≤ (gx_rm mL_names).cells := Nat.le_of_ble_eq_true rfl
  have hKs : 2448 ≤ (gx_rm mL_names).slots := Nat.le_of_ble_eq_true rfl
  refine gx_aload_n dL_names_36 rfl 0 rfl ?_
  refine gx_iload_n dL_names_37 rfl 1 rfl ?_
  refine gx_bE e (fun q14 hq14 e => ?_)
  refine gx_callSW (n := 2) (st := [.int (gI s0)]) (As := [.ref v0, .int (gI v2)]) dL_names_38 (z_L_nullable hq14) rfl ⟨(by decide +kernel), gw_cw_L_nullable, gw_0, gp_L_nullable, ⟨Nat.le_of_ble_eq_true rfl, Nat.le_of_ble_eq_true rfl⟩⟩ gw_1290 gw_1291 ⟨by show (kc + 3) ≤ _; omega, by show (ks + 18) ≤ _; omega⟩ (Nat.le_of_ble_eq_true rfl) (gy_k1 (x := .int (gI q14.1)) (kc2 := (kc + 3)) (ks2 := (ks + 18)) ⟨rfl, rfl⟩ ?_)
  refine gy_iconst dL_names_41 ?_
  refine gx_bE e (fun _ g15 e => ?_)
  refine gx_iE e (fun c16 e => ?_) (fun c16 e => ?_)
  · refine gy_icmp_ne (tgt := 49) (gi_rgS g15) (by decide) dL_names_42 (by decide) (fun z => absurd c16 z) (fun _ => ?_)
    refine gy_iconst dL_names_45 ?_
    refine gx_goto (tgt := 50) dL_names_46 (by decide) ?_
    exact zb_L_names_50 hkc hks hr4 e
  · refine gy_icmp_ne (tgt := 49) (gi_rgS g15) (by decide) dL_names_42 (by decide) (fun _ => ?_) (fun z => absurd z c16)
    refine gy_iconst dL_names_49 ?_
    exact zb_L_names_50 hkc hks hr4 e
set_option maxRecDepth 100000 in
def b_L_names_4 (n : Nat) (r4 : Nat → Int → Int → gi_H → Option (Int × gi_H)) (v0 : Nat) (v1 : Int) (v2 : Int)  (h : gi_H) : Option (Int × gi_H) :=
  Option.bind (gi_rg v2) fun _ => if (16 : Int) ≤ v2 then (b_L_names_162 n  v0 v1 h) else (Option.bind (gi_rg v1) fun _ => if v1 = 0 then (b_L_names_162 n  v0 v1 h) else (Option.bind (f_L_shortest n v0 v2 h) fun q10 => Option.bind (f_L_uses n v0 v2 q10.2) fun q11 => Option.bind (gi_rg q10.1) fun _ => if q10.1 = 0 then (b_L_names_36 n r4 v0 v2 q10.1 q11.1 (1 : Int) q11.2) else (b_L_names_36 n r4 v0 v2 q10.1 q11.1 (0 : Int) q11.2)))
set_option maxRecDepth 100000 in
theorem zb_L_names_4 {n : Nat} {r4 : Nat → Int → Int → gi_H → Option (Int × gi_H)} {res : Int} {h1 : gi_H} {kc ks k : Nat} (hkc : kc + (k + 1) * 24 ≤ 408) (hks : ks + (k + 1) * 144 ≤ 2448) (hr4 : ∀ (kc ks : Nat) (x0 : Nat) (x1 : Int) (x2 : Int) (hh : gi_H), kc + k * 24 ≤ 408 → ks + k * 144 ≤ 2448 → r4 x0 x1 x2 hh = some (res, h1) → gx_Z mL_names false false kc ks 4 [(0, .ref x0), (1, .int (gI x1)), (2, .int (gI x2))] [] (gi_cv hh) (.inl (some (.int (gI res)))) (gi_cv h1)) {v0 : Nat} {v1 : Int} {v2 : Int}  {h : gi_H} (e : b_L_names_4 n r4 v0 v1 v2 h = some (res, h1)) : gx_Z mL_names false false kc ks 4 [(0, .ref v0), (1, .int (gI v1)), (2, .int (gI v2))] [] (gi_cv h) (.inl (some (.int (gI res)))) (gi_cv h1) := by
  have hKc : 408 ≤ (gx_rm mL_names).cells := Nat.le_of_ble_eq_true rfl
  have hKs : 2448 ≤ (gx_rm mL_names).slots := Nat.le_of_ble_eq_true rfl
  refine gx_iload_n dL_names_4 rfl 2 rfl ?_
  refine gy_bipush dL_names_5 gcb_16 ?_
  refine gx_bE e (fun _ g1 e => ?_)
  refine gx_iE e (fun c2 e => ?_) (fun c2 e => ?_)
  · refine gy_icmp_ge (tgt := 162) (gi_rgS g1) (by decide) dL_names_7 (by decide) (fun _ => ?_) (fun z => absurd c2 z)
    refine gx_sub (ls2 := [(0, .ref v0), (1, .int (gI v1))]) [0, 1] rfl ?_
    refine gx_kup (kc2 := 408) (ks2 := 2448) (by show kc ≤ _; omega) (by show ks ≤ _; omega) ?_
    exact zb_L_names_162  e
  · refine gy_icmp_ge (tgt := 162) (gi_rgS g1) (by decide) dL_names_7 (by decide) (fun z => absurd z c2) (fun _ => ?_)
    refine gx_iload_n dL_names_10 rfl 1 rfl ?_
    refine gx_bE e (fun _ g8 e => ?_)
    refine gx_iE e (fun c9 e => ?_) (fun c9 e => ?_)
    · refine gy_if_eq (tgt := 162) (gi_rgS g8) dL_names_11 (by decide) (fun _ => ?_) (fun z => absurd c9 z)
      refine gx_sub (ls2 := [(0, .ref v0), (1, .int (gI v1))]) [0, 1] rfl ?_
      refine gx_kup (kc2 := 408) (ks2 := 2448) (by show kc ≤ _; omega) (by show ks ≤ _; omega) ?_
      exact zb_L_names_162  e
    · refine gy_if_eq (tgt := 162) (gi_rgS g8) dL_names_11 (by decide) (fun z => absurd z c9) (fun _ => ?_)
      refine gx_aload_n dL_names_14 rfl 0 rfl ?_
      refine gx_iload_n dL_names_15 rfl 2 rfl ?_
      refine gx_bE e (fun q10 hq10 e => ?_)
      refine gx_callSW (n := 2) (st := []) (As := [.ref v0, .int (gI v2)]) dL_names_16 (z_L_shortest hq10) rfl ⟨(by decide +kernel), gw_cw_L_shortest, gw_0, gp_L_shortest, ⟨Nat.le_of_ble_eq_true rfl, Nat.le_of_ble_eq_true rfl⟩⟩ gw_1268 gw_1269 ⟨by show (kc + 1) ≤ _; omega, by show (ks + 6) ≤ _; omega⟩ (Nat.le_of_ble_eq_true rfl) (gy_k1 (x := .int (gI q10.1)) (kc2 := (kc + 1)) (ks2 := (ks + 6)) ⟨rfl, rfl⟩ ?_)
      refine gx_istore_n (ls2 := [(3, .int (gI q10.1)), (0, .ref v0), (1, .int (gI v1)), (2, .int (gI v2))]) dL_names_19 rfl (Nat.le_of_ble_eq_true rfl) rfl ?_
      refine gx_aload_n dL_names_20 rfl 1 rfl ?_
      refine gx_iload_n dL_names_21 rfl 3 rfl ?_
      refine gx_bE e (fun q11 hq11 e => ?_)
      refine gx_callSW (n := 2) (st := []) (As := [.ref v0, .int (gI v2)]) dL_names_22 (z_L_uses hq11) rfl ⟨(by decide +kernel), gw_cw_L_uses, gw_0, gp_L_uses, ⟨Nat.le_of_ble_eq_true rfl, Nat.le_of_ble_eq_true rfl⟩⟩ gw_1279 gw_1280 ⟨by show (kc + 2) ≤ _; omega, by show (ks + 12) ≤ _; omega⟩ (Nat.le_of_ble_eq_true rfl) (gy_k1 (x := .int (gI q11.1)) (kc2 := (kc + 2)) (ks2 := (ks + 12)) ⟨rfl, rfl⟩ ?_)
      refine gx_istore (ls2 := [(4, .int (gI q11.1)), (3, .int (gI q10.1)), (0, .ref v0), (1, .int (gI v1)), (2, .int (gI v2))]) dL_names_25 (Nat.le_of_ble_eq_true rfl) rfl ?_
      refine gx_iload_n dL_names_27 rfl 1 rfl ?_
      refine gx_bE e (fun _ g12 e => ?_)
      refine gx_iE e (fun c13 e => ?_) (fun c13 e => ?_)
      · refine gy_if_ne (tgt := 35) (gi_rgS g12) dL_names_28 (by decide) (fun z => absurd c13 z) (fun _ => ?_)
        refine gy_iconst dL_names_31 ?_
        refine gx_goto (tgt := 36) dL_names_32 (by decide) ?_
        refine gx_sub (ls2 := [(0, .ref v0), (2, .int (gI v2)), (3, .int (gI q10.1)), (4, .int (gI q11.1))]) [2, 4, 1, 0] rfl ?_
        exact zb_L_names_36 hkc hks hr4 e
      · refine gy_if_ne (tgt := 35) (gi_rgS g12) dL_names_28 (by decide) (fun _ => ?_) (fun z => absurd z c13)
        refine gy_iconst dL_names_35 ?_
        refine gx_sub (ls2 := [(0, .ref v0), (2, .int (gI v2)), (3, .int (gI q10.1)), (4, .int (gI q11.1))]) [2, 4, 1, 0] rfl ?_
        exact zb_L_names_36 hkc hks hr4 e
def l_L_names_4 (n : Nat)  : Nat → Nat → Int → Int → gi_H → Option (Int × gi_H)
  | 0, _, _, _, _ => none
  | k + 1, v0, v1, v2, h => b_L_names_4 n  (l_L_names_4 n  k) v0 v1 v2 h
theorem zl_L_names_4 {n : Nat}  {res : Int} {h1 : gi_H}  : ∀ (k kc ks : Nat) (v0 : Nat) (v1 : Int) (v2 : Int) (h : gi_H), kc + k * 24 ≤ 408 → ks + k * 144 ≤ 2448 → l_L_names_4 n  k v0 v1 v2 h = some (res, h1) → gx_Z mL_names false false kc ks 4 [(0, .ref v0), (1, .int (gI v1)), (2, .int (gI v2))] [] (gi_cv h) (.inl (some (.int (gI res)))) (gi_cv h1)
  | 0, _, _, _, _, _, _, _, _, e => gx_0E e
  | k + 1, _, _, _, _, _, _, hkc, hks, e => zb_L_names_4 (n := n) hkc hks  (fun kc ks => zl_L_names_4  k kc ks) e
set_option maxRecDepth 100000 in
def f_L_names (n : Nat) (v0 : Nat) (h : gi_H) : Option (Int × gi_H) :=
  l_L_names_4 n  17 v0 (1 : Int) (0 : Int) h
set_option maxRecDepth 100000 in
theorem z_L_names {n : Nat} {v0 : Nat} {h : gi_H} {res : Int} {h1 : gi_H} (e : f_L_names n v0 h = some (res, h1)) : gx_Cw mL_names false [.ref v0] (gi_cv h) (.inl (some (.int (gI res)))) (gi_cv h1) := by
  refine gx_enter (by decide +kernel) rfl (Nat.le_of_ble_eq_true rfl) ?_
  show gx_Z mL_names false false 0 0 0 [(0, .ref v0)] [] (gi_cv h) (.inl (some (.int (gI res)))) (gi_cv h1)
  refine gy_iconst dL_names_0 ?_
  refine gx_istore_n (ls2 := [(1, .int (gI (1 : Int))), (0, .ref v0)]) dL_names_1 rfl (Nat.le_of_ble_eq_true rfl) rfl ?_
  refine gy_iconst dL_names_2 ?_
  refine gx_istore_n (ls2 := [(2, .int (gI (0 : Int))), (1, .int (gI (1 : Int))), (0, .ref v0)]) dL_names_3 rfl (Nat.le_of_ble_eq_true rfl) rfl ?_
  refine gx_sub (ls2 := [(0, .ref v0), (1, .int (gI (1 : Int))), (2, .int (gI (0 : Int)))]) [2, 1, 0] rfl ?_
  exact zl_L_names_4  17 0 0 _ _ _ _ (Nat.le_of_ble_eq_true rfl) (Nat.le_of_ble_eq_true rfl) e
/-! X11_right  -/
set_option maxRecDepth 100000 in
def b_X11_right_24    (h : gi_H) : Option ((Int ⊕ String) × gi_H) :=
  some (.inr gx_IOB, h)
set_option maxRecDepth 100000 in
theorem zb_X11_right_24  {res : Int ⊕ String} {h1 : gi_H}    {h : gi_H} (e : b_X11_right_24  h = some (res, h1)) : gx_Z mX11_right false false 0 0 24 [] [] (gi_cv h) (gx_oI res) (gi_cv h1) := by
  cases e
  exact gx_throw rfl gt_151_194_155 rfl dX11_right_24 dX11_right_27 dX11_right_28 dX11_right_30 dX11_right_33 (Nat.le_of_ble_eq_true rfl) (Nat.le_of_ble_eq_true rfl) ⟨Nat.le_of_ble_eq_true rfl, Nat.le_of_ble_eq_true rfl⟩
set_option maxRecDepth 100000 in
def f_X11_right (v0 : Nat) (v1 : Int) (v2 : Int) (h : gi_H) : Option ((Int ⊕ String) × gi_H) :=
  Option.bind (gi_rg v1) fun _ => if v1 < 0 then (b_X11_right_24   h) else (Option.bind (gi_gR h v0 9 1) fun t3 => Option.bind (gi_is h t3 3) fun _ => Option.bind (f_X4_count t3 h) fun q5 => Option.bind (gi_rg q5) fun _ => if q5 ≤ v1 then (b_X11_right_24   h) else (Option.bind (gi_rg v2) fun _ => if v2 < 0 then (b_X11_right_24   h) else (if v2 < (5 : Int) then (Option.bind (gi_gR h v0 9 1) fun t11 => Option.bind (gi_is h t11 3) fun _ => Option.bind (f_X4_symbol t11 v1 v2 h) fun q13 => some (.inl q13, h)) else (b_X11_right_24   h))))
set_option maxRecDepth 100000 in
theorem z_X11_right {v0 : Nat} {v1 : Int} {v2 : Int} {h : gi_H} {res : Int ⊕ String} {h1 : gi_H} (e : f_X11_right v0 v1 v2 h = some (res, h1)) : gx_Cw mX11_right false [.ref v0, .int (gI v1), .int (gI v2)] (gi_cv h) (gx_oI res) (gi_cv h1) := by
  refine gx_enter (by decide +kernel) rfl (Nat.le_of_ble_eq_true rfl) ?_
  show gx_Z mX11_right false false 0 0 0 [(0, .ref v0), (1, .int (gI v1)), (2, .int (gI v2))] [] (gi_cv h) (gx_oI res) (gi_cv h1)
  refine gx_iload_n dX11_right_0 rfl 1 rfl ?_
  refine gx_bE e (fun _ g1 e => ?_)
  refine gx_iE e (fun c2 e => ?_) (fun c2 e => ?_)
  · refine gy_if_lt (tgt := 24) (gi_rgS g1) dX11_right_1 (by decide) (fun _ => ?_) (fun z => absurd c2 z)
    refine gx_sub (ls2 := []) [] rfl ?_
    exact zb_X11_right_24  e
  · refine gy_if_lt (tgt := 24) (gi_rgS g1) dX11_right_1 (by decide) (fun z => absurd z c2) (fun _ => ?_)
    refine gx_iload_n dX11_right_4 rfl 1 rfl ?_
    refine gx_aload_n dX11_right_5 rfl 0 rfl ?_
    refine gx_bE e (fun t3 ht3 e => ?_)
    refine gy_fR ht3 dX11_right_6 gf_RX11_35_9_1 (by decide) gkN_9_1 gkR_9_1 ?_
    refine gx_bE e (fun _ hu4 e => ?_)
    refine gx_bE e (fun q5 hq5 e => ?_)
    refine gx_callV (n := 0) (st := [.int (gI v1)]) (As := []) (b := t3) dX11_right_9 (z_X4_count hq5) rfl ⟨rfl, gw_cw_X4_count, gw_3, gp_X4_count, ⟨Nat.le_of_ble_eq_true rfl, Nat.le_of_ble_eq_true rfl⟩⟩ (gi_isS hu4) (by decide) gw_383 gw_384 gw_385 rfl ⟨Nat.le_of_ble_eq_true rfl, Nat.le_of_ble_eq_true rfl⟩ (Nat.le_of_ble_eq_true rfl) (gy_k1 (x := .int (gI q5)) (kc2 := 0) (ks2 := 0) ⟨rfl, rfl⟩ ?_) gy_kn
    refine gx_bE e (fun _ g6 e => ?_)
    refine gx_iE e (fun c7 e => ?_) (fun c7 e => ?_)
    · refine gy_icmp_ge (tgt := 24) (gi_rgS g1) (gi_rgS g6) dX11_right_12 (by decide) (fun _ => ?_) (fun z => absurd c7 z)
      refine gx_sub (ls2 := []) [] rfl ?_
      exact zb_X11_right_24  e
    · refine gy_icmp_ge (tgt := 24) (gi_rgS g1) (gi_rgS g6) dX11_right_12 (by decide) (fun z => absurd z c7) (fun _ => ?_)
      refine gx_iload_n dX11_right_15 rfl 2 rfl ?_
      refine gx_bE e (fun _ g8 e => ?_)
      refine gx_iE e (fun c9 e => ?_) (fun c9 e => ?_)
      · refine gy_if_lt (tgt := 24) (gi_rgS g8) dX11_right_16 (by decide) (fun _ => ?_) (fun z => absurd c9 z)
        refine gx_sub (ls2 := []) [] rfl ?_
        exact zb_X11_right_24  e
      · refine gy_if_lt (tgt := 24) (gi_rgS g8) dX11_right_16 (by decide) (fun z => absurd z c9) (fun _ => ?_)
        refine gx_iload_n dX11_right_19 rfl 2 rfl ?_
        refine gy_iconst dX11_right_20 ?_
        refine gx_iE e (fun c10 e => ?_) (fun c10 e => ?_)
        · refine gy_icmp_lt (tgt := 34) (gi_rgS g8) (by decide) dX11_right_21 (by decide) (fun _ => ?_) (fun z => absurd c10 z)
          refine gx_aload_n dX11_right_34 rfl 0 rfl ?_
          refine gx_bE e (fun t11 ht11 e => ?_)
          refine gy_fR ht11 dX11_right_35 gf_RX11_35_9_1 (by decide) gkN_9_1 gkR_9_1 ?_
          refine gx_iload_n dX11_right_38 rfl 1 rfl ?_
          refine gx_iload_n dX11_right_39 rfl 2 rfl ?_
          refine gx_bE e (fun _ hu12 e => ?_)
          refine gx_bE e (fun q13 hq13 e => ?_)
          refine gx_callV (n := 2) (st := []) (As := [.int (gI v1), .int (gI v2)]) (b := t11) dX11_right_40 (z_X4_symbol hq13) rfl ⟨rfl, gw_cw_X4_symbol, gw_3, gp_X4_symbol, ⟨Nat.le_of_ble_eq_true rfl, Nat.le_of_ble_eq_true rfl⟩⟩ (gi_isS hu12) (by decide) gw_926 gw_415 gw_416 rfl ⟨Nat.le_of_ble_eq_true rfl, Nat.le_of_ble_eq_true rfl⟩ (Nat.le_of_ble_eq_true rfl) (gy_k1 (x := .int (gI q13)) (kc2 := 0) (ks2 := 0) ⟨rfl, rfl⟩ ?_) gy_kn
          cases e
          exact gx_iret dX11_right_43 rfl ⟨Nat.le_of_ble_eq_true rfl, Nat.le_of_ble_eq_true rfl⟩ (fun z => z)
        · refine gy_icmp_lt (tgt := 34) (gi_rgS g8) (by decide) dX11_right_21 (by decide) (fun z => absurd z c10) (fun _ => ?_)
          refine gx_sub (ls2 := []) [] rfl ?_
          exact zb_X11_right_24  e
/-! L_right  -/
set_option maxRecDepth 100000 in
def f_L_right (v0 : Nat) (v1 : Int) (v2 : Int) (h : gi_H) : Option (Int × gi_H) :=
  Option.bind (gi_is h v0 9) fun _ => Option.bind (f_X11_right v0 v1 v2 h) fun q2 => gx_sm q2.1 (fun t3 => some (t3, q2.2)) (fun t3 => if t3 = gx_IOB then (some ((-101 : Int), q2.2)) else (none))
set_option maxRecDepth 100000 in
theorem z_L_right {v0 : Nat} {v1 : Int} {v2 : Int} {h : gi_H} {res : Int} {h1 : gi_H} (e : f_L_right v0 v1 v2 h = some (res, h1)) : gx_Cw mL_right false [.ref v0, .int (gI v1), .int (gI v2)] (gi_cv h) (.inl (some (.int (gI res)))) (gi_cv h1) := by
  refine gx_enter (by decide +kernel) rfl (Nat.le_of_ble_eq_true rfl) ?_
  show gx_Z mL_right false false 0 0 0 [(0, .ref v0), (1, .int (gI v1)), (2, .int (gI v2))] [] (gi_cv h) (.inl (some (.int (gI res)))) (gi_cv h1)
  refine gx_aload_n dL_right_0 rfl 0 rfl ?_
  refine gx_iload_n dL_right_1 rfl 1 rfl ?_
  refine gx_iload_n dL_right_2 rfl 2 rfl ?_
  refine gx_bE e (fun _ hu1 e => ?_)
  refine gx_bE e (fun q2 hq2 e => ?_)
  refine gx_smE e (fun t3 ht3 e => ?_) (fun t3 ht3 e => ?_)
  · have zq2 := z_X11_right hq2
    rw [ht3] at zq2
    refine gx_callV (n := 2) (st := []) (As := [.int (gI v1), .int (gI v2)]) (b := v0) dL_right_3 zq2 rfl ⟨rfl, gw_cw_X11_right, gw_1, gp_X11_right, ⟨Nat.le_of_ble_eq_true rfl, Nat.le_of_ble_eq_true rfl⟩⟩ (gi_isS hu1) (by decide) gw_921 gw_922 gw_923 rfl ⟨Nat.le_of_ble_eq_true rfl, Nat.le_of_ble_eq_true rfl⟩ (Nat.le_of_ble_eq_true rfl) (gy_k1 (x := .int (gI t3)) (kc2 := 1) (ks2 := 6) ⟨rfl, rfl⟩ ?_) gy_kn
    cases e
    exact gx_iret dL_right_6 rfl ⟨Nat.le_of_ble_eq_true rfl, Nat.le_of_ble_eq_true rfl⟩ (fun z => z)
  · have zq2 := z_X11_right hq2
    rw [ht3] at zq2
    refine gx_callV (n := 2) (st := []) (As := [.int (gI v1), .int (gI v2)]) (b := v0) dL_right_3 zq2 rfl ⟨rfl, gw_cw_X11_right, gw_1, gp_X11_right, ⟨Nat.le_of_ble_eq_true rfl, Nat.le_of_ble_eq_true rfl⟩⟩ (gi_isS hu1) (by decide) gw_921 gw_922 gw_923 rfl ⟨Nat.le_of_ble_eq_true rfl, Nat.le_of_ble_eq_true rfl⟩ (Nat.le_of_ble_eq_true rfl) gy_kN (gy_kE (kc2 := 1) (ks2 := 6) ⟨rfl, rfl⟩ ?_)
    refine gx_iE e (fun c4 e => ?_) (fun c4 e => ?_)
    · rw [c4]
      refine gx_catch (ls2 := [(0, .ref v0), (1, .int (gI v1)), (2, .int (gI v2))]) [] (x := (0, 6, 7, 33)) rfl (fun z hz => by cases hz) (by decide +kernel) (by decide) gw_866 (by decide +kernel) (Nat.le_of_ble_eq_true rfl) (Or.inl ⟨3, rfl, rfl, dL_right_7⟩) rfl ?_
      refine gy_bipush dL_right_8 gcb_m101 ?_
      cases e
      exact gx_iret dL_right_10 rfl ⟨Nat.le_of_ble_eq_true rfl, Nat.le_of_ble_eq_true rfl⟩ (fun z => z)
    cases e
