/-! L_right  -/
set_option maxRecDepth 100000 in
def f_L_right (v0 : Nat) (v1 : Int) (v2 : Int) (v3 : Nat) (h : gi_H) : Option (Int × gi_H) :=
  Option.bind (gi_is h v0 9) fun _ => Option.bind (f_X11_right v0 v1 v2 h) fun q2 => gx_sm q2.1 (fun t3 => Option.bind (gi_rg t3) fun _ => Option.bind (gi_s2 q2.2 v3 (0 : Int) t3) fun h5 => some ((0 : Int), h5)) (fun t3 => if t3 = gx_IOB then (some ((1 : Int), q2.2)) else (none))
set_option maxRecDepth 100000 in
theorem z_L_right {v0 : Nat} {v1 : Int} {v2 : Int} {v3 : Nat} {h : gi_H} {res : Int} {h1 : gi_H} (e : f_L_right v0 v1 v2 v3 h = some (res, h1)) : gx_Cw mL_right false [.ref v0, .int (gI v1), .int (gI v2), .ref v3] (gi_cv h) (.inl (some (.int (gI res)))) (gi_cv h1) := by
  refine gx_enter (by decide +kernel) rfl (Nat.le_of_ble_eq_true rfl) ?_
  show gx_Z mL_right false false 0 0 0 [(0, .ref v0), (1, .int (gI v1)), (2, .int (gI v2)), (3, .ref v3)] [] (gi_cv h) (.inl (some (.int (gI res)))) (gi_cv h1)
  refine gx_aload_n dL_right_0 rfl 3 rfl ?_
  refine gy_iconst dL_right_1 ?_
  refine gx_aload_n dL_right_2 rfl 0 rfl ?_
  refine gx_iload_n dL_right_3 rfl 1 rfl ?_
  refine gx_iload_n dL_right_4 rfl 2 rfl ?_
  refine gx_bE e (fun _ hu1 e => ?_)
  refine gx_bE e (fun q2 hq2 e => ?_)
  refine gx_smE e (fun t3 ht3 e => ?_) (fun t3 ht3 e => ?_)
  · have zq2 := z_X11_right hq2
    rw [ht3] at zq2
    refine gx_callV (n := 2) (st := [.int (gI (0 : Int)), .ref v3]) (As := [.int (gI v1), .int (gI v2)]) (b := v0) dL_right_5 zq2 rfl ⟨rfl, gw_cw_X11_right, gw_1, gp_X11_right, ⟨Nat.le_of_ble_eq_true rfl, Nat.le_of_ble_eq_true rfl⟩⟩ (gi_isS hu1) (by decide) gw_1101 gw_1102 gw_1103 rfl ⟨Nat.le_of_ble_eq_true rfl, Nat.le_of_ble_eq_true rfl⟩ (Nat.le_of_ble_eq_true rfl) (gy_k1 (x := .int (gI t3)) (kc2 := 1) (ks2 := 6) ⟨rfl, rfl⟩ ?_) gy_kn
    refine gx_bE e (fun _ g4 e => ?_)
    refine gy_i2l (gi_rgS g4) dL_right_8 ?_
    refine gx_bE e (fun h5 hh5 e => ?_)
    refine gy_t2 hh5 dL_right_9 ?_
    refine gx_goto (tgt := 17) dL_right_10 (by decide) ?_
    refine gy_iconst dL_right_17 ?_
    cases e
    exact gx_iret dL_right_18 rfl ⟨Nat.le_of_ble_eq_true rfl, Nat.le_of_ble_eq_true rfl⟩ (fun z => z)
  · have zq2 := z_X11_right hq2
    rw [ht3] at zq2
    refine gx_callV (n := 2) (st := [.int (gI (0 : Int)), .ref v3]) (As := [.int (gI v1), .int (gI v2)]) (b := v0) dL_right_5 zq2 rfl ⟨rfl, gw_cw_X11_right, gw_1, gp_X11_right, ⟨Nat.le_of_ble_eq_true rfl, Nat.le_of_ble_eq_true rfl⟩⟩ (gi_isS hu1) (by decide) gw_1101 gw_1102 gw_1103 rfl ⟨Nat.le_of_ble_eq_true rfl, Nat.le_of_ble_eq_true rfl⟩ (Nat.le_of_ble_eq_true rfl) gy_kN (gy_kE (kc2 := 1) (ks2 := 6) ⟨rfl, rfl⟩ ?_)
    refine gx_iE e (fun c6 e => ?_) (fun c6 e => ?_)
    · rw [c6]
      refine gx_catch (ls2 := [(0, .ref v0), (1, .int (gI v1)), (2, .int (gI v2)), (3, .ref v3)]) [] (x := (0, 10, 13, 28)) rfl (fun z hz => by cases hz) (by decide +kernel) (by decide) gw_1028 (by decide +kernel) (Nat.le_of_ble_eq_true rfl) (Or.inr ⟨rfl, dL_right_13⟩) rfl ?_
      refine gy_iconst dL_right_15 ?_
      cases e
      exact gx_iret dL_right_16 rfl ⟨Nat.le_of_ble_eq_true rfl, Nat.le_of_ble_eq_true rfl⟩ (fun z => z)
    cases e
/-! X12_sizeOf  -/
set_option maxRecDepth 100000 in
def f_X12_sizeOf (v0 : Nat) (v1 : Int) (h : gi_H) : Option (Int) :=
  Option.bind (gi_rg v1) fun _ => if v1 = (24 : Int) then (some (1 : Int)) else (Option.bind (gi_gR h v0 10 1) fun t3 => Option.bind (gi_gI h v0 10 9) fun t4 => Option.bind (gi_aI h 1 t3 (((24 : Int) * t4) + v1)) fun t5 => some t5)
set_option maxRecDepth 100000 in
theorem z_X12_sizeOf {al : Bool} {v0 : Nat} {v1 : Int} {h : gi_H} {res : Int} (e : f_X12_sizeOf v0 v1 h = some res) : gx_Cw mX12_sizeOf al [.ref v0, .int (gI v1)] (gi_cv h) (.inl (some (.int (gI res)))) (gi_cv h) := by
  refine gx_enter (by decide +kernel) rfl (Nat.le_of_ble_eq_true rfl) ?_
  show gx_Z mX12_sizeOf al al 0 0 0 [(0, .ref v0), (1, .int (gI v1))] [] (gi_cv h) (.inl (some (.int (gI res)))) (gi_cv h)
  refine gx_iload_n dX12_sizeOf_0 rfl 1 rfl ?_
  refine gy_bipush dX12_sizeOf_1 gcb_24 ?_
  refine gx_bE e (fun _ g1 e => ?_)
  refine gx_iE e (fun c2 e => ?_) (fun c2 e => ?_)
  · refine gy_icmp_ne (tgt := 10) (gi_rgS g1) (by decide) dX12_sizeOf_3 (by decide) (fun z => absurd c2 z) (fun _ => ?_)
    refine gy_iconst dX12_sizeOf_6 ?_
    refine gx_goto (tgt := 24) dX12_sizeOf_7 (by decide) ?_
    cases e
    exact gx_iret dX12_sizeOf_24 rfl ⟨Nat.le_of_ble_eq_true rfl, Nat.le_of_ble_eq_true rfl⟩ (fun z => z)
  · refine gy_icmp_ne (tgt := 10) (gi_rgS g1) (by decide) dX12_sizeOf_3 (by decide) (fun _ => ?_) (fun z => absurd z c2)
    refine gx_aload_n dX12_sizeOf_10 rfl 0 rfl ?_
    refine gx_bE e (fun t3 ht3 e => ?_)
    refine gy_fR ht3 dX12_sizeOf_11 gf_RX12_13_10_1 (by decide) gkN_10_1 gkR_10_1 ?_
    refine gy_bipush dX12_sizeOf_14 gcb_24 ?_
    refine gx_aload_n dX12_sizeOf_16 rfl 0 rfl ?_
    refine gx_bE e (fun t4 ht4 e => ?_)
    refine gy_fI ht4 dX12_sizeOf_17 gf_RX12_139_10_9 (by decide) gkN_10_9 gkR_10_9 ?_
    refine gy_imul dX12_sizeOf_20 ?_
    refine gx_iload_n dX12_sizeOf_21 rfl 1 rfl ?_
    refine gy_iadd dX12_sizeOf_22 ?_
    refine gx_bE e (fun t5 ht5 e => ?_)
    refine gy_l1 ht5 dX12_sizeOf_23 ?_
    cases e
    exact gx_iret dX12_sizeOf_24 rfl ⟨Nat.le_of_ble_eq_true rfl, Nat.le_of_ble_eq_true rfl⟩ (fun z => z)
/-! X12_symbol  -/
set_option maxRecDepth 100000 in
def f_X12_symbol (v0 : Nat) (v1 : Int) (v2 : Int) (h : gi_H) : Option (Int) :=
  Option.bind (gi_is h v0 10) fun _ => Option.bind (f_X12_sizeOf v0 v1 h) fun q2 => Option.bind (gi_rg v2) fun _ => Option.bind (gi_rg q2) fun _ => if v2 < q2 then (Option.bind (gi_rg v1) fun _ => if v1 = (24 : Int) then (Option.bind (gi_gR h v0 10 8) fun t8 => Option.bind (gi_gI h v0 10 9) fun t9 => Option.bind (gi_aI h 1 t8 t9) fun t10 => some ((16 : Int) + t10)) else (Option.bind (gi_gR h v0 10 2) fun t11 => Option.bind (gi_gI h v0 10 9) fun t12 => Option.bind (gi_aI h 1 t11 (((5 : Int) * (((24 : Int) * t12) + v1)) + v2)) fun t13 => some t13)) else (some (-1 : Int))
set_option maxRecDepth 100000 in
theorem z_X12_symbol {al : Bool} {v0 : Nat} {v1 : Int} {v2 : Int} {h : gi_H} {res : Int} (e : f_X12_symbol v0 v1 v2 h = some res) : gx_Cw mX12_symbol al [.ref v0, .int (gI v1), .int (gI v2)] (gi_cv h) (.inl (some (.int (gI res)))) (gi_cv h) := by
  refine gx_enter (by decide +kernel) rfl (Nat.le_of_ble_eq_true rfl) ?_
  show gx_Z mX12_symbol al al 0 0 0 [(0, .ref v0), (1, .int (gI v1)), (2, .int (gI v2))] [] (gi_cv h) (.inl (some (.int (gI res)))) (gi_cv h)
  refine gx_iload_n dX12_symbol_0 rfl 2 rfl ?_
  refine gx_aload_n dX12_symbol_1 rfl 0 rfl ?_
  refine gx_iload_n dX12_symbol_2 rfl 1 rfl ?_
  refine gx_bE e (fun _ hu1 e => ?_)
  refine gx_bE e (fun q2 hq2 e => ?_)
  refine gx_callV (n := 1) (st := [.int (gI v2)]) (As := [.int (gI v1)]) (b := v0) dX12_symbol_3 (z_X12_sizeOf hq2) rfl ⟨rfl, gw_cw_X12_sizeOf, gw_14, gp_X12_sizeOf, ⟨Nat.le_of_ble_eq_true rfl, Nat.le_of_ble_eq_true rfl⟩⟩ (gi_isS hu1) (by decide) gw_1579 gw_1581 gs_71 rfl ⟨Nat.le_of_ble_eq_true rfl, Nat.le_of_ble_eq_true rfl⟩ (Nat.le_of_ble_eq_true rfl) (gy_k1 (x := .int (gI q2)) (kc2 := 0) (ks2 := 0) ⟨rfl, rfl⟩ ?_) gy_kn
  refine gx_bE e (fun _ g3 e => ?_)
  refine gx_bE e (fun _ g4 e => ?_)
  refine gx_iE e (fun c5 e => ?_) (fun c5 e => ?_)
  · refine gy_icmp_lt (tgt := 11) (gi_rgS g3) (gi_rgS g4) dX12_symbol_6 (by decide) (fun _ => ?_) (fun z => absurd c5 z)
    refine gx_iload_n dX12_symbol_11 rfl 1 rfl ?_
    refine gy_bipush dX12_symbol_12 gcb_24 ?_
    refine gx_bE e (fun _ g6 e => ?_)
    refine gx_iE e (fun c7 e => ?_) (fun c7 e => ?_)
    · refine gy_icmp_ne (tgt := 32) (gi_rgS g6) (by decide) dX12_symbol_14 (by decide) (fun z => absurd c7 z) (fun _ => ?_)
      refine gy_bipush dX12_symbol_17 gcb_16 ?_
      refine gx_aload_n dX12_symbol_19 rfl 0 rfl ?_
      refine gx_bE e (fun t8 ht8 e => ?_)
      refine gy_fR ht8 dX12_symbol_20 gf_RX12_34_10_8 (by decide) gkN_10_8 gkR_10_8 ?_
      refine gx_aload_n dX12_symbol_23 rfl 0 rfl ?_
      refine gx_bE e (fun t9 ht9 e => ?_)
      refine gy_fI ht9 dX12_symbol_24 gf_RX12_139_10_9 (by decide) gkN_10_9 gkR_10_9 ?_
      refine gx_bE e (fun t10 ht10 e => ?_)
      refine gy_l1 ht10 dX12_symbol_27 ?_
      refine gy_iadd dX12_symbol_28 ?_
      refine gx_goto (tgt := 50) dX12_symbol_29 (by decide) ?_
      cases e
      exact gx_iret dX12_symbol_50 rfl ⟨Nat.le_of_ble_eq_true rfl, Nat.le_of_ble_eq_true rfl⟩ (fun z => z)
    · refine gy_icmp_ne (tgt := 32) (gi_rgS g6) (by decide) dX12_symbol_14 (by decide) (fun _ => ?_) (fun z => absurd z c7)
      refine gx_aload_n dX12_symbol_32 rfl 0 rfl ?_
      refine gx_bE e (fun t11 ht11 e => ?_)
      refine gy_fR ht11 dX12_symbol_33 gf_RX12_16_10_2 (by decide) gkN_10_2 gkR_10_2 ?_
      refine gy_iconst dX12_symbol_36 ?_
      refine gy_bipush dX12_symbol_37 gcb_24 ?_
      refine gx_aload_n dX12_symbol_39 rfl 0 rfl ?_
      refine gx_bE e (fun t12 ht12 e => ?_)
      refine gy_fI ht12 dX12_symbol_40 gf_RX12_139_10_9 (by decide) gkN_10_9 gkR_10_9 ?_
      refine gy_imul dX12_symbol_43 ?_
      refine gx_iload_n dX12_symbol_44 rfl 1 rfl ?_
      refine gy_iadd dX12_symbol_45 ?_
      refine gy_imul dX12_symbol_46 ?_
      refine gx_iload_n dX12_symbol_47 rfl 2 rfl ?_
      refine gy_iadd dX12_symbol_48 ?_
      refine gx_bE e (fun t13 ht13 e => ?_)
      refine gy_l1 ht13 dX12_symbol_49 ?_
      cases e
      exact gx_iret dX12_symbol_50 rfl ⟨Nat.le_of_ble_eq_true rfl, Nat.le_of_ble_eq_true rfl⟩ (fun z => z)
  · refine gy_icmp_lt (tgt := 11) (gi_rgS g3) (gi_rgS g4) dX12_symbol_6 (by decide) (fun z => absurd z c5) (fun _ => ?_)
    refine gy_iconst dX12_symbol_9 ?_
    cases e
    exact gx_iret dX12_symbol_10 rfl ⟨Nat.le_of_ble_eq_true rfl, Nat.le_of_ble_eq_true rfl⟩ (fun z => z)
/-! X12_right  -/
set_option maxRecDepth 100000 in
def b_X12_right_30  (v0 : Nat) (v1 : Int) (v2 : Int) (s0 : Nat) (s1 : Int) (h : gi_H) : Option (Int × gi_H) :=
  Option.bind (gi_is h s0 10) fun _ => Option.bind (f_X12_goes s0 s1 (1 : Int) (1 : Int) h) fun q8 => Option.bind (gi_rg q8.1) fun _ => if q8.1 = 0 then (some ((0 : Int), q8.2)) else (Option.bind (gi_is q8.2 v0 10) fun _ => Option.bind (f_X12_symbol v0 v1 v2 q8.2) fun q12 => some (q12, q8.2))
set_option maxRecDepth 100000 in
theorem zb_X12_right_30 {al : Bool}  {res : Int} {h1 : gi_H}  {v0 : Nat} {v1 : Int} {v2 : Int} {s0 : Nat} {s1 : Int} {h : gi_H} (e : b_X12_right_30 v0 v1 v2 s0 s1 h = some (res, h1)) : gx_Z mX12_right al al 0 0 30 [(0, .ref v0), (1, .int (gI v1)), (2, .int (gI v2))] [.int (gI s1), .ref s0] (gi_cv h) (.inl (some (.int (gI res)))) (gi_cv h1) := by
  refine gy_iconst dX12_right_30 ?_
  refine gy_iconst dX12_right_31 ?_
  refine gx_bE e (fun _ hu7 e => ?_)
  refine gx_bE e (fun q8 hq8 e => ?_)
  refine gx_callV (n := 3) (st := []) (As := [.int (gI s1), .int (gI (1 : Int)), .int (gI (1 : Int))]) (b := s0) dX12_right_32 (z_X12_goes hq8) rfl ⟨rfl, gw_cw_X12_goes, gw_14, gp_X12_goes, ⟨Nat.le_of_ble_eq_true rfl, Nat.le_of_ble_eq_true rfl⟩⟩ (gi_isS hu7) (by decide) gw_1480 gw_1482 gs_58 rfl ⟨Nat.le_of_ble_eq_true rfl, Nat.le_of_ble_eq_true rfl⟩ (Nat.le_of_ble_eq_true rfl) (gy_k1 (x := .int (gI q8.1)) (kc2 := 0) (ks2 := 0) ⟨rfl, rfl⟩ ?_) gy_kn
  refine gx_bE e (fun _ g9 e => ?_)
  refine gx_iE e (fun c10 e => ?_) (fun c10 e => ?_)
  · refine gy_if_ne (tgt := 40) (gi_rgS g9) dX12_right_35 (by decide) (fun z => absurd c10 z) (fun _ => ?_)
    refine gy_iconst dX12_right_38 ?_
    cases e
    exact gx_iret dX12_right_39 rfl ⟨Nat.le_of_ble_eq_true rfl, Nat.le_of_ble_eq_true rfl⟩ (fun z => z)
  · refine gy_if_ne (tgt := 40) (gi_rgS g9) dX12_right_35 (by decide) (fun _ => ?_) (fun z => absurd z c10)
    refine gx_aload_n dX12_right_40 rfl 0 rfl ?_
    refine gx_iload_n dX12_right_41 rfl 1 rfl ?_
    refine gx_iload_n dX12_right_42 rfl 2 rfl ?_
    refine gx_bE e (fun _ hu11 e => ?_)
    refine gx_bE e (fun q12 hq12 e => ?_)
    refine gx_callV (n := 2) (st := []) (As := [.int (gI v1), .int (gI v2)]) (b := v0) dX12_right_43 (z_X12_symbol hq12) rfl ⟨rfl, gw_cw_X12_symbol, gw_14, gp_X12_symbol, ⟨Nat.le_of_ble_eq_true rfl, Nat.le_of_ble_eq_true rfl⟩⟩ (gi_isS hu11) (by decide) gw_1575 gw_1577 gs_70 rfl ⟨Nat.le_of_ble_eq_true rfl, Nat.le_of_ble_eq_true rfl⟩ (Nat.le_of_ble_eq_true rfl) (gy_k1 (x := .int (gI q12)) (kc2 := 0) (ks2 := 0) ⟨rfl, rfl⟩ ?_) gy_kn
    cases e
    exact gx_iret dX12_right_46 rfl ⟨Nat.le_of_ble_eq_true rfl, Nat.le_of_ble_eq_true rfl⟩ (fun z => z)
set_option maxRecDepth 100000 in
def b_X12_right_29  (v0 : Nat) (v1 : Int) (v2 : Int) (s0 : Nat) (h : gi_H) : Option (Int × gi_H) :=
  b_X12_right_30  v0 v1 v2 s0 (0 : Int) h
set_option maxRecDepth 100000 in
theorem zb_X12_right_29 {al : Bool}  {res : Int} {h1 : gi_H}  {v0 : Nat} {v1 : Int} {v2 : Int} {s0 : Nat} {h : gi_H} (e : b_X12_right_29 v0 v1 v2 s0 h = some (res, h1)) : gx_Z mX12_right al al 0 0 29 [(0, .ref v0), (1, .int (gI v1)), (2, .int (gI v2))] [.ref s0] (gi_cv h) (.inl (some (.int (gI res)))) (gi_cv h1) := by
  refine gy_iconst dX12_right_29 ?_
  exact zb_X12_right_30  e
set_option maxRecDepth 100000 in
def f_X12_right (v0 : Nat) (v1 : Int) (v2 : Int) (h : gi_H) : Option (Int × gi_H) :=
  Option.bind (gi_gR h v0 10 3) fun t1 => Option.bind (gi_gI h v0 10 9) fun t2 => Option.bind (gi_aI h 1 t1 t2) fun t3 => Option.bind (f_X12_isBelow v1 t3 h) fun q4 => Option.bind (gi_rg q4) fun _ => if q4 = 0 then (b_X12_right_29  v0 v1 v2 v0 h) else (Option.bind (f_X12_isBelow v2 (5 : Int) h) fun q13 => Option.bind (gi_rg q13) fun _ => if q13 = 0 then (b_X12_right_29  v0 v1 v2 v0 h) else (b_X12_right_30  v0 v1 v2 v0 (1 : Int) h))
set_option maxRecDepth 100000 in
theorem z_X12_right {al : Bool} {v0 : Nat} {v1 : Int} {v2 : Int} {h : gi_H} {res : Int} {h1 : gi_H} (e : f_X12_right v0 v1 v2 h = some (res, h1)) : gx_Cw mX12_right al [.ref v0, .int (gI v1), .int (gI v2)] (gi_cv h) (.inl (some (.int (gI res)))) (gi_cv h1) := by
  refine gx_enter (by decide +kernel) rfl (Nat.le_of_ble_eq_true rfl) ?_
  show gx_Z mX12_right al al 0 0 0 [(0, .ref v0), (1, .int (gI v1)), (2, .int (gI v2))] [] (gi_cv h) (.inl (some (.int (gI res)))) (gi_cv h1)
  refine gx_aload_n dX12_right_0 rfl 0 rfl ?_
  refine gx_iload_n dX12_right_1 rfl 1 rfl ?_
  refine gx_aload_n dX12_right_2 rfl 0 rfl ?_
  refine gx_bE e (fun t1 ht1 e => ?_)
  refine gy_fR ht1 dX12_right_3 gf_RX12_19_10_3 (by decide) gkN_10_3 gkR_10_3 ?_
  refine gx_aload_n dX12_right_6 rfl 0 rfl ?_
  refine gx_bE e (fun t2 ht2 e => ?_)
  refine gy_fI ht2 dX12_right_7 gf_RX12_139_10_9 (by decide) gkN_10_9 gkR_10_9 ?_
  refine gx_bE e (fun t3 ht3 e => ?_)
  refine gy_l1 ht3 dX12_right_10 ?_
  refine gx_bE e (fun q4 hq4 e => ?_)
  refine gx_callS (n := 2) (st := [.ref v0]) (As := [.int (gI v1), .int (gI t3)]) dX12_right_11 (z_X12_isBelow hq4) rfl ⟨rfl, gw_cw_X12_isBelow, gw_14, gp_X12_isBelow, ⟨Nat.le_of_ble_eq_true rfl, Nat.le_of_ble_eq_true rfl⟩⟩ gw_1540 gw_1541 ⟨Nat.le_of_ble_eq_true rfl, Nat.le_of_ble_eq_true rfl⟩ (Nat.le_of_ble_eq_true rfl) (gy_k1 (x := .int (gI q4)) (kc2 := 0) (ks2 := 0) ⟨rfl, rfl⟩ ?_) gy_kn
  refine gx_bE e (fun _ g5 e => ?_)
  refine gx_iE e (fun c6 e => ?_) (fun c6 e => ?_)
  · refine gy_if_eq (tgt := 29) (gi_rgS g5) dX12_right_14 (by decide) (fun _ => ?_) (fun z => absurd c6 z)
    exact zb_X12_right_29  e
  · refine gy_if_eq (tgt := 29) (gi_rgS g5) dX12_right_14 (by decide) (fun z => absurd z c6) (fun _ => ?_)
    refine gx_iload_n dX12_right_17 rfl 2 rfl ?_
    refine gy_iconst dX12_right_18 ?_
    refine gx_bE e (fun q13 hq13 e => ?_)
    refine gx_callS (n := 2) (st := [.ref v0]) (As := [.int (gI v2), .int (gI (5 : Int))]) dX12_right_19 (z_X12_isBelow hq13) rfl ⟨rfl, gw_cw_X12_isBelow, gw_14, gp_X12_isBelow, ⟨Nat.le_of_ble_eq_true rfl, Nat.le_of_ble_eq_true rfl⟩⟩ gw_1540 gw_1541 ⟨Nat.le_of_ble_eq_true rfl, Nat.le_of_ble_eq_true rfl⟩ (Nat.le_of_ble_eq_true rfl) (gy_k1 (x := .int (gI q13)) (kc2 := 0) (ks2 := 0) ⟨rfl, rfl⟩ ?_) gy_kn
    refine gx_bE e (fun _ g14 e => ?_)
    refine gx_iE e (fun c15 e => ?_) (fun c15 e => ?_)
    · refine gy_if_eq (tgt := 29) (gi_rgS g14) dX12_right_22 (by decide) (fun _ => ?_) (fun z => absurd c15 z)
      exact zb_X12_right_29  e
    · refine gy_if_eq (tgt := 29) (gi_rgS g14) dX12_right_22 (by decide) (fun z => absurd z c15) (fun _ => ?_)
      refine gy_iconst dX12_right_25 ?_
      refine gx_goto (tgt := 30) dX12_right_26 (by decide) ?_
      exact zb_X12_right_30  e
/-! X11_requireNonterminal  -/
set_option maxRecDepth 100000 in
def b_X11_requireNonterminal_10    (h : gi_H) : Option ((Unit ⊕ String) × gi_H) :=
  some (.inr gx_IOB, h)
set_option maxRecDepth 100000 in
theorem zb_X11_requireNonterminal_10  {res : Unit ⊕ String} {h1 : gi_H}    {h : gi_H} (e : b_X11_requireNonterminal_10  h = some (res, h1)) : gx_Z mX11_requireNonterminal false false 0 0 10 [] [] (gi_cv h) (gx_oV res) (gi_cv h1) := by
  cases e
  exact gx_throw rfl gt_151_171_155 rfl dX11_requireNonterminal_10 dX11_requireNonterminal_13 dX11_requireNonterminal_14 dX11_requireNonterminal_16 dX11_requireNonterminal_19 (Nat.le_of_ble_eq_true rfl) (Nat.le_of_ble_eq_true rfl) ⟨Nat.le_of_ble_eq_true rfl, Nat.le_of_ble_eq_true rfl⟩
set_option maxRecDepth 100000 in
def f_X11_requireNonterminal (v0 : Int) (h : gi_H) : Option ((Unit ⊕ String) × gi_H) :=
  Option.bind (gi_rg v0) fun _ => if v0 < 0 then (b_X11_requireNonterminal_10   h) else (if v0 < (16 : Int) then (some (.inl (), h)) else (b_X11_requireNonterminal_10   h))
set_option maxRecDepth 100000 in
theorem z_X11_requireNonterminal {v0 : Int} {h : gi_H} {res : Unit ⊕ String} {h1 : gi_H} (e : f_X11_requireNonterminal v0 h = some (res, h1)) : gx_Cw mX11_requireNonterminal false [.int (gI v0)] (gi_cv h) (gx_oV res) (gi_cv h1) := by
  refine gx_enter (by decide +kernel) rfl (Nat.le_of_ble_eq_true rfl) ?_
  show gx_Z mX11_requireNonterminal false false 0 0 0 [(0, .int (gI v0))] [] (gi_cv h) (gx_oV res) (gi_cv h1)
  refine gx_iload_n dX11_requireNonterminal_0 rfl 0 rfl ?_
  refine gx_bE e (fun _ g1 e => ?_)
  refine gx_iE e (fun c2 e => ?_) (fun c2 e => ?_)
  · refine gy_if_lt (tgt := 10) (gi_rgS g1) dX11_requireNonterminal_1 (by decide) (fun _ => ?_) (fun z => absurd c2 z)
    refine gx_sub (ls2 := []) [] rfl ?_
    exact zb_X11_requireNonterminal_10  e
  · refine gy_if_lt (tgt := 10) (gi_rgS g1) dX11_requireNonterminal_1 (by decide) (fun z => absurd z c2) (fun _ => ?_)
    refine gx_iload_n dX11_requireNonterminal_4 rfl 0 rfl ?_
    refine gy_bipush dX11_requireNonterminal_5 gcb_16 ?_
    refine gx_iE e (fun c3 e => ?_) (fun c3 e => ?_)
    · refine gy_icmp_lt (tgt := 20) (gi_rgS g1) (by decide) dX11_requireNonterminal_7 (by decide) (fun _ => ?_) (fun z => absurd c3 z)
      cases e
      exact gx_vret dX11_requireNonterminal_20 rfl ⟨Nat.le_of_ble_eq_true rfl, Nat.le_of_ble_eq_true rfl⟩ (fun z => z)
    · refine gy_icmp_lt (tgt := 20) (gi_rgS g1) (by decide) dX11_requireNonterminal_7 (by decide) (fun z => absurd z c3) (fun _ => ?_)
      refine gx_sub (ls2 := []) [] rfl ?_
      exact zb_X11_requireNonterminal_10  e
/-! X3_beginOf  -/
set_option maxRecDepth 100000 in
def b_X3_beginOf_19    (h : gi_H) : Option (Int) :=
  some (0 : Int)
set_option maxRecDepth 100000 in
theorem zb_X3_beginOf_19 {al : Bool}  {res : Int}    {h : gi_H} (e : b_X3_beginOf_19  h = some res) : gx_Z mX3_beginOf al al 0 0 19 [] [] (gi_cv h) (.inl (some (.int (gI res)))) (gi_cv h) := by
  refine gy_iconst dX3_beginOf_19 ?_
  cases e
  exact gx_iret dX3_beginOf_20 rfl ⟨Nat.le_of_ble_eq_true rfl, Nat.le_of_ble_eq_true rfl⟩ (fun z => z)
set_option maxRecDepth 100000 in
def f_X3_beginOf (v0 : Nat) (v1 : Int) (h : gi_H) : Option (Int) :=
  Option.bind (gi_rg v1) fun _ => if v1 < 0 then (b_X3_beginOf_19   h) else (if (32 : Int) ≤ v1 then (b_X3_beginOf_19   h) else (Option.bind (gi_gR h v0 2 5) fun t4 => Option.bind (gi_aI h 1 t4 v1) fun t5 => some t5))
set_option maxRecDepth 100000 in
theorem z_X3_beginOf {al : Bool} {v0 : Nat} {v1 : Int} {h : gi_H} {res : Int} (e : f_X3_beginOf v0 v1 h = some res) : gx_Cw mX3_beginOf al [.ref v0, .int (gI v1)] (gi_cv h) (.inl (some (.int (gI res)))) (gi_cv h) := by
  refine gx_enter (by decide +kernel) rfl (Nat.le_of_ble_eq_true rfl) ?_
  show gx_Z mX3_beginOf al al 0 0 0 [(0, .ref v0), (1, .int (gI v1))] [] (gi_cv h) (.inl (some (.int (gI res)))) (gi_cv h)
  refine gx_iload_n dX3_beginOf_0 rfl 1 rfl ?_
  refine gx_bE e (fun _ g1 e => ?_)
  refine gx_iE e (fun c2 e => ?_) (fun c2 e => ?_)
  · refine gy_if_lt (tgt := 19) (gi_rgS g1) dX3_beginOf_1 (by decide) (fun _ => ?_) (fun z => absurd c2 z)
    refine gx_sub (ls2 := []) [] rfl ?_
    exact zb_X3_beginOf_19  e
  · refine gy_if_lt (tgt := 19) (gi_rgS g1) dX3_beginOf_1 (by decide) (fun z => absurd z c2) (fun _ => ?_)
    refine gx_iload_n dX3_beginOf_4 rfl 1 rfl ?_
    refine gy_bipush dX3_beginOf_5 gcb_32 ?_
    refine gx_iE e (fun c3 e => ?_) (fun c3 e => ?_)
    · refine gy_icmp_ge (tgt := 19) (gi_rgS g1) (by decide) dX3_beginOf_7 (by decide) (fun _ => ?_) (fun z => absurd c3 z)
      refine gx_sub (ls2 := []) [] rfl ?_
      exact zb_X3_beginOf_19  e
    · refine gy_icmp_ge (tgt := 19) (gi_rgS g1) (by decide) dX3_beginOf_7 (by decide) (fun z => absurd z c3) (fun _ => ?_)
      refine gx_aload_n dX3_beginOf_10 rfl 0 rfl ?_
      refine gx_bE e (fun t4 ht4 e => ?_)
      refine gy_fR ht4 dX3_beginOf_11 gf_RX3_9_2_5 (by decide) gkN_2_5 gkR_2_5 ?_
      refine gx_iload_n dX3_beginOf_14 rfl 1 rfl ?_
      refine gx_bE e (fun t5 ht5 e => ?_)
      refine gy_l1 ht5 dX3_beginOf_15 ?_
      refine gx_goto (tgt := 20) dX3_beginOf_16 (by decide) ?_
      cases e
      exact gx_iret dX3_beginOf_20 rfl ⟨Nat.le_of_ble_eq_true rfl, Nat.le_of_ble_eq_true rfl⟩ (fun z => z)
/-! X3_beginnings  -/
set_option maxRecDepth 100000 in
def b_X3_beginnings_60 (n : Nat)  (v3 : Int)  (h : gi_H) : Option (Int) :=
  some (gi_or v3 (512 : Int))
set_option maxRecDepth 100000 in
theorem zb_X3_beginnings_60 {al : Bool} {n : Nat}  {res : Int}  {v3 : Int}  {h : gi_H} (e : b_X3_beginnings_60 n v3 h = some res) : gx_Z mX3_beginnings al al 0 0 60 [(3, .int (gI v3))] [] (gi_cv h) (.inl (some (.int (gI res)))) (gi_cv h) := by
  refine gx_iload_n dX3_beginnings_60 rfl 0 rfl ?_
  refine gy_sipush dX3_beginnings_61 gcs_512 ?_
  refine gy_ior dX3_beginnings_64 ?_
  cases e
  exact gx_iret dX3_beginnings_65 rfl ⟨Nat.le_of_ble_eq_true rfl, Nat.le_of_ble_eq_true rfl⟩ (fun z => z)
set_option maxRecDepth 100000 in
def b_X3_beginnings_5 (n : Nat) (r5 : Nat → Int → Int → Int → gi_H → Option (Int)) (v0 : Nat) (v1 : Int) (v3 : Int) (v4 : Int)  (h : gi_H) : Option (Int) :=
  Option.bind (gi_gR h v0 2 0) fun t1 => Option.bind (gi_is h t1 3) fun _ => Option.bind (f_X4_length t1 v1 h) fun q3 => Option.bind (gi_rg v4) fun _ => Option.bind (gi_rg q3) fun _ => if q3 ≤ v4 then (b_X3_beginnings_60 n  v3 h) else (Option.bind (gi_gR h v0 2 0) fun t7 => Option.bind (gi_is h t7 3) fun _ => Option.bind (f_X4_symbol t7 v1 v4 h) fun q9 => Option.bind (gi_is h v0 2) fun _ => Option.bind (f_X3_beginOf v0 q9 h) fun q11 => gx_nm (gi_or v3 (gi_and q11 (255 : Int))) fun t12 => Option.bind (gi_rg (gi_and q11 (512 : Int))) fun _ => if (gi_and q11 (512 : Int)) = 0 then (some t12) else (gx_nm (v4 + (1 : Int)) fun t15 => r5 v0 v1 t12 t15 h))
set_option maxRecDepth 100000 in
theorem zb_X3_beginnings_5 {al : Bool} {n : Nat} {r5 : Nat → Int → Int → Int → gi_H → Option (Int)} {res : Int} (hr5 : ∀ (x0 : Nat) (x1 : Int) (x3 : Int) (x4 : Int) (hh : gi_H), r5 x0 x1 x3 x4 hh = some res → gx_Z mX3_beginnings al al 0 0 5 [(0, .ref x0), (1, .int (gI x1)), (3, .int (gI x3)), (4, .int (gI x4))] [] (gi_cv hh) (.inl (some (.int (gI res)))) (gi_cv hh)) {v0 : Nat} {v1 : Int} {v3 : Int} {v4 : Int}  {h : gi_H} (e : b_X3_beginnings_5 n r5 v0 v1 v3 v4 h = some res) : gx_Z mX3_beginnings al al 0 0 5 [(0, .ref v0), (1, .int (gI v1)), (3, .int (gI v3)), (4, .int (gI v4))] [] (gi_cv h) (.inl (some (.int (gI res)))) (gi_cv h) := by
  refine gx_iload dX3_beginnings_5 3 rfl ?_
  refine gx_aload_n dX3_beginnings_7 rfl 0 rfl ?_
  refine gx_bE e (fun t1 ht1 e => ?_)
  refine gy_fR ht1 dX3_beginnings_8 gf_RX3_37_2_0 (by decide) gkN_2_0 gkR_2_0 ?_
  refine gx_iload_n dX3_beginnings_11 rfl 1 rfl ?_
  refine gx_bE e (fun _ hu2 e => ?_)
  refine gx_bE e (fun q3 hq3 e => ?_)
  refine gx_callV (n := 1) (st := [.int (gI v4)]) (As := [.int (gI v1)]) (b := t1) dX3_beginnings_12 (z_X4_length hq3) rfl ⟨rfl, gw_cw_X4_length, gw_3, gp_X4_length, ⟨Nat.le_of_ble_eq_true rfl, Nat.le_of_ble_eq_true rfl⟩⟩ (gi_isS hu2) (by decide) gw_423 gw_424 gw_425 rfl ⟨Nat.le_of_ble_eq_true rfl, Nat.le_of_ble_eq_true rfl⟩ (Nat.le_of_ble_eq_true rfl) (gy_k1 (x := .int (gI q3)) (kc2 := 0) (ks2 := 0) ⟨rfl, rfl⟩ ?_) gy_kn
  refine gx_bE e (fun _ g4 e => ?_)
  refine gx_bE e (fun _ g5 e => ?_)
  refine gx_iE e (fun c6 e => ?_) (fun c6 e => ?_)
  · refine gy_icmp_ge (tgt := 60) (gi_rgS g4) (gi_rgS g5) dX3_beginnings_15 (by decide) (fun _ => ?_) (fun z => absurd c6 z)
    refine gx_sub (ls2 := [(3, .int (gI v3))]) [2] rfl ?_
    exact zb_X3_beginnings_60  e
  · refine gy_icmp_ge (tgt := 60) (gi_rgS g4) (gi_rgS g5) dX3_beginnings_15 (by decide) (fun z => absurd z c6) (fun _ => ?_)
    refine gx_aload_n dX3_beginnings_18 rfl 0 rfl ?_
    refine gx_aload_n dX3_beginnings_19 rfl 0 rfl ?_
    refine gx_bE e (fun t7 ht7 e => ?_)
    refine gy_fR ht7 dX3_beginnings_20 gf_RX3_37_2_0 (by decide) gkN_2_0 gkR_2_0 ?_
    refine gx_iload_n dX3_beginnings_23 rfl 1 rfl ?_
    refine gx_iload dX3_beginnings_24 3 rfl ?_
    refine gx_bE e (fun _ hu8 e => ?_)
    refine gx_bE e (fun q9 hq9 e => ?_)
    refine gx_callV (n := 2) (st := [.ref v0]) (As := [.int (gI v1), .int (gI v4)]) (b := t7) dX3_beginnings_26 (z_X4_symbol hq9) rfl ⟨rfl, gw_cw_X4_symbol, gw_3, gp_X4_symbol, ⟨Nat.le_of_ble_eq_true rfl, Nat.le_of_ble_eq_true rfl⟩⟩ (gi_isS hu8) (by decide) gw_427 gw_428 gw_429 rfl ⟨Nat.le_of_ble_eq_true rfl, Nat.le_of_ble_eq_true rfl⟩ (Nat.le_of_ble_eq_true rfl) (gy_k1 (x := .int (gI q9)) (kc2 := 0) (ks2 := 0) ⟨rfl, rfl⟩ ?_) gy_kn
    refine gx_bE e (fun _ hu10 e => ?_)
    refine gx_bE e (fun q11 hq11 e => ?_)
    refine gx_callV (n := 1) (st := []) (As := [.int (gI q9)]) (b := v0) dX3_beginnings_29 (z_X3_beginOf hq11) rfl ⟨rfl, gw_cw_X3_beginOf, gw_6, gp_X3_beginOf, ⟨Nat.le_of_ble_eq_true rfl, Nat.le_of_ble_eq_true rfl⟩⟩ (gi_isS hu10) (by decide) gw_431 gw_433 gs_3 rfl ⟨Nat.le_of_ble_eq_true rfl, Nat.le_of_ble_eq_true rfl⟩ (Nat.le_of_ble_eq_true rfl) (gy_k1 (x := .int (gI q11)) (kc2 := 0) (ks2 := 0) ⟨rfl, rfl⟩ ?_) gy_kn
    refine gx_istore (ls2 := [(5, .int (gI q11)), (0, .ref v0), (1, .int (gI v1)), (3, .int (gI v3)), (4, .int (gI v4))]) dX3_beginnings_32 (Nat.le_of_ble_eq_true rfl) rfl ?_
    refine gx_iload_n dX3_beginnings_34 rfl 3 rfl ?_
    refine gx_iload dX3_beginnings_35 0 rfl ?_
    refine gy_sipush dX3_beginnings_37 gcs_255 ?_
    refine gy_iand dX3_beginnings_40 ?_
    refine gy_ior dX3_beginnings_41 ?_
    refine gx_nE e (fun t12 ht12 e => ?_)
    rw [ht12]
    refine gx_istore_n (ls2 := [(3, .int (gI t12)), (5, .int (gI q11)), (0, .ref v0), (1, .int (gI v1)), (4, .int (gI v4))]) dX3_beginnings_42 rfl (Nat.le_of_ble_eq_true rfl) rfl ?_
    refine gx_iload dX3_beginnings_43 1 rfl ?_
    refine gy_sipush dX3_beginnings_45 gcs_512 ?_
    refine gy_iand dX3_beginnings_48 ?_
    refine gx_bE e (fun _ g13 e => ?_)
    refine gx_iE e (fun c14 e => ?_) (fun c14 e => ?_)
    · refine gy_if_ne (tgt := 54) (gi_rgS g13) dX3_beginnings_49 (by decide) (fun z => absurd c14 z) (fun _ => ?_)
      refine gx_iload_n dX3_beginnings_52 rfl 0 rfl ?_
      cases e
      exact gx_iret dX3_beginnings_53 rfl ⟨Nat.le_of_ble_eq_true rfl, Nat.le_of_ble_eq_true rfl⟩ (fun z => z)
    · refine gy_if_ne (tgt := 54) (gi_rgS g13) dX3_beginnings_49 (by decide) (fun _ => ?_) (fun z => absurd z c14)
      refine gx_nE e (fun t15 ht15 e => ?_)
      refine gy_iinc (v := t15) (ls2 := [(4, .int (gI t15)), (3, .int (gI t12)), (5, .int (gI q11)), (0, .ref v0), (1, .int (gI v1))]) dX3_beginnings_54 4 rfl ht15 (Nat.le_of_ble_eq_true rfl) rfl ?_
      refine gx_goto (tgt := 5) dX3_beginnings_57 (by decide) ?_
      refine gx_sub (ls2 := [(0, .ref v0), (1, .int (gI v1)), (3, .int (gI t12)), (4, .int (gI t15))]) [3, 4, 1, 0] rfl ?_
      exact hr5 _ _ _ _ _ e
def l_X3_beginnings_5 (n : Nat)  : Nat → Nat → Int → Int → Int → gi_H → Option (Int)
  | 0, _, _, _, _, _ => none
  | k + 1, v0, v1, v3, v4, h => b_X3_beginnings_5 n  (l_X3_beginnings_5 n  k) v0 v1 v3 v4 h
theorem zl_X3_beginnings_5 {al : Bool} {n : Nat}  {res : Int}  : ∀ (k : Nat) (v0 : Nat) (v1 : Int) (v3 : Int) (v4 : Int) (h : gi_H), l_X3_beginnings_5 n  k v0 v1 v3 v4 h = some res → gx_Z mX3_beginnings al al 0 0 5 [(0, .ref v0), (1, .int (gI v1)), (3, .int (gI v3)), (4, .int (gI v4))] [] (gi_cv h) (.inl (some (.int (gI res)))) (gi_cv h)
  | 0, _, _, _, _, _, e => gx_0E e
  | k + 1, _, _, _, _, _, e => zb_X3_beginnings_5 (n := n)  (zl_X3_beginnings_5  k) e
set_option maxRecDepth 100000 in
def f_X3_beginnings (n : Nat) (v0 : Nat) (v1 : Int) (v2 : Int) (h : gi_H) : Option (Int) :=
  l_X3_beginnings_5 n  n v0 v1 (0 : Int) v2 h
set_option maxRecDepth 100000 in
theorem z_X3_beginnings {al : Bool} {n : Nat} {v0 : Nat} {v1 : Int} {v2 : Int} {h : gi_H} {res : Int} (e : f_X3_beginnings n v0 v1 v2 h = some res) : gx_Cw mX3_beginnings al [.ref v0, .int (gI v1), .int (gI v2)] (gi_cv h) (.inl (some (.int (gI res)))) (gi_cv h) := by
  refine gx_enter (by decide +kernel) rfl (Nat.le_of_ble_eq_true rfl) ?_
  show gx_Z mX3_beginnings al al 0 0 0 [(0, .ref v0), (1, .int (gI v1)), (2, .int (gI v2))] [] (gi_cv h) (.inl (some (.int (gI res)))) (gi_cv h)
  refine gy_iconst dX3_beginnings_0 ?_
  refine gx_istore_n (ls2 := [(3, .int (gI (0 : Int))), (0, .ref v0), (1, .int (gI v1)), (2, .int (gI v2))]) dX3_beginnings_1 rfl (Nat.le_of_ble_eq_true rfl) rfl ?_
  refine gx_iload_n dX3_beginnings_2 rfl 3 rfl ?_
  refine gx_istore (ls2 := [(4, .int (gI v2)), (3, .int (gI (0 : Int))), (0, .ref v0), (1, .int (gI v1)), (2, .int (gI v2))]) dX3_beginnings_3 (Nat.le_of_ble_eq_true rfl) rfl ?_
  refine gx_sub (ls2 := [(0, .ref v0), (1, .int (gI v1)), (3, .int (gI (0 : Int))), (4, .int (gI v2))]) [2, 3, 1, 0] rfl ?_
  exact zl_X3_beginnings_5  n _ _ _ _ _ e
/-! X3_widen  -/
set_option maxRecDepth 100000 in
def f_X3_widen (v0 : Nat) (v1 : Int) (v2 : Int) (h : gi_H) : Option (Int × gi_H) :=
  Option.bind (gi_rg v1) fun _ => if v1 < 0 then (some ((0 : Int), h)) else (Option.bind (gi_ln h v0) fun t3 => Option.bind (gi_rg t3) fun _ => if t3 ≤ v1 then (some ((0 : Int), h)) else (Option.bind (gi_aI h 1 v0 v1) fun t6 => Option.bind (gi_aI h 1 v0 v1) fun t7 => Option.bind (gi_rg (gi_or t6 v2)) fun _ => Option.bind (gi_rg t7) fun _ => if (gi_or t6 v2) = t7 then (some ((0 : Int), h)) else (Option.bind (gi_aI h 1 v0 v1) fun t11 => Option.bind (gi_s1 h v0 v1 (gi_or t11 v2)) fun h12 => some ((1 : Int), h12))))
set_option maxRecDepth 100000 in
theorem z_X3_widen {al : Bool} {v0 : Nat} {v1 : Int} {v2 : Int} {h : gi_H} {res : Int} {h1 : gi_H} (e : f_X3_widen v0 v1 v2 h = some (res, h1)) : gx_Cw mX3_widen al [.ref v0, .int (gI v1), .int (gI v2)] (gi_cv h) (.inl (some (.int (gI res)))) (gi_cv h1) := by
  refine gx_enter (by decide +kernel) rfl (Nat.le_of_ble_eq_true rfl) ?_
  show gx_Z mX3_widen al al 0 0 0 [(0, .ref v0), (1, .int (gI v1)), (2, .int (gI v2))] [] (gi_cv h) (.inl (some (.int (gI res)))) (gi_cv h1)
  refine gx_iload_n dX3_widen_0 rfl 1 rfl ?_
  refine gx_bE e (fun _ g1 e => ?_)
  refine gx_iE e (fun c2 e => ?_) (fun c2 e => ?_)
  · refine gy_if_lt (tgt := 21) (gi_rgS g1) dX3_widen_1 (by decide) (fun _ => ?_) (fun z => absurd c2 z)
    refine gy_iconst dX3_widen_21 ?_
    cases e
    exact gx_zret (by decide +kernel) dX3_widen_22 rfl ⟨Nat.le_of_ble_eq_true rfl, Nat.le_of_ble_eq_true rfl⟩ (fun z => z)
  · refine gy_if_lt (tgt := 21) (gi_rgS g1) dX3_widen_1 (by decide) (fun z => absurd z c2) (fun _ => ?_)
    refine gx_iload_n dX3_widen_4 rfl 1 rfl ?_
    refine gx_aload_n dX3_widen_5 rfl 0 rfl ?_
    refine gx_bE e (fun t3 ht3 e => ?_)
    refine gy_al0 ht3 dX3_widen_6 ?_
    refine gx_bE e (fun _ g4 e => ?_)
    refine gx_iE e (fun c5 e => ?_) (fun c5 e => ?_)
    · refine gy_icmp_ge (tgt := 21) (gi_rgS g1) (gi_rgS g4) dX3_widen_7 (by decide) (fun _ => ?_) (fun z => absurd c5 z)
      refine gy_iconst dX3_widen_21 ?_
      cases e
      exact gx_zret (by decide +kernel) dX3_widen_22 rfl ⟨Nat.le_of_ble_eq_true rfl, Nat.le_of_ble_eq_true rfl⟩ (fun z => z)
    · refine gy_icmp_ge (tgt := 21) (gi_rgS g1) (gi_rgS g4) dX3_widen_7 (by decide) (fun z => absurd z c5) (fun _ => ?_)
      refine gx_aload_n dX3_widen_10 rfl 0 rfl ?_
      refine gx_iload_n dX3_widen_11 rfl 1 rfl ?_
      refine gx_bE e (fun t6 ht6 e => ?_)
      refine gy_l1 ht6 dX3_widen_12 ?_
      refine gx_iload_n dX3_widen_13 rfl 2 rfl ?_
      refine gy_ior dX3_widen_14 ?_
      refine gx_aload_n dX3_widen_15 rfl 0 rfl ?_
      refine gx_iload_n dX3_widen_16 rfl 1 rfl ?_
      refine gx_bE e (fun t7 ht7 e => ?_)
      refine gy_l1 ht7 dX3_widen_17 ?_
      refine gx_bE e (fun _ g8 e => ?_)
      refine gx_bE e (fun _ g9 e => ?_)
      refine gx_iE e (fun c10 e => ?_) (fun c10 e => ?_)
      · refine gy_icmp_ne (tgt := 23) (gi_rgS g8) (gi_rgS g9) dX3_widen_18 (by decide) (fun z => absurd c10 z) (fun _ => ?_)
        refine gy_iconst dX3_widen_21 ?_
        cases e
        exact gx_zret (by decide +kernel) dX3_widen_22 rfl ⟨Nat.le_of_ble_eq_true rfl, Nat.le_of_ble_eq_true rfl⟩ (fun z => z)
      · refine gy_icmp_ne (tgt := 23) (gi_rgS g8) (gi_rgS g9) dX3_widen_18 (by decide) (fun _ => ?_) (fun z => absurd z c10)
        refine gx_aload_n dX3_widen_23 rfl 0 rfl ?_
        refine gx_iload_n dX3_widen_24 rfl 1 rfl ?_
        refine gx_dup2 dX3_widen_25 rfl rfl ?_
        refine gx_bE e (fun t11 ht11 e => ?_)
        refine gy_l1 ht11 dX3_widen_26 ?_
        refine gx_iload_n dX3_widen_27 rfl 2 rfl ?_
        refine gy_ior dX3_widen_28 ?_
        refine gx_bE e (fun h12 hh12 e => ?_)
        refine gy_t1 hh12 dX3_widen_29 ?_
        refine gy_iconst dX3_widen_30 ?_
        cases e
        exact gx_zret (by decide +kernel) dX3_widen_31 rfl ⟨Nat.le_of_ble_eq_true rfl, Nat.le_of_ble_eq_true rfl⟩ (fun z => z)
/-! X3_findBeginnings  -/
set_option maxRecDepth 100000 in
def b_X3_findBeginnings_97 (n : Nat) (r35 : Nat → Int → Int → gi_H → Option (gi_H)) (v0 : Nat) (v1 : Int) (v2 : Int)  (h : gi_H) : Option (gi_H) :=
  gx_nm (v2 + (1 : Int)) fun t15 => r35 v0 v1 t15 h
set_option maxRecDepth 100000 in
theorem zb_X3_findBeginnings_97 {al : Bool} {n : Nat} {r35 : Nat → Int → Int → gi_H → Option (gi_H)} {h1 : gi_H} (hr35 : ∀ (x0 : Nat) (x1 : Int) (x2 : Int) (hh : gi_H), r35 x0 x1 x2 hh = some h1 → gx_Z mX3_findBeginnings al al 0 0 35 [(0, .ref x0), (1, .int (gI x1)), (2, .int (gI x2))] [] (gi_cv hh) (.inl none) (gi_cv h1)) {v0 : Nat} {v1 : Int} {v2 : Int}  {h : gi_H} (e : b_X3_findBeginnings_97 n r35 v0 v1 v2 h = some h1) : gx_Z mX3_findBeginnings al al 0 0 97 [(0, .ref v0), (1, .int (gI v1)), (2, .int (gI v2))] [] (gi_cv h) (.inl none) (gi_cv h1) := by
  refine gx_nE e (fun t15 ht15 e => ?_)
  refine gy_iinc (v := t15) (ls2 := [(2, .int (gI t15)), (0, .ref v0), (1, .int (gI v1))]) dX3_findBeginnings_97 2 rfl ht15 (Nat.le_of_ble_eq_true rfl) rfl ?_
  refine gx_goto (tgt := 35) dX3_findBeginnings_100 (by decide) ?_
  refine gx_sub (ls2 := [(0, .ref v0), (1, .int (gI v1)), (2, .int (gI t15))]) [1, 2, 0] rfl ?_
  exact hr35 _ _ _ _ e
set_option maxRecDepth 100000 in
def b_X3_findBeginnings_49 (n : Nat) (r35 : Nat → Int → Int → gi_H → Option (gi_H)) (r49 : Nat → Int → Int → Int → gi_H → Option (gi_H)) (v0 : Nat) (v1 : Int) (v2 : Int) (v3 : Int)  (h : gi_H) : Option (gi_H) :=
  Option.bind (gi_gR h v0 2 0) fun t9 => Option.bind (gi_is h t9 3) fun _ => Option.bind (f_X4_count t9 h) fun q11 => Option.bind (gi_rg v3) fun _ => Option.bind (gi_rg q11) fun _ => if q11 ≤ v3 then (b_X3_findBeginnings_97 n r35 v0 v1 v2 h) else (Option.bind (gi_gR h v0 2 0) fun t16 => Option.bind (gi_is h t16 3) fun _ => Option.bind (f_X4_owner t16 v3 h) fun q18 => gx_nm ((16 : Int) + q18) fun t19 => Option.bind (gi_gR h v0 2 5) fun t20 => Option.bind (gi_is h v0 2) fun _ => Option.bind (f_X3_beginnings n v0 v3 (0 : Int) h) fun q22 => Option.bind (f_X3_widen t20 t19 q22 h) fun q23 => gx_nm (gi_or v1 q23.1) fun t24 => gx_nm (v3 + (1 : Int)) fun t25 => r49 v0 t24 v2 t25 q23.2)
set_option maxRecDepth 100000 in
theorem zb_X3_findBeginnings_49 {al : Bool} {n : Nat} {r35 : Nat → Int → Int → gi_H → Option (gi_H)} {r49 : Nat → Int → Int → Int → gi_H → Option (gi_H)} {h1 : gi_H} (hr35 : ∀ (x0 : Nat) (x1 : Int) (x2 : Int) (hh : gi_H), r35 x0 x1 x2 hh = some h1 → gx_Z mX3_findBeginnings al al 0 0 35 [(0, .ref x0), (1, .int (gI x1)), (2, .int (gI x2))] [] (gi_cv hh) (.inl none) (gi_cv h1)) (hr49 : ∀ (x0 : Nat) (x1 : Int) (x2 : Int) (x3 : Int) (hh : gi_H), r49 x0 x1 x2 x3 hh = some h1 → gx_Z mX3_findBeginnings al al 0 0 49 [(0, .ref x0), (1, .int (gI x1)), (2, .int (gI x2)), (3, .int (gI x3))] [] (gi_cv hh) (.inl none) (gi_cv h1)) {v0 : Nat} {v1 : Int} {v2 : Int} {v3 : Int}  {h : gi_H} (e : b_X3_findBeginnings_49 n r35 r49 v0 v1 v2 v3 h = some h1) : gx_Z mX3_findBeginnings al al 0 0 49 [(0, .ref v0), (1, .int (gI v1)), (2, .int (gI v2)), (3, .int (gI v3))] [] (gi_cv h) (.inl none) (gi_cv h1) := by
  refine gx_iload_n dX3_findBeginnings_49 rfl 3 rfl ?_
  refine gx_aload_n dX3_findBeginnings_50 rfl 0 rfl ?_
  refine gx_bE e (fun t9 ht9 e => ?_)
  refine gy_fR ht9 dX3_findBeginnings_51 gf_RX3_37_2_0 (by decide) gkN_2_0 gkR_2_0 ?_
  refine gx_bE e (fun _ hu10 e => ?_)
  refine gx_bE e (fun q11 hq11 e => ?_)
  refine gx_callV (n := 0) (st := [.int (gI v3)]) (As := []) (b := t9) dX3_findBeginnings_54 (z_X4_count hq11) rfl ⟨rfl, gw_cw_X4_count, gw_3, gp_X4_count, ⟨Nat.le_of_ble_eq_true rfl, Nat.le_of_ble_eq_true rfl⟩⟩ (gi_isS hu10) (by decide) gw_414 gw_393 gw_394 rfl ⟨Nat.le_of_ble_eq_true rfl, Nat.le_of_ble_eq_true rfl⟩ (Nat.le_of_ble_eq_true rfl) (gy_k1 (x := .int (gI q11)) (kc2 := 0) (ks2 := 0) ⟨rfl, rfl⟩ ?_) gy_kn
  refine gx_bE e (fun _ g12 e => ?_)
  refine gx_bE e (fun _ g13 e => ?_)
  refine gx_iE e (fun c14 e => ?_) (fun c14 e => ?_)
  · refine gy_icmp_ge (tgt := 97) (gi_rgS g12) (gi_rgS g13) dX3_findBeginnings_57 (by decide) (fun _ => ?_) (fun z => absurd c14 z)
    refine gx_sub (ls2 := [(0, .ref v0), (1, .int (gI v1)), (2, .int (gI v2))]) [0, 1, 2] rfl ?_
    exact zb_X3_findBeginnings_97 hr35 e
  · refine gy_icmp_ge (tgt := 97) (gi_rgS g12) (gi_rgS g13) dX3_findBeginnings_57 (by decide) (fun z => absurd z c14) (fun _ => ?_)
    refine gy_bipush dX3_findBeginnings_60 gcb_16 ?_
    refine gx_aload_n dX3_findBeginnings_62 rfl 0 rfl ?_
    refine gx_bE e (fun t16 ht16 e => ?_)
    refine gy_fR ht16 dX3_findBeginnings_63 gf_RX3_37_2_0 (by decide) gkN_2_0 gkR_2_0 ?_
    refine gx_iload_n dX3_findBeginnings_66 rfl 3 rfl ?_
    refine gx_bE e (fun _ hu17 e => ?_)
    refine gx_bE e (fun q18 hq18 e => ?_)
    refine gx_callV (n := 1) (st := [.int (gI (16 : Int))]) (As := [.int (gI v3)]) (b := t16) dX3_findBeginnings_67 (z_X4_owner hq18) rfl ⟨rfl, gw_cw_X4_owner, gw_3, gp_X4_owner, ⟨Nat.le_of_ble_eq_true rfl, Nat.le_of_ble_eq_true rfl⟩⟩ (gi_isS hu17) (by decide) gw_415 gw_416 gw_417 rfl ⟨Nat.le_of_ble_eq_true rfl, Nat.le_of_ble_eq_true rfl⟩ (Nat.le_of_ble_eq_true rfl) (gy_k1 (x := .int (gI q18)) (kc2 := 0) (ks2 := 0) ⟨rfl, rfl⟩ ?_) gy_kn
    refine gy_iadd dX3_findBeginnings_70 ?_
    refine gx_nE e (fun t19 ht19 e => ?_)
    rw [ht19]
    refine gx_istore (ls2 := [(4, .int (gI t19)), (0, .ref v0), (1, .int (gI v1)), (2, .int (gI v2)), (3, .int (gI v3))]) dX3_findBeginnings_71 (Nat.le_of_ble_eq_true rfl) rfl ?_
    refine gx_iload_n dX3_findBeginnings_73 rfl 2 rfl ?_
    refine gx_aload_n dX3_findBeginnings_74 rfl 1 rfl ?_
    refine gx_bE e (fun t20 ht20 e => ?_)
    refine gy_fR ht20 dX3_findBeginnings_75 gf_RX3_9_2_5 (by decide) gkN_2_5 gkR_2_5 ?_
    refine gx_iload dX3_findBeginnings_78 0 rfl ?_
    refine gx_aload_n dX3_findBeginnings_80 rfl 1 rfl ?_
    refine gx_iload_n dX3_findBeginnings_81 rfl 4 rfl ?_
    refine gy_iconst dX3_findBeginnings_82 ?_
    refine gx_bE e (fun _ hu21 e => ?_)
    refine gx_bE e (fun q22 hq22 e => ?_)
    refine gx_callV (n := 2) (st := [.int (gI t19), .ref t20, .int (gI v1)]) (As := [.int (gI v3), .int (gI (0 : Int))]) (b := v0) dX3_findBeginnings_83 (z_X3_beginnings hq22) rfl ⟨rfl, gw_cw_X3_beginnings, gw_6, gp_X3_beginnings, ⟨Nat.le_of_ble_eq_true rfl, Nat.le_of_ble_eq_true rfl⟩⟩ (gi_isS hu21) (by decide) gw_419 gw_421 gs_2 rfl ⟨Nat.le_of_ble_eq_true rfl, Nat.le_of_ble_eq_true rfl⟩ (Nat.le_of_ble_eq_true rfl) (gy_k1 (x := .int (gI q22)) (kc2 := 0) (ks2 := 0) ⟨rfl, rfl⟩ ?_) gy_kn
    refine gx_bE e (fun q23 hq23 e => ?_)
    refine gx_callS (n := 3) (st := [.int (gI v1)]) (As := [.ref t20, .int (gI t19), .int (gI q22)]) dX3_findBeginnings_86 (z_X3_widen hq23) rfl ⟨rfl, gw_cw_X3_widen, gw_6, gp_X3_widen, ⟨Nat.le_of_ble_eq_true rfl, Nat.le_of_ble_eq_true rfl⟩⟩ gw_435 gw_436 ⟨Nat.le_of_ble_eq_true rfl, Nat.le_of_ble_eq_true rfl⟩ (Nat.le_of_ble_eq_true rfl) (gy_k1 (x := .int (gI q23.1)) (kc2 := 0) (ks2 := 0) ⟨rfl, rfl⟩ ?_) gy_kn
    refine gy_ior dX3_findBeginnings_89 ?_
    refine gx_nE e (fun t24 ht24 e => ?_)
    rw [ht24]
    refine gx_istore_n (ls2 := [(1, .int (gI t24)), (4, .int (gI t19)), (0, .ref v0), (2, .int (gI v2)), (3, .int (gI v3))]) dX3_findBeginnings_90 rfl (Nat.le_of_ble_eq_true rfl) rfl ?_
    refine gx_nE e (fun t25 ht25 e => ?_)
    refine gy_iinc (v := t25) (ls2 := [(3, .int (gI t25)), (1, .int (gI t24)), (4, .int (gI t19)), (0, .ref v0), (2, .int (gI v2))]) dX3_findBeginnings_91 4 rfl ht25 (Nat.le_of_ble_eq_true rfl) rfl ?_
    refine gx_goto (tgt := 49) dX3_findBeginnings_94 (by decide) ?_
    refine gx_sub (ls2 := [(0, .ref v0), (1, .int (gI t24)), (2, .int (gI v2)), (3, .int (gI t25))]) [3, 1, 4, 0] rfl ?_
    exact hr49 _ _ _ _ _ e
def l_X3_findBeginnings_49 (n : Nat) (r35 : Nat → Int → Int → gi_H → Option (gi_H)) : Nat → Nat → Int → Int → Int → gi_H → Option (gi_H)
  | 0, _, _, _, _, _ => none
  | k + 1, v0, v1, v2, v3, h => b_X3_findBeginnings_49 n r35 (l_X3_findBeginnings_49 n r35 k) v0 v1 v2 v3 h
theorem zl_X3_findBeginnings_49 {al : Bool} {n : Nat} {r35 : Nat → Int → Int → gi_H → Option (gi_H)} {h1 : gi_H} (hr35 : ∀ (x0 : Nat) (x1 : Int) (x2 : Int) (hh : gi_H), r35 x0 x1 x2 hh = some h1 → gx_Z mX3_findBeginnings al al 0 0 35 [(0, .ref x0), (1, .int (gI x1)), (2, .int (gI x2))] [] (gi_cv hh) (.inl none) (gi_cv h1)) : ∀ (k : Nat) (v0 : Nat) (v1 : Int) (v2 : Int) (v3 : Int) (h : gi_H), l_X3_findBeginnings_49 n r35 k v0 v1 v2 v3 h = some h1 → gx_Z mX3_findBeginnings al al 0 0 49 [(0, .ref v0), (1, .int (gI v1)), (2, .int (gI v2)), (3, .int (gI v3))] [] (gi_cv h) (.inl none) (gi_cv h1)
  | 0, _, _, _, _, _, e => gx_0E e
  | k + 1, _, _, _, _, _, e => zb_X3_findBeginnings_49 (n := n) hr35 (zl_X3_findBeginnings_49 hr35 k) e
set_option maxRecDepth 100000 in
def b_X3_findBeginnings_35 (n : Nat) (r35 : Nat → Int → Int → gi_H → Option (gi_H)) (v0 : Nat) (v1 : Int) (v2 : Int)  (h : gi_H) : Option (gi_H) :=
  Option.bind (gi_rg v2) fun _ => if (1000000 : Int) ≤ v2 then (some h) else (Option.bind (gi_rg v1) fun _ => if v1 = 0 then (some h) else (l_X3_findBeginnings_49 n r35 n v0 (0 : Int) v2 (0 : Int) h))
set_option maxRecDepth 100000 in
theorem zb_X3_findBeginnings_35 {al : Bool} {n : Nat} {r35 : Nat → Int → Int → gi_H → Option (gi_H)} {h1 : gi_H} (hr35 : ∀ (x0 : Nat) (x1 : Int) (x2 : Int) (hh : gi_H), r35 x0 x1 x2 hh = some h1 → gx_Z mX3_findBeginnings al al 0 0 35 [(0, .ref x0), (1, .int (gI x1)), (2, .int (gI x2))] [] (gi_cv hh) (.inl none) (gi_cv h1)) {v0 : Nat} {v1 : Int} {v2 : Int}  {h : gi_H} (e : b_X3_findBeginnings_35 n r35 v0 v1 v2 h = some h1) : gx_Z mX3_findBeginnings al al 0 0 35 [(0, .ref v0), (1, .int (gI v1)), (2, .int (gI v2))] [] (gi_cv h) (.inl none) (gi_cv h1) := by
  refine gx_iload_n dX3_findBeginnings_35 rfl 2 rfl ?_
  refine gy_ldc (n := 1000000) dX3_findBeginnings_36 gw_413 (by decide +kernel) ?_
  refine gx_bE e (fun _ g5 e => ?_)
  refine gx_iE e (fun c6 e => ?_) (fun c6 e => ?_)
  · refine gy_icmp_ge (tgt := 103) (gi_rgS g5) (by decide) dX3_findBeginnings_38 (by decide) (fun _ => ?_) (fun z => absurd c6 z)
    cases e
    exact gx_vret dX3_findBeginnings_103 rfl ⟨Nat.le_of_ble_eq_true rfl, Nat.le_of_ble_eq_true rfl⟩ (fun z => z)
  · refine gy_icmp_ge (tgt := 103) (gi_rgS g5) (by decide) dX3_findBeginnings_38 (by decide) (fun z => absurd z c6) (fun _ => ?_)
    refine gx_iload_n dX3_findBeginnings_41 rfl 1 rfl ?_
    refine gx_bE e (fun _ g7 e => ?_)
    refine gx_iE e (fun c8 e => ?_) (fun c8 e => ?_)
    · refine gy_if_eq (tgt := 103) (gi_rgS g7) dX3_findBeginnings_42 (by decide) (fun _ => ?_) (fun z => absurd c8 z)
      cases e
      exact gx_vret dX3_findBeginnings_103 rfl ⟨Nat.le_of_ble_eq_true rfl, Nat.le_of_ble_eq_true rfl⟩ (fun z => z)
    · refine gy_if_eq (tgt := 103) (gi_rgS g7) dX3_findBeginnings_42 (by decide) (fun z => absurd z c8) (fun _ => ?_)
      refine gy_iconst dX3_findBeginnings_45 ?_
      refine gx_istore_n (ls2 := [(1, .int (gI (0 : Int))), (0, .ref v0), (2, .int (gI v2))]) dX3_findBeginnings_46 rfl (Nat.le_of_ble_eq_true rfl) rfl ?_
      refine gy_iconst dX3_findBeginnings_47 ?_
      refine gx_istore_n (ls2 := [(3, .int (gI (0 : Int))), (1, .int (gI (0 : Int))), (0, .ref v0), (2, .int (gI v2))]) dX3_findBeginnings_48 rfl (Nat.le_of_ble_eq_true rfl) rfl ?_
      refine gx_sub (ls2 := [(0, .ref v0), (1, .int (gI (0 : Int))), (2, .int (gI v2)), (3, .int (gI (0 : Int)))]) [2, 1, 3, 0] rfl ?_
      exact zl_X3_findBeginnings_49 hr35 n _ _ _ _ _ e
def l_X3_findBeginnings_35 (n : Nat)  : Nat → Nat → Int → Int → gi_H → Option (gi_H)
  | 0, _, _, _, _ => none
  | k + 1, v0, v1, v2, h => b_X3_findBeginnings_35 n  (l_X3_findBeginnings_35 n  k) v0 v1 v2 h
theorem zl_X3_findBeginnings_35 {al : Bool} {n : Nat}  {h1 : gi_H}  : ∀ (k : Nat) (v0 : Nat) (v1 : Int) (v2 : Int) (h : gi_H), l_X3_findBeginnings_35 n  k v0 v1 v2 h = some h1 → gx_Z mX3_findBeginnings al al 0 0 35 [(0, .ref v0), (1, .int (gI v1)), (2, .int (gI v2))] [] (gi_cv h) (.inl none) (gi_cv h1)
  | 0, _, _, _, _, e => gx_0E e
  | k + 1, _, _, _, _, e => zb_X3_findBeginnings_35 (n := n)  (zl_X3_findBeginnings_35  k) e
set_option maxRecDepth 100000 in
def b_X3_findBeginnings_31 (n : Nat)  (v0 : Nat)  (h : gi_H) : Option (gi_H) :=
  l_X3_findBeginnings_35 n  n v0 (1 : Int) (0 : Int) h
set_option maxRecDepth 100000 in
theorem zb_X3_findBeginnings_31 {al : Bool} {n : Nat}  {h1 : gi_H}  {v0 : Nat}  {h : gi_H} (e : b_X3_findBeginnings_31 n v0 h = some h1) : gx_Z mX3_findBeginnings al al 0 0 31 [(0, .ref v0)] [] (gi_cv h) (.inl none) (gi_cv h1) := by
  refine gy_iconst dX3_findBeginnings_31 ?_
  refine gx_istore_n (ls2 := [(1, .int (gI (1 : Int))), (0, .ref v0)]) dX3_findBeginnings_32 rfl (Nat.le_of_ble_eq_true rfl) rfl ?_
  refine gy_iconst dX3_findBeginnings_33 ?_
  refine gx_istore_n (ls2 := [(2, .int (gI (0 : Int))), (1, .int (gI (1 : Int))), (0, .ref v0)]) dX3_findBeginnings_34 rfl (Nat.le_of_ble_eq_true rfl) rfl ?_
  refine gx_sub (ls2 := [(0, .ref v0), (1, .int (gI (1 : Int))), (2, .int (gI (0 : Int)))]) [2, 1, 0] rfl ?_
  exact zl_X3_findBeginnings_35  n _ _ _ _ e
set_option maxRecDepth 100000 in
def b_X3_findBeginnings_10 (n : Nat) (r10 : Nat → Int → gi_H → Option (gi_H)) (v0 : Nat) (v1 : Int)  (h : gi_H) : Option (gi_H) :=
  Option.bind (gi_rg v1) fun _ => if (8 : Int) ≤ v1 then (b_X3_findBeginnings_31 n  v0 h) else (Option.bind (gi_gR h v0 2 5) fun t26 => Option.bind (gi_s1 h t26 v1 (gi_shl (1 : Int) v1)) fun h27 => gx_nm (v1 + (1 : Int)) fun t28 => r10 v0 t28 h27)
set_option maxRecDepth 100000 in
theorem zb_X3_findBeginnings_10 {al : Bool} {n : Nat} {r10 : Nat → Int → gi_H → Option (gi_H)} {h1 : gi_H} (hr10 : ∀ (x0 : Nat) (x1 : Int) (hh : gi_H), r10 x0 x1 hh = some h1 → gx_Z mX3_findBeginnings al al 0 0 10 [(0, .ref x0), (1, .int (gI x1))] [] (gi_cv hh) (.inl none) (gi_cv h1)) {v0 : Nat} {v1 : Int}  {h : gi_H} (e : b_X3_findBeginnings_10 n r10 v0 v1 h = some h1) : gx_Z mX3_findBeginnings al al 0 0 10 [(0, .ref v0), (1, .int (gI v1))] [] (gi_cv h) (.inl none) (gi_cv h1) := by
  refine gx_iload_n dX3_findBeginnings_10 rfl 1 rfl ?_
  refine gy_bipush dX3_findBeginnings_11 gcb_8 ?_
  refine gx_bE e (fun _ g3 e => ?_)
  refine gx_iE e (fun c4 e => ?_) (fun c4 e => ?_)
  · refine gy_icmp_ge (tgt := 31) (gi_rgS g3) (by decide) dX3_findBeginnings_13 (by decide) (fun _ => ?_) (fun z => absurd c4 z)
    refine gx_sub (ls2 := [(0, .ref v0)]) [0] rfl ?_
    exact zb_X3_findBeginnings_31  e
  · refine gy_icmp_ge (tgt := 31) (gi_rgS g3) (by decide) dX3_findBeginnings_13 (by decide) (fun z => absurd z c4) (fun _ => ?_)
    refine gx_aload_n dX3_findBeginnings_16 rfl 0 rfl ?_
    refine gx_bE e (fun t26 ht26 e => ?_)
    refine gy_fR ht26 dX3_findBeginnings_17 gf_RX3_9_2_5 (by decide) gkN_2_5 gkR_2_5 ?_
    refine gx_iload_n dX3_findBeginnings_20 rfl 1 rfl ?_
    refine gy_iconst dX3_findBeginnings_21 ?_
    refine gx_iload_n dX3_findBeginnings_22 rfl 1 rfl ?_
    refine gy_ishl dX3_findBeginnings_23 ?_
    refine gx_bE e (fun h27 hh27 e => ?_)
    refine gy_t1 hh27 dX3_findBeginnings_24 ?_
    refine gx_nE e (fun t28 ht28 e => ?_)
    refine gy_iinc (v := t28) (ls2 := [(1, .int (gI t28)), (0, .ref v0)]) dX3_findBeginnings_25 1 rfl ht28 (Nat.le_of_ble_eq_true rfl) rfl ?_
    refine gx_goto (tgt := 10) dX3_findBeginnings_28 (by decide) ?_
    refine gx_sub (ls2 := [(0, .ref v0), (1, .int (gI t28))]) [1, 0] rfl ?_
    exact hr10 _ _ _ e
def l_X3_findBeginnings_10 (n : Nat)  : Nat → Nat → Int → gi_H → Option (gi_H)
  | 0, _, _, _ => none
  | k + 1, v0, v1, h => b_X3_findBeginnings_10 n  (l_X3_findBeginnings_10 n  k) v0 v1 h
theorem zl_X3_findBeginnings_10 {al : Bool} {n : Nat}  {h1 : gi_H}  : ∀ (k : Nat) (v0 : Nat) (v1 : Int) (h : gi_H), l_X3_findBeginnings_10 n  k v0 v1 h = some h1 → gx_Z mX3_findBeginnings al al 0 0 10 [(0, .ref v0), (1, .int (gI v1))] [] (gi_cv h) (.inl none) (gi_cv h1)
  | 0, _, _, _, e => gx_0E e
  | k + 1, _, _, _, e => zb_X3_findBeginnings_10 (n := n)  (zl_X3_findBeginnings_10  k) e
set_option maxRecDepth 100000 in
def f_X3_findBeginnings (n : Nat) (v0 : Nat) (h : gi_H) : Option (gi_H) :=
  Option.bind (gi_gR h v0 2 5) fun t1 => Option.bind (f_J7_fill_53178 n t1 (0 : Int) h) fun q2 => l_X3_findBeginnings_10 n  n v0 (0 : Int) q2
set_option maxRecDepth 100000 in
theorem z_X3_findBeginnings {al : Bool} {n : Nat} {v0 : Nat} {h : gi_H} {h1 : gi_H} (e : f_X3_findBeginnings n v0 h = some h1) : gx_Cw mX3_findBeginnings al [.ref v0] (gi_cv h) (.inl none) (gi_cv h1) := by
  refine gx_enter (by decide +kernel) rfl (Nat.le_of_ble_eq_true rfl) ?_
  show gx_Z mX3_findBeginnings al al 0 0 0 [(0, .ref v0)] [] (gi_cv h) (.inl none) (gi_cv h1)
  refine gx_aload_n dX3_findBeginnings_0 rfl 0 rfl ?_
  refine gx_bE e (fun t1 ht1 e => ?_)
  refine gy_fR ht1 dX3_findBeginnings_1 gf_RX3_9_2_5 (by decide) gkN_2_5 gkR_2_5 ?_
  refine gy_iconst dX3_findBeginnings_4 ?_
  refine gx_bE e (fun q2 hq2 e => ?_)
  refine gx_callS (n := 2) (st := []) (As := [.ref t1, .int (gI (0 : Int))]) dX3_findBeginnings_5 (z_J7_fill_53178 hq2) rfl ⟨rfl, gw_cw_J7_fill_53178, gw_5, gp_J7_fill_53178, ⟨Nat.le_of_ble_eq_true rfl, Nat.le_of_ble_eq_true rfl⟩⟩ gw_412 gw_99 ⟨Nat.le_of_ble_eq_true rfl, Nat.le_of_ble_eq_true rfl⟩ (Nat.le_of_ble_eq_true rfl) (gy_k0 (kc2 := 0) (ks2 := 0) ⟨rfl, rfl⟩ ?_) gy_kn
  refine gy_iconst dX3_findBeginnings_8 ?_
  refine gx_istore_n (ls2 := [(1, .int (gI (0 : Int))), (0, .ref v0)]) dX3_findBeginnings_9 rfl (Nat.le_of_ble_eq_true rfl) rfl ?_
  refine gx_sub (ls2 := [(0, .ref v0), (1, .int (gI (0 : Int)))]) [1, 0] rfl ?_
  exact zl_X3_findBeginnings_10  n _ _ _ e
/-! X3_behind  -/
set_option maxRecDepth 100000 in
def b_X3_behind_19    (h : gi_H) : Option (Int) :=
  some (0 : Int)
set_option maxRecDepth 100000 in
theorem zb_X3_behind_19 {al : Bool}  {res : Int}    {h : gi_H} (e : b_X3_behind_19  h = some res) : gx_Z mX3_behind al al 0 0 19 [] [] (gi_cv h) (.inl (some (.int (gI res)))) (gi_cv h) := by
  refine gy_iconst dX3_behind_19 ?_
  cases e
  exact gx_iret dX3_behind_20 rfl ⟨Nat.le_of_ble_eq_true rfl, Nat.le_of_ble_eq_true rfl⟩ (fun z => z)
set_option maxRecDepth 100000 in
def f_X3_behind (v0 : Nat) (v1 : Int) (h : gi_H) : Option (Int) :=
  Option.bind (gi_rg v1) fun _ => if v1 < 0 then (b_X3_behind_19   h) else (if (16 : Int) ≤ v1 then (b_X3_behind_19   h) else (Option.bind (gi_gR h v0 2 6) fun t4 => Option.bind (gi_aI h 1 t4 v1) fun t5 => some t5))
set_option maxRecDepth 100000 in
theorem z_X3_behind {al : Bool} {v0 : Nat} {v1 : Int} {h : gi_H} {res : Int} (e : f_X3_behind v0 v1 h = some res) : gx_Cw mX3_behind al [.ref v0, .int (gI v1)] (gi_cv h) (.inl (some (.int (gI res)))) (gi_cv h) := by
  refine gx_enter (by decide +kernel) rfl (Nat.le_of_ble_eq_true rfl) ?_
  show gx_Z mX3_behind al al 0 0 0 [(0, .ref v0), (1, .int (gI v1))] [] (gi_cv h) (.inl (some (.int (gI res)))) (gi_cv h)
  refine gx_iload_n dX3_behind_0 rfl 1 rfl ?_
  refine gx_bE e (fun _ g1 e => ?_)
  refine gx_iE e (fun c2 e => ?_) (fun c2 e => ?_)
  · refine gy_if_lt (tgt := 19) (gi_rgS g1) dX3_behind_1 (by decide) (fun _ => ?_) (fun z => absurd c2 z)
    refine gx_sub (ls2 := []) [] rfl ?_
    exact zb_X3_behind_19  e
  · refine gy_if_lt (tgt := 19) (gi_rgS g1) dX3_behind_1 (by decide) (fun z => absurd z c2) (fun _ => ?_)
    refine gx_iload_n dX3_behind_4 rfl 1 rfl ?_
    refine gy_bipush dX3_behind_5 gcb_16 ?_
    refine gx_iE e (fun c3 e => ?_) (fun c3 e => ?_)
    · refine gy_icmp_ge (tgt := 19) (gi_rgS g1) (by decide) dX3_behind_7 (by decide) (fun _ => ?_) (fun z => absurd c3 z)
      refine gx_sub (ls2 := []) [] rfl ?_
      exact zb_X3_behind_19  e
    · refine gy_icmp_ge (tgt := 19) (gi_rgS g1) (by decide) dX3_behind_7 (by decide) (fun z => absurd z c3) (fun _ => ?_)
      refine gx_aload_n dX3_behind_10 rfl 0 rfl ?_
      refine gx_bE e (fun t4 ht4 e => ?_)
      refine gy_fR ht4 dX3_behind_11 gf_RX3_15_2_6 (by decide) gkN_2_6 gkR_2_6 ?_
      refine gx_iload_n dX3_behind_14 rfl 1 rfl ?_
      refine gx_bE e (fun t5 ht5 e => ?_)
      refine gy_l1 ht5 dX3_behind_15 ?_
      refine gx_goto (tgt := 20) dX3_behind_16 (by decide) ?_
      cases e
      exact gx_iret dX3_behind_20 rfl ⟨Nat.le_of_ble_eq_true rfl, Nat.le_of_ble_eq_true rfl⟩ (fun z => z)
/-! X11_behindOf  -/
set_option maxRecDepth 100000 in
def f_X11_behindOf (v0 : Int) (v1 : Int) (h : gi_H) : Option (Int) :=
  gx_nm (gi_and v0 (255 : Int)) fun t1 => Option.bind (gi_rg (gi_and v0 (512 : Int))) fun _ => if (gi_and v0 (512 : Int)) = 0 then (some t1) else (some (gi_or t1 v1))
set_option maxRecDepth 100000 in
theorem z_X11_behindOf {al : Bool} {v0 : Int} {v1 : Int} {h : gi_H} {res : Int} (e : f_X11_behindOf v0 v1 h = some res) : gx_Cw mX11_behindOf al [.int (gI v0), .int (gI v1)] (gi_cv h) (.inl (some (.int (gI res)))) (gi_cv h) := by
  refine gx_enter (by decide +kernel) rfl (Nat.le_of_ble_eq_true rfl) ?_
  show gx_Z mX11_behindOf al al 0 0 0 [(0, .int (gI v0)), (1, .int (gI v1))] [] (gi_cv h) (.inl (some (.int (gI res)))) (gi_cv h)
  refine gx_iload_n dX11_behindOf_0 rfl 0 rfl ?_
  refine gy_sipush dX11_behindOf_1 gcs_255 ?_
  refine gy_iand dX11_behindOf_4 ?_
  refine gx_nE e (fun t1 ht1 e => ?_)
  rw [ht1]
  refine gx_istore_n (ls2 := [(2, .int (gI t1)), (0, .int (gI v0)), (1, .int (gI v1))]) dX11_behindOf_5 rfl (Nat.le_of_ble_eq_true rfl) rfl ?_
  refine gx_iload_n dX11_behindOf_6 rfl 1 rfl ?_
  refine gy_sipush dX11_behindOf_7 gcs_512 ?_
  refine gy_iand dX11_behindOf_10 ?_
  refine gx_bE e (fun _ g2 e => ?_)
  refine gx_iE e (fun c3 e => ?_) (fun c3 e => ?_)
  · refine gy_if_eq (tgt := 20) (gi_rgS g2) dX11_behindOf_11 (by decide) (fun _ => ?_) (fun z => absurd c3 z)
    refine gx_iload_n dX11_behindOf_20 rfl 0 rfl ?_
    cases e
    exact gx_iret dX11_behindOf_21 rfl ⟨Nat.le_of_ble_eq_true rfl, Nat.le_of_ble_eq_true rfl⟩ (fun z => z)
  · refine gy_if_eq (tgt := 20) (gi_rgS g2) dX11_behindOf_11 (by decide) (fun z => absurd z c3) (fun _ => ?_)
    refine gx_iload_n dX11_behindOf_14 rfl 0 rfl ?_
    refine gx_iload_n dX11_behindOf_15 rfl 2 rfl ?_
    refine gy_ior dX11_behindOf_16 ?_
    refine gx_goto (tgt := 21) dX11_behindOf_17 (by decide) ?_
    cases e
    exact gx_iret dX11_behindOf_21 rfl ⟨Nat.le_of_ble_eq_true rfl, Nat.le_of_ble_eq_true rfl⟩ (fun z => z)
/-! X3_widenBehinds  -/
set_option maxRecDepth 100000 in
def b_X3_widenBehinds_81 (n : Nat) (r4 : Nat → Int → Int → Int → gi_H → Option (Int × gi_H)) (v0 : Nat) (v1 : Int) (v2 : Int) (v3 : Int)  (h : gi_H) : Option (Int × gi_H) :=
  gx_nm (v3 + (1 : Int)) fun t14 => r4 v0 v1 v2 t14 h
set_option maxRecDepth 100000 in
theorem zb_X3_widenBehinds_81 {al : Bool} {n : Nat} {r4 : Nat → Int → Int → Int → gi_H → Option (Int × gi_H)} {res : Int} {h1 : gi_H} (hr4 : ∀ (x0 : Nat) (x1 : Int) (x2 : Int) (x3 : Int) (hh : gi_H), r4 x0 x1 x2 x3 hh = some (res, h1) → gx_Z mX3_widenBehinds al al 0 0 4 [(0, .ref x0), (1, .int (gI x1)), (2, .int (gI x2)), (3, .int (gI x3))] [] (gi_cv hh) (.inl (some (.int (gI res)))) (gi_cv h1)) {v0 : Nat} {v1 : Int} {v2 : Int} {v3 : Int}  {h : gi_H} (e : b_X3_widenBehinds_81 n r4 v0 v1 v2 v3 h = some (res, h1)) : gx_Z mX3_widenBehinds al al 0 0 81 [(0, .ref v0), (1, .int (gI v1)), (2, .int (gI v2)), (3, .int (gI v3))] [] (gi_cv h) (.inl (some (.int (gI res)))) (gi_cv h1) := by
  refine gx_nE e (fun t14 ht14 e => ?_)
  refine gy_iinc (v := t14) (ls2 := [(3, .int (gI t14)), (0, .ref v0), (1, .int (gI v1)), (2, .int (gI v2))]) dX3_widenBehinds_81 3 rfl ht14 (Nat.le_of_ble_eq_true rfl) rfl ?_
  refine gx_goto (tgt := 4) dX3_widenBehinds_84 (by decide) ?_
  refine gx_sub (ls2 := [(0, .ref v0), (1, .int (gI v1)), (2, .int (gI v2)), (3, .int (gI t14))]) [1, 2, 3, 0] rfl ?_
  exact hr4 _ _ _ _ _ e
set_option maxRecDepth 100000 in
def b_X3_widenBehinds_4 (n : Nat) (r4 : Nat → Int → Int → Int → gi_H → Option (Int × gi_H)) (v0 : Nat) (v1 : Int) (v2 : Int) (v3 : Int)  (h : gi_H) : Option (Int × gi_H) :=
  Option.bind (gi_gR h v0 2 0) fun t1 => Option.bind (gi_is h t1 3) fun _ => Option.bind (f_X4_length t1 v1 h) fun q3 => Option.bind (gi_rg v3) fun _ => Option.bind (gi_rg q3) fun _ => if q3 ≤ v3 then (Option.bind (gi_zo v2) fun _ => some (v2, h)) else (Option.bind (gi_gR h v0 2 0) fun t8 => Option.bind (gi_is h t8 3) fun _ => Option.bind (f_X4_symbol t8 v1 v3 h) fun q10 => Option.bind (f_X11_isNonterminal q10 h) fun q11 => Option.bind (gi_rg q11) fun _ => if q11 = 0 then (b_X3_widenBehinds_81 n r4 v0 v1 v2 v3 h) else (Option.bind (gi_is h v0 2) fun _ => Option.bind (f_X3_beginnings n v0 v1 (v3 + (1 : Int)) h) fun q16 => Option.bind (gi_gR h v0 2 0) fun t17 => Option.bind (gi_is h t17 3) fun _ => Option.bind (f_X4_owner t17 v1 h) fun q19 => Option.bind (gi_is h v0 2) fun _ => Option.bind (f_X3_behind v0 q19 h) fun q21 => Option.bind (f_X11_behindOf q16 q21 h) fun q22 => Option.bind (gi_gR h v0 2 6) fun t23 => Option.bind (f_X3_widen t23 (q10 - (16 : Int)) q22 h) fun q24 => gx_nm (gi_or v2 q24.1) fun t25 => b_X3_widenBehinds_81 n r4 v0 v1 t25 v3 q24.2))
set_option maxRecDepth 100000 in
theorem zb_X3_widenBehinds_4 {al : Bool} {n : Nat} {r4 : Nat → Int → Int → Int → gi_H → Option (Int × gi_H)} {res : Int} {h1 : gi_H} (hr4 : ∀ (x0 : Nat) (x1 : Int) (x2 : Int) (x3 : Int) (hh : gi_H), r4 x0 x1 x2 x3 hh = some (res, h1) → gx_Z mX3_widenBehinds al al 0 0 4 [(0, .ref x0), (1, .int (gI x1)), (2, .int (gI x2)), (3, .int (gI x3))] [] (gi_cv hh) (.inl (some (.int (gI res)))) (gi_cv h1)) {v0 : Nat} {v1 : Int} {v2 : Int} {v3 : Int}  {h : gi_H} (e : b_X3_widenBehinds_4 n r4 v0 v1 v2 v3 h = some (res, h1)) : gx_Z mX3_widenBehinds al al 0 0 4 [(0, .ref v0), (1, .int (gI v1)), (2, .int (gI v2)), (3, .int (gI v3))] [] (gi_cv h) (.inl (some (.int (gI res)))) (gi_cv h1) := by
  refine gx_iload_n dX3_widenBehinds_4 rfl 3 rfl ?_
  refine gx_aload_n dX3_widenBehinds_5 rfl 0 rfl ?_
  refine gx_bE e (fun t1 ht1 e => ?_)
  refine gy_fR ht1 dX3_widenBehinds_6 gf_RX3_37_2_0 (by decide) gkN_2_0 gkR_2_0 ?_
  refine gx_iload_n dX3_widenBehinds_9 rfl 1 rfl ?_
  refine gx_bE e (fun _ hu2 e => ?_)
  refine gx_bE e (fun q3 hq3 e => ?_)
  refine gx_callV (n := 1) (st := [.int (gI v3)]) (As := [.int (gI v1)]) (b := t1) dX3_widenBehinds_10 (z_X4_length hq3) rfl ⟨rfl, gw_cw_X4_length, gw_3, gp_X4_length, ⟨Nat.le_of_ble_eq_true rfl, Nat.le_of_ble_eq_true rfl⟩⟩ (gi_isS hu2) (by decide) gw_423 gw_424 gw_425 rfl ⟨Nat.le_of_ble_eq_true rfl, Nat.le_of_ble_eq_true rfl⟩ (Nat.le_of_ble_eq_true rfl) (gy_k1 (x := .int (gI q3)) (kc2 := 0) (ks2 := 0) ⟨rfl, rfl⟩ ?_) gy_kn
  refine gx_bE e (fun _ g4 e => ?_)
  refine gx_bE e (fun _ g5 e => ?_)
  refine gx_iE e (fun c6 e => ?_) (fun c6 e => ?_)
  · refine gy_icmp_ge (tgt := 87) (gi_rgS g4) (gi_rgS g5) dX3_widenBehinds_13 (by decide) (fun _ => ?_) (fun z => absurd c6 z)
    refine gx_iload_n dX3_widenBehinds_87 rfl 2 rfl ?_
    refine gx_bE e (fun _ hu7 e => ?_)
    cases e
    exact gx_zret (gi_zoS hu7) dX3_widenBehinds_88 rfl ⟨Nat.le_of_ble_eq_true rfl, Nat.le_of_ble_eq_true rfl⟩ (fun z => z)
  · refine gy_icmp_ge (tgt := 87) (gi_rgS g4) (gi_rgS g5) dX3_widenBehinds_13 (by decide) (fun z => absurd z c6) (fun _ => ?_)
    refine gx_aload_n dX3_widenBehinds_16 rfl 0 rfl ?_
    refine gx_bE e (fun t8 ht8 e => ?_)
    refine gy_fR ht8 dX3_widenBehinds_17 gf_RX3_37_2_0 (by decide) gkN_2_0 gkR_2_0 ?_
    refine gx_iload_n dX3_widenBehinds_20 rfl 1 rfl ?_
    refine gx_iload_n dX3_widenBehinds_21 rfl 3 rfl ?_
    refine gx_bE e (fun _ hu9 e => ?_)
    refine gx_bE e (fun q10 hq10 e => ?_)
    refine gx_callV (n := 2) (st := []) (As := [.int (gI v1), .int (gI v3)]) (b := t8) dX3_widenBehinds_22 (z_X4_symbol hq10) rfl ⟨rfl, gw_cw_X4_symbol, gw_3, gp_X4_symbol, ⟨Nat.le_of_ble_eq_true rfl, Nat.le_of_ble_eq_true rfl⟩⟩ (gi_isS hu9) (by decide) gw_427 gw_428 gw_429 rfl ⟨Nat.le_of_ble_eq_true rfl, Nat.le_of_ble_eq_true rfl⟩ (Nat.le_of_ble_eq_true rfl) (gy_k1 (x := .int (gI q10)) (kc2 := 0) (ks2 := 0) ⟨rfl, rfl⟩ ?_) gy_kn
    refine gx_istore (ls2 := [(4, .int (gI q10)), (0, .ref v0), (1, .int (gI v1)), (2, .int (gI v2)), (3, .int (gI v3))]) dX3_widenBehinds_25 (Nat.le_of_ble_eq_true rfl) rfl ?_
    refine gx_iload dX3_widenBehinds_27 0 rfl ?_
    refine gx_bE e (fun q11 hq11 e => ?_)
    refine gx_callSN (n := 1) (st := []) (As := [.int (gI q10)]) dX3_widenBehinds_29 (z_X11_isNonterminal hq11) rfl ⟨rfl, gw_cw_X11_isNonterminal, gw_1, gp_X11_isNonterminal, ⟨Nat.le_of_ble_eq_true rfl, Nat.le_of_ble_eq_true rfl⟩⟩ (host := "Grammarsmith") (by decide +kernel) gw_451 ⟨Nat.le_of_ble_eq_true rfl, Nat.le_of_ble_eq_true rfl⟩ (Nat.le_of_ble_eq_true rfl) (gy_k1 (x := .int (gI q11)) (kc2 := 0) (ks2 := 0) ⟨rfl, rfl⟩ ?_) gy_kn
    refine gx_bE e (fun _ g12 e => ?_)
    refine gx_iE e (fun c13 e => ?_) (fun c13 e => ?_)
    · refine gy_if_eq (tgt := 81) (gi_rgS g12) dX3_widenBehinds_32 (by decide) (fun _ => ?_) (fun z => absurd c13 z)
      refine gx_sub (ls2 := [(0, .ref v0), (1, .int (gI v1)), (2, .int (gI v2)), (3, .int (gI v3))]) [1, 2, 3, 4] rfl ?_
      exact zb_X3_widenBehinds_81 hr4 e
    · refine gy_if_eq (tgt := 81) (gi_rgS g12) dX3_widenBehinds_32 (by decide) (fun z => absurd z c13) (fun _ => ?_)
      refine gx_aload_n dX3_widenBehinds_35 rfl 1 rfl ?_
      refine gx_iload_n dX3_widenBehinds_36 rfl 2 rfl ?_
      refine gx_iload_n dX3_widenBehinds_37 rfl 4 rfl ?_
      refine gy_iconst dX3_widenBehinds_38 ?_
      refine gy_iadd dX3_widenBehinds_39 ?_
      refine gx_bE e (fun _ hu15 e => ?_)
      refine gx_bE e (fun q16 hq16 e => ?_)
      refine gx_callV (n := 2) (st := []) (As := [.int (gI v1), .int (gI (v3 + (1 : Int)))]) (b := v0) dX3_widenBehinds_40 (z_X3_beginnings hq16) rfl ⟨rfl, gw_cw_X3_beginnings, gw_6, gp_X3_beginnings, ⟨Nat.le_of_ble_eq_true rfl, Nat.le_of_ble_eq_true rfl⟩⟩ (gi_isS hu15) (by decide) gw_419 gw_421 gs_2 rfl ⟨Nat.le_of_ble_eq_true rfl, Nat.le_of_ble_eq_true rfl⟩ (Nat.le_of_ble_eq_true rfl) (gy_k1 (x := .int (gI q16)) (kc2 := 0) (ks2 := 0) ⟨rfl, rfl⟩ ?_) gy_kn
      refine gx_istore (ls2 := [(5, .int (gI q16)), (4, .int (gI q10)), (0, .ref v0), (1, .int (gI v1)), (2, .int (gI v2)), (3, .int (gI v3))]) dX3_widenBehinds_43 (Nat.le_of_ble_eq_true rfl) rfl ?_
      refine gx_iload dX3_widenBehinds_45 0 rfl ?_
      refine gx_aload_n dX3_widenBehinds_47 rfl 2 rfl ?_
      refine gx_aload_n dX3_widenBehinds_48 rfl 2 rfl ?_
      refine gx_bE e (fun t17 ht17 e => ?_)
      refine gy_fR ht17 dX3_widenBehinds_49 gf_RX3_37_2_0 (by decide) gkN_2_0 gkR_2_0 ?_
      refine gx_iload_n dX3_widenBehinds_52 rfl 3 rfl ?_
      refine gx_bE e (fun _ hu18 e => ?_)
      refine gx_bE e (fun q19 hq19 e => ?_)
      refine gx_callV (n := 1) (st := [.ref v0, .int (gI q16)]) (As := [.int (gI v1)]) (b := t17) dX3_widenBehinds_53 (z_X4_owner hq19) rfl ⟨rfl, gw_cw_X4_owner, gw_3, gp_X4_owner, ⟨Nat.le_of_ble_eq_true rfl, Nat.le_of_ble_eq_true rfl⟩⟩ (gi_isS hu18) (by decide) gw_415 gw_416 gw_417 rfl ⟨Nat.le_of_ble_eq_true rfl, Nat.le_of_ble_eq_true rfl⟩ (Nat.le_of_ble_eq_true rfl) (gy_k1 (x := .int (gI q19)) (kc2 := 0) (ks2 := 0) ⟨rfl, rfl⟩ ?_) gy_kn
      refine gx_bE e (fun _ hu20 e => ?_)
      refine gx_bE e (fun q21 hq21 e => ?_)
      refine gx_callV (n := 1) (st := [.int (gI q16)]) (As := [.int (gI q19)]) (b := v0) dX3_widenBehinds_56 (z_X3_behind hq21) rfl ⟨rfl, gw_cw_X3_behind, gw_6, gp_X3_behind, ⟨Nat.le_of_ble_eq_true rfl, Nat.le_of_ble_eq_true rfl⟩⟩ (gi_isS hu20) (by decide) gw_453 gw_454 gw_455 rfl ⟨Nat.le_of_ble_eq_true rfl, Nat.le_of_ble_eq_true rfl⟩ (Nat.le_of_ble_eq_true rfl) (gy_k1 (x := .int (gI q21)) (kc2 := 0) (ks2 := 0) ⟨rfl, rfl⟩ ?_) gy_kn
      refine gx_bE e (fun q22 hq22 e => ?_)
      refine gx_callSN (n := 2) (st := []) (As := [.int (gI q16), .int (gI q21)]) dX3_widenBehinds_59 (z_X11_behindOf hq22) rfl ⟨rfl, gw_cw_X11_behindOf, gw_1, gp_X11_behindOf, ⟨Nat.le_of_ble_eq_true rfl, Nat.le_of_ble_eq_true rfl⟩⟩ (host := "Grammarsmith") (by decide +kernel) gw_458 ⟨Nat.le_of_ble_eq_true rfl, Nat.le_of_ble_eq_true rfl⟩ (Nat.le_of_ble_eq_true rfl) (gy_k1 (x := .int (gI q22)) (kc2 := 0) (ks2 := 0) ⟨rfl, rfl⟩ ?_) gy_kn
      refine gx_istore (ls2 := [(6, .int (gI q22)), (5, .int (gI q16)), (4, .int (gI q10)), (0, .ref v0), (1, .int (gI v1)), (2, .int (gI v2)), (3, .int (gI v3))]) dX3_widenBehinds_62 (Nat.le_of_ble_eq_true rfl) rfl ?_
      refine gx_iload_n dX3_widenBehinds_64 rfl 5 rfl ?_
      refine gx_aload_n dX3_widenBehinds_65 rfl 3 rfl ?_
      refine gx_bE e (fun t23 ht23 e => ?_)
      refine gy_fR ht23 dX3_widenBehinds_66 gf_RX3_15_2_6 (by decide) gkN_2_6 gkR_2_6 ?_
      refine gx_iload dX3_widenBehinds_69 2 rfl ?_
      refine gy_bipush dX3_widenBehinds_71 gcb_16 ?_
      refine gy_isub dX3_widenBehinds_73 ?_
      refine gx_iload dX3_widenBehinds_74 0 rfl ?_
      refine gx_bE e (fun q24 hq24 e => ?_)
      refine gx_callS (n := 3) (st := [.int (gI v2)]) (As := [.ref t23, .int (gI (q10 - (16 : Int))), .int (gI q22)]) dX3_widenBehinds_76 (z_X3_widen hq24) rfl ⟨rfl, gw_cw_X3_widen, gw_6, gp_X3_widen, ⟨Nat.le_of_ble_eq_true rfl, Nat.le_of_ble_eq_true rfl⟩⟩ gw_435 gw_436 ⟨Nat.le_of_ble_eq_true rfl, Nat.le_of_ble_eq_true rfl⟩ (Nat.le_of_ble_eq_true rfl) (gy_k1 (x := .int (gI q24.1)) (kc2 := 0) (ks2 := 0) ⟨rfl, rfl⟩ ?_) gy_kn
      refine gy_ior dX3_widenBehinds_79 ?_
      refine gx_nE e (fun t25 ht25 e => ?_)
      rw [ht25]
      refine gx_istore_n (ls2 := [(2, .int (gI t25)), (6, .int (gI q22)), (5, .int (gI q16)), (4, .int (gI q10)), (0, .ref v0), (1, .int (gI v1)), (3, .int (gI v3))]) dX3_widenBehinds_80 rfl (Nat.le_of_ble_eq_true rfl) rfl ?_
      refine gx_sub (ls2 := [(0, .ref v0), (1, .int (gI v1)), (2, .int (gI t25)), (3, .int (gI v3))]) [4, 5, 0, 6] rfl ?_
      exact zb_X3_widenBehinds_81 hr4 e
def l_X3_widenBehinds_4 (n : Nat)  : Nat → Nat → Int → Int → Int → gi_H → Option (Int × gi_H)
  | 0, _, _, _, _, _ => none
  | k + 1, v0, v1, v2, v3, h => b_X3_widenBehinds_4 n  (l_X3_widenBehinds_4 n  k) v0 v1 v2 v3 h
theorem zl_X3_widenBehinds_4 {al : Bool} {n : Nat}  {res : Int} {h1 : gi_H}  : ∀ (k : Nat) (v0 : Nat) (v1 : Int) (v2 : Int) (v3 : Int) (h : gi_H), l_X3_widenBehinds_4 n  k v0 v1 v2 v3 h = some (res, h1) → gx_Z mX3_widenBehinds al al 0 0 4 [(0, .ref v0), (1, .int (gI v1)), (2, .int (gI v2)), (3, .int (gI v3))] [] (gi_cv h) (.inl (some (.int (gI res)))) (gi_cv h1)
  | 0, _, _, _, _, _, e => gx_0E e
  | k + 1, _, _, _, _, _, e => zb_X3_widenBehinds_4 (n := n)  (zl_X3_widenBehinds_4  k) e
set_option maxRecDepth 100000 in
def f_X3_widenBehinds (n : Nat) (v0 : Nat) (v1 : Int) (h : gi_H) : Option (Int × gi_H) :=
  l_X3_widenBehinds_4 n  n v0 v1 (0 : Int) (0 : Int) h
set_option maxRecDepth 100000 in
theorem z_X3_widenBehinds {al : Bool} {n : Nat} {v0 : Nat} {v1 : Int} {h : gi_H} {res : Int} {h1 : gi_H} (e : f_X3_widenBehinds n v0 v1 h = some (res, h1)) : gx_Cw mX3_widenBehinds al [.ref v0, .int (gI v1)] (gi_cv h) (.inl (some (.int (gI res)))) (gi_cv h1) := by
  refine gx_enter (by decide +kernel) rfl (Nat.le_of_ble_eq_true rfl) ?_
  show gx_Z mX3_widenBehinds al al 0 0 0 [(0, .ref v0), (1, .int (gI v1))] [] (gi_cv h) (.inl (some (.int (gI res)))) (gi_cv h1)
  refine gy_iconst dX3_widenBehinds_0 ?_
  refine gx_istore_n (ls2 := [(2, .int (gI (0 : Int))), (0, .ref v0), (1, .int (gI v1))]) dX3_widenBehinds_1 rfl (Nat.le_of_ble_eq_true rfl) rfl ?_
  refine gy_iconst dX3_widenBehinds_2 ?_
  refine gx_istore_n (ls2 := [(3, .int (gI (0 : Int))), (2, .int (gI (0 : Int))), (0, .ref v0), (1, .int (gI v1))]) dX3_widenBehinds_3 rfl (Nat.le_of_ble_eq_true rfl) rfl ?_
  refine gx_sub (ls2 := [(0, .ref v0), (1, .int (gI v1)), (2, .int (gI (0 : Int))), (3, .int (gI (0 : Int)))]) [2, 3, 1, 0] rfl ?_
  exact zl_X3_widenBehinds_4  n _ _ _ _ _ e
/-! X3_findBehinds  -/
set_option maxRecDepth 100000 in
def b_X3_findBehinds_69 (n : Nat) (r30 : Nat → Int → Int → gi_H → Option (gi_H)) (v0 : Nat) (v1 : Int) (v2 : Int)  (h : gi_H) : Option (gi_H) :=
  gx_nm (v2 + (1 : Int)) fun t18 => r30 v0 v1 t18 h
set_option maxRecDepth 100000 in
theorem zb_X3_findBehinds_69 {al : Bool} {n : Nat} {r30 : Nat → Int → Int → gi_H → Option (gi_H)} {h1 : gi_H} (hr30 : ∀ (x0 : Nat) (x1 : Int) (x2 : Int) (hh : gi_H), r30 x0 x1 x2 hh = some h1 → gx_Z mX3_findBehinds al al 0 0 30 [(0, .ref x0), (1, .int (gI x1)), (2, .int (gI x2))] [] (gi_cv hh) (.inl none) (gi_cv h1)) {v0 : Nat} {v1 : Int} {v2 : Int}  {h : gi_H} (e : b_X3_findBehinds_69 n r30 v0 v1 v2 h = some h1) : gx_Z mX3_findBehinds al al 0 0 69 [(0, .ref v0), (1, .int (gI v1)), (2, .int (gI v2))] [] (gi_cv h) (.inl none) (gi_cv h1) := by
  refine gx_nE e (fun t18 ht18 e => ?_)
  refine gy_iinc (v := t18) (ls2 := [(2, .int (gI t18)), (0, .ref v0), (1, .int (gI v1))]) dX3_findBehinds_69 2 rfl ht18 (Nat.le_of_ble_eq_true rfl) rfl ?_
  refine gx_goto (tgt := 30) dX3_findBehinds_72 (by decide) ?_
  refine gx_sub (ls2 := [(0, .ref v0), (1, .int (gI v1)), (2, .int (gI t18))]) [1, 2, 0] rfl ?_
  exact hr30 _ _ _ _ e
set_option maxRecDepth 100000 in
def b_X3_findBehinds_44 (n : Nat) (r30 : Nat → Int → Int → gi_H → Option (gi_H)) (r44 : Nat → Int → Int → Int → gi_H → Option (gi_H)) (v0 : Nat) (v1 : Int) (v2 : Int) (v3 : Int)  (h : gi_H) : Option (gi_H) :=
  Option.bind (gi_gR h v0 2 0) fun t12 => Option.bind (gi_is h t12 3) fun _ => Option.bind (f_X4_count t12 h) fun q14 => Option.bind (gi_rg v3) fun _ => Option.bind (gi_rg q14) fun _ => if q14 ≤ v3 then (b_X3_findBehinds_69 n r30 v0 v1 v2 h) else (Option.bind (gi_is h v0 2) fun _ => Option.bind (f_X3_widenBehinds n v0 v3 h) fun q20 => gx_nm (gi_or v1 q20.1) fun t21 => gx_nm (v3 + (1 : Int)) fun t22 => r44 v0 t21 v2 t22 q20.2)
set_option maxRecDepth 100000 in
theorem zb_X3_findBehinds_44 {al : Bool} {n : Nat} {r30 : Nat → Int → Int → gi_H → Option (gi_H)} {r44 : Nat → Int → Int → Int → gi_H → Option (gi_H)} {h1 : gi_H} (hr30 : ∀ (x0 : Nat) (x1 : Int) (x2 : Int) (hh : gi_H), r30 x0 x1 x2 hh = some h1 → gx_Z mX3_findBehinds al al 0 0 30 [(0, .ref x0), (1, .int (gI x1)), (2, .int (gI x2))] [] (gi_cv hh) (.inl none) (gi_cv h1)) (hr44 : ∀ (x0 : Nat) (x1 : Int) (x2 : Int) (x3 : Int) (hh : gi_H), r44 x0 x1 x2 x3 hh = some h1 → gx_Z mX3_findBehinds al al 0 0 44 [(0, .ref x0), (1, .int (gI x1)), (2, .int (gI x2)), (3, .int (gI x3))] [] (gi_cv hh) (.inl none) (gi_cv h1)) {v0 : Nat} {v1 : Int} {v2 : Int} {v3 : Int}  {h : gi_H} (e : b_X3_findBehinds_44 n r30 r44 v0 v1 v2 v3 h = some h1) : gx_Z mX3_findBehinds al al 0 0 44 [(0, .ref v0), (1, .int (gI v1)), (2, .int (gI v2)), (3, .int (gI v3))] [] (gi_cv h) (.inl none) (gi_cv h1) := by
  refine gx_iload_n dX3_findBehinds_44 rfl 3 rfl ?_
  refine gx_aload_n dX3_findBehinds_45 rfl 0 rfl ?_
  refine gx_bE e (fun t12 ht12 e => ?_)
  refine gy_fR ht12 dX3_findBehinds_46 gf_RX3_37_2_0 (by decide) gkN_2_0 gkR_2_0 ?_
  refine gx_bE e (fun _ hu13 e => ?_)
  refine gx_bE e (fun q14 hq14 e => ?_)
  refine gx_callV (n := 0) (st := [.int (gI v3)]) (As := []) (b := t12) dX3_findBehinds_49 (z_X4_count hq14) rfl ⟨rfl, gw_cw_X4_count, gw_3, gp_X4_count, ⟨Nat.le_of_ble_eq_true rfl, Nat.le_of_ble_eq_true rfl⟩⟩ (gi_isS hu13) (by decide) gw_414 gw_393 gw_394 rfl ⟨Nat.le_of_ble_eq_true rfl, Nat.le_of_ble_eq_true rfl⟩ (Nat.le_of_ble_eq_true rfl) (gy_k1 (x := .int (gI q14)) (kc2 := 0) (ks2 := 0) ⟨rfl, rfl⟩ ?_) gy_kn
  refine gx_bE e (fun _ g15 e => ?_)
  refine gx_bE e (fun _ g16 e => ?_)
  refine gx_iE e (fun c17 e => ?_) (fun c17 e => ?_)
  · refine gy_icmp_ge (tgt := 69) (gi_rgS g15) (gi_rgS g16) dX3_findBehinds_52 (by decide) (fun _ => ?_) (fun z => absurd c17 z)
    refine gx_sub (ls2 := [(0, .ref v0), (1, .int (gI v1)), (2, .int (gI v2))]) [0, 1, 2] rfl ?_
    exact zb_X3_findBehinds_69 hr30 e
  · refine gy_icmp_ge (tgt := 69) (gi_rgS g15) (gi_rgS g16) dX3_findBehinds_52 (by decide) (fun z => absurd z c17) (fun _ => ?_)
    refine gx_iload_n dX3_findBehinds_55 rfl 1 rfl ?_
    refine gx_aload_n dX3_findBehinds_56 rfl 0 rfl ?_
    refine gx_iload_n dX3_findBehinds_57 rfl 3 rfl ?_
    refine gx_bE e (fun _ hu19 e => ?_)
    refine gx_bE e (fun q20 hq20 e => ?_)
    refine gx_callV (n := 1) (st := [.int (gI v1)]) (As := [.int (gI v3)]) (b := v0) dX3_findBehinds_58 (z_X3_widenBehinds hq20) rfl ⟨rfl, gw_cw_X3_widenBehinds, gw_6, gp_X3_widenBehinds, ⟨Nat.le_of_ble_eq_true rfl, Nat.le_of_ble_eq_true rfl⟩⟩ (gi_isS hu19) (by decide) gw_446 gw_448 gs_5 rfl ⟨Nat.le_of_ble_eq_true rfl, Nat.le_of_ble_eq_true rfl⟩ (Nat.le_of_ble_eq_true rfl) (gy_k1 (x := .int (gI q20.1)) (kc2 := 0) (ks2 := 0) ⟨rfl, rfl⟩ ?_) gy_kn
    refine gy_ior dX3_findBehinds_61 ?_
    refine gx_nE e (fun t21 ht21 e => ?_)
    rw [ht21]
    refine gx_istore_n (ls2 := [(1, .int (gI t21)), (0, .ref v0), (2, .int (gI v2)), (3, .int (gI v3))]) dX3_findBehinds_62 rfl (Nat.le_of_ble_eq_true rfl) rfl ?_
    refine gx_nE e (fun t22 ht22 e => ?_)
    refine gy_iinc (v := t22) (ls2 := [(3, .int (gI t22)), (1, .int (gI t21)), (0, .ref v0), (2, .int (gI v2))]) dX3_findBehinds_63 3 rfl ht22 (Nat.le_of_ble_eq_true rfl) rfl ?_
    refine gx_goto (tgt := 44) dX3_findBehinds_66 (by decide) ?_
    refine gx_sub (ls2 := [(0, .ref v0), (1, .int (gI t21)), (2, .int (gI v2)), (3, .int (gI t22))]) [2, 1, 3, 0] rfl ?_
    exact hr44 _ _ _ _ _ e
def l_X3_findBehinds_44 (n : Nat) (r30 : Nat → Int → Int → gi_H → Option (gi_H)) : Nat → Nat → Int → Int → Int → gi_H → Option (gi_H)
  | 0, _, _, _, _, _ => none
  | k + 1, v0, v1, v2, v3, h => b_X3_findBehinds_44 n r30 (l_X3_findBehinds_44 n r30 k) v0 v1 v2 v3 h
theorem zl_X3_findBehinds_44 {al : Bool} {n : Nat} {r30 : Nat → Int → Int → gi_H → Option (gi_H)} {h1 : gi_H} (hr30 : ∀ (x0 : Nat) (x1 : Int) (x2 : Int) (hh : gi_H), r30 x0 x1 x2 hh = some h1 → gx_Z mX3_findBehinds al al 0 0 30 [(0, .ref x0), (1, .int (gI x1)), (2, .int (gI x2))] [] (gi_cv hh) (.inl none) (gi_cv h1)) : ∀ (k : Nat) (v0 : Nat) (v1 : Int) (v2 : Int) (v3 : Int) (h : gi_H), l_X3_findBehinds_44 n r30 k v0 v1 v2 v3 h = some h1 → gx_Z mX3_findBehinds al al 0 0 44 [(0, .ref v0), (1, .int (gI v1)), (2, .int (gI v2)), (3, .int (gI v3))] [] (gi_cv h) (.inl none) (gi_cv h1)
  | 0, _, _, _, _, _, e => gx_0E e
  | k + 1, _, _, _, _, _, e => zb_X3_findBehinds_44 (n := n) hr30 (zl_X3_findBehinds_44 hr30 k) e
set_option maxRecDepth 100000 in
def b_X3_findBehinds_30 (n : Nat) (r30 : Nat → Int → Int → gi_H → Option (gi_H)) (v0 : Nat) (v1 : Int) (v2 : Int)  (h : gi_H) : Option (gi_H) :=
  Option.bind (gi_rg v2) fun _ => if (1000000 : Int) ≤ v2 then (some h) else (Option.bind (gi_rg v1) fun _ => if v1 = 0 then (some h) else (l_X3_findBehinds_44 n r30 n v0 (0 : Int) v2 (0 : Int) h))
set_option maxRecDepth 100000 in
theorem zb_X3_findBehinds_30 {al : Bool} {n : Nat} {r30 : Nat → Int → Int → gi_H → Option (gi_H)} {h1 : gi_H} (hr30 : ∀ (x0 : Nat) (x1 : Int) (x2 : Int) (hh : gi_H), r30 x0 x1 x2 hh = some h1 → gx_Z mX3_findBehinds al al 0 0 30 [(0, .ref x0), (1, .int (gI x1)), (2, .int (gI x2))] [] (gi_cv hh) (.inl none) (gi_cv h1)) {v0 : Nat} {v1 : Int} {v2 : Int}  {h : gi_H} (e : b_X3_findBehinds_30 n r30 v0 v1 v2 h = some h1) : gx_Z mX3_findBehinds al al 0 0 30 [(0, .ref v0), (1, .int (gI v1)), (2, .int (gI v2))] [] (gi_cv h) (.inl none) (gi_cv h1) := by
  refine gx_iload_n dX3_findBehinds_30 rfl 2 rfl ?_
  refine gy_ldc (n := 1000000) dX3_findBehinds_31 gw_413 (by decide +kernel) ?_
  refine gx_bE e (fun _ g8 e => ?_)
  refine gx_iE e (fun c9 e => ?_) (fun c9 e => ?_)
  · refine gy_icmp_ge (tgt := 75) (gi_rgS g8) (by decide) dX3_findBehinds_33 (by decide) (fun _ => ?_) (fun z => absurd c9 z)
    cases e
    exact gx_vret dX3_findBehinds_75 rfl ⟨Nat.le_of_ble_eq_true rfl, Nat.le_of_ble_eq_true rfl⟩ (fun z => z)
  · refine gy_icmp_ge (tgt := 75) (gi_rgS g8) (by decide) dX3_findBehinds_33 (by decide) (fun z => absurd z c9) (fun _ => ?_)
    refine gx_iload_n dX3_findBehinds_36 rfl 1 rfl ?_
    refine gx_bE e (fun _ g10 e => ?_)
    refine gx_iE e (fun c11 e => ?_) (fun c11 e => ?_)
    · refine gy_if_eq (tgt := 75) (gi_rgS g10) dX3_findBehinds_37 (by decide) (fun _ => ?_) (fun z => absurd c11 z)
      cases e
      exact gx_vret dX3_findBehinds_75 rfl ⟨Nat.le_of_ble_eq_true rfl, Nat.le_of_ble_eq_true rfl⟩ (fun z => z)
    · refine gy_if_eq (tgt := 75) (gi_rgS g10) dX3_findBehinds_37 (by decide) (fun z => absurd z c11) (fun _ => ?_)
      refine gy_iconst dX3_findBehinds_40 ?_
      refine gx_istore_n (ls2 := [(1, .int (gI (0 : Int))), (0, .ref v0), (2, .int (gI v2))]) dX3_findBehinds_41 rfl (Nat.le_of_ble_eq_true rfl) rfl ?_
      refine gy_iconst dX3_findBehinds_42 ?_
      refine gx_istore_n (ls2 := [(3, .int (gI (0 : Int))), (1, .int (gI (0 : Int))), (0, .ref v0), (2, .int (gI v2))]) dX3_findBehinds_43 rfl (Nat.le_of_ble_eq_true rfl) rfl ?_
      refine gx_sub (ls2 := [(0, .ref v0), (1, .int (gI (0 : Int))), (2, .int (gI v2)), (3, .int (gI (0 : Int)))]) [2, 1, 3, 0] rfl ?_
      exact zl_X3_findBehinds_44 hr30 n _ _ _ _ _ e
def l_X3_findBehinds_30 (n : Nat)  : Nat → Nat → Int → Int → gi_H → Option (gi_H)
  | 0, _, _, _, _ => none
  | k + 1, v0, v1, v2, h => b_X3_findBehinds_30 n  (l_X3_findBehinds_30 n  k) v0 v1 v2 h
theorem zl_X3_findBehinds_30 {al : Bool} {n : Nat}  {h1 : gi_H}  : ∀ (k : Nat) (v0 : Nat) (v1 : Int) (v2 : Int) (h : gi_H), l_X3_findBehinds_30 n  k v0 v1 v2 h = some h1 → gx_Z mX3_findBehinds al al 0 0 30 [(0, .ref v0), (1, .int (gI v1)), (2, .int (gI v2))] [] (gi_cv h) (.inl none) (gi_cv h1)
  | 0, _, _, _, _, e => gx_0E e
  | k + 1, _, _, _, _, e => zb_X3_findBehinds_30 (n := n)  (zl_X3_findBehinds_30  k) e
set_option maxRecDepth 100000 in
def f_X3_findBehinds (n : Nat) (v0 : Nat) (h : gi_H) : Option (gi_H) :=
  Option.bind (gi_gR h v0 2 6) fun t1 => Option.bind (f_J7_fill_53178 n t1 (0 : Int) h) fun q2 => Option.bind (gi_gR q2 v0 2 6) fun t3 => Option.bind (gi_gR q2 v0 2 0) fun t4 => Option.bind (gi_is q2 t4 3) fun _ => Option.bind (f_X4_top t4 q2) fun q6 => Option.bind (f_X3_widen t3 q6 (256 : Int) q2) fun q7 => l_X3_findBehinds_30 n  n v0 (1 : Int) (0 : Int) q7.2
set_option maxRecDepth 100000 in
theorem z_X3_findBehinds {al : Bool} {n : Nat} {v0 : Nat} {h : gi_H} {h1 : gi_H} (e : f_X3_findBehinds n v0 h = some h1) : gx_Cw mX3_findBehinds al [.ref v0] (gi_cv h) (.inl none) (gi_cv h1) := by
  refine gx_enter (by decide +kernel) rfl (Nat.le_of_ble_eq_true rfl) ?_
  show gx_Z mX3_findBehinds al al 0 0 0 [(0, .ref v0)] [] (gi_cv h) (.inl none) (gi_cv h1)
  refine gx_aload_n dX3_findBehinds_0 rfl 0 rfl ?_
  refine gx_bE e (fun t1 ht1 e => ?_)
  refine gy_fR ht1 dX3_findBehinds_1 gf_RX3_15_2_6 (by decide) gkN_2_6 gkR_2_6 ?_
  refine gy_iconst dX3_findBehinds_4 ?_
  refine gx_bE e (fun q2 hq2 e => ?_)
  refine gx_callS (n := 2) (st := []) (As := [.ref t1, .int (gI (0 : Int))]) dX3_findBehinds_5 (z_J7_fill_53178 hq2) rfl ⟨rfl, gw_cw_J7_fill_53178, gw_5, gp_J7_fill_53178, ⟨Nat.le_of_ble_eq_true rfl, Nat.le_of_ble_eq_true rfl⟩⟩ gw_412 gw_99 ⟨Nat.le_of_ble_eq_true rfl, Nat.le_of_ble_eq_true rfl⟩ (Nat.le_of_ble_eq_true rfl) (gy_k0 (kc2 := 0) (ks2 := 0) ⟨rfl, rfl⟩ ?_) gy_kn
  refine gx_aload_n dX3_findBehinds_8 rfl 0 rfl ?_
  refine gx_bE e (fun t3 ht3 e => ?_)
  refine gy_fR ht3 dX3_findBehinds_9 gf_RX3_15_2_6 (by decide) gkN_2_6 gkR_2_6 ?_
  refine gx_aload_n dX3_findBehinds_12 rfl 0 rfl ?_
  refine gx_bE e (fun t4 ht4 e => ?_)
  refine gy_fR ht4 dX3_findBehinds_13 gf_RX3_37_2_0 (by decide) gkN_2_0 gkR_2_0 ?_
  refine gx_bE e (fun _ hu5 e => ?_)
  refine gx_bE e (fun q6 hq6 e => ?_)
  refine gx_callV (n := 0) (st := [.ref t3]) (As := []) (b := t4) dX3_findBehinds_16 (z_X4_top hq6) rfl ⟨rfl, gw_cw_X4_top, gw_3, gp_X4_top, ⟨Nat.le_of_ble_eq_true rfl, Nat.le_of_ble_eq_true rfl⟩⟩ (gi_isS hu5) (by decide) gw_442 gw_443 gw_444 rfl ⟨Nat.le_of_ble_eq_true rfl, Nat.le_of_ble_eq_true rfl⟩ (Nat.le_of_ble_eq_true rfl) (gy_k1 (x := .int (gI q6)) (kc2 := 0) (ks2 := 0) ⟨rfl, rfl⟩ ?_) gy_kn
  refine gy_sipush dX3_findBehinds_19 gcs_256 ?_
  refine gx_bE e (fun q7 hq7 e => ?_)
  refine gx_callS (n := 3) (st := []) (As := [.ref t3, .int (gI q6), .int (gI (256 : Int))]) dX3_findBehinds_22 (z_X3_widen hq7) rfl ⟨rfl, gw_cw_X3_widen, gw_6, gp_X3_widen, ⟨Nat.le_of_ble_eq_true rfl, Nat.le_of_ble_eq_true rfl⟩⟩ gw_435 gw_436 ⟨Nat.le_of_ble_eq_true rfl, Nat.le_of_ble_eq_true rfl⟩ (Nat.le_of_ble_eq_true rfl) (gy_k1 (x := .int (gI q7.1)) (kc2 := 0) (ks2 := 0) ⟨rfl, rfl⟩ ?_) gy_kn
  refine gx_pop dX3_findBehinds_25 rfl ?_
  refine gy_iconst dX3_findBehinds_26 ?_
  refine gx_istore_n (ls2 := [(1, .int (gI (1 : Int))), (0, .ref v0)]) dX3_findBehinds_27 rfl (Nat.le_of_ble_eq_true rfl) rfl ?_
  refine gy_iconst dX3_findBehinds_28 ?_
  refine gx_istore_n (ls2 := [(2, .int (gI (0 : Int))), (1, .int (gI (1 : Int))), (0, .ref v0)]) dX3_findBehinds_29 rfl (Nat.le_of_ble_eq_true rfl) rfl ?_
  refine gx_sub (ls2 := [(0, .ref v0), (1, .int (gI (1 : Int))), (2, .int (gI (0 : Int)))]) [2, 1, 0] rfl ?_
  exact zl_X3_findBehinds_30  n _ _ _ _ e
/-! X3_relate  -/
set_option maxRecDepth 100000 in
def f_X3_relate (v0 : Nat) (v1 : Int) (v2 : Int) (h : gi_H) : Option (gi_H) :=
  Option.bind (gi_gR h v0 2 0) fun t1 => Option.bind (gi_is h t1 3) fun _ => Option.bind (f_X4_symbol t1 v1 v2 h) fun q3 => Option.bind (f_X11_isNonterminal q3 h) fun q4 => Option.bind (gi_rg q4) fun _ => if q4 = 0 then (some h) else (Option.bind (gi_gR h v0 2 11) fun t7 => Option.bind (gi_gR h v0 2 0) fun t8 => Option.bind (gi_is h t8 3) fun _ => Option.bind (f_X4_owner t8 v1 h) fun q10 => Option.bind (f_X3_widen t7 q10 (gi_shl (1 : Int) (q3 - (16 : Int))) h) fun q11 => some q11.2)
set_option maxRecDepth 100000 in
theorem z_X3_relate {al : Bool} {v0 : Nat} {v1 : Int} {v2 : Int} {h : gi_H} {h1 : gi_H} (e : f_X3_relate v0 v1 v2 h = some h1) : gx_Cw mX3_relate al [.ref v0, .int (gI v1), .int (gI v2)] (gi_cv h) (.inl none) (gi_cv h1) := by
  refine gx_enter (by decide +kernel) rfl (Nat.le_of_ble_eq_true rfl) ?_
  show gx_Z mX3_relate al al 0 0 0 [(0, .ref v0), (1, .int (gI v1)), (2, .int (gI v2))] [] (gi_cv h) (.inl none) (gi_cv h1)
  refine gx_aload_n dX3_relate_0 rfl 0 rfl ?_
  refine gx_bE e (fun t1 ht1 e => ?_)
  refine gy_fR ht1 dX3_relate_1 gf_RX3_37_2_0 (by decide) gkN_2_0 gkR_2_0 ?_
  refine gx_iload_n dX3_relate_4 rfl 1 rfl ?_
  refine gx_iload_n dX3_relate_5 rfl 2 rfl ?_
  refine gx_bE e (fun _ hu2 e => ?_)
  refine gx_bE e (fun q3 hq3 e => ?_)
  refine gx_callV (n := 2) (st := []) (As := [.int (gI v1), .int (gI v2)]) (b := t1) dX3_relate_6 (z_X4_symbol hq3) rfl ⟨rfl, gw_cw_X4_symbol, gw_3, gp_X4_symbol, ⟨Nat.le_of_ble_eq_true rfl, Nat.le_of_ble_eq_true rfl⟩⟩ (gi_isS hu2) (by decide) gw_427 gw_428 gw_429 rfl ⟨Nat.le_of_ble_eq_true rfl, Nat.le_of_ble_eq_true rfl⟩ (Nat.le_of_ble_eq_true rfl) (gy_k1 (x := .int (gI q3)) (kc2 := 0) (ks2 := 0) ⟨rfl, rfl⟩ ?_) gy_kn
  refine gx_istore_n (ls2 := [(3, .int (gI q3)), (0, .ref v0), (1, .int (gI v1)), (2, .int (gI v2))]) dX3_relate_9 rfl (Nat.le_of_ble_eq_true rfl) rfl ?_
  refine gx_iload_n dX3_relate_10 rfl 0 rfl ?_
  refine gx_bE e (fun q4 hq4 e => ?_)
  refine gx_callSN (n := 1) (st := []) (As := [.int (gI q3)]) dX3_relate_11 (z_X11_isNonterminal hq4) rfl ⟨rfl, gw_cw_X11_isNonterminal, gw_1, gp_X11_isNonterminal, ⟨Nat.le_of_ble_eq_true rfl, Nat.le_of_ble_eq_true rfl⟩⟩ (host := "Grammarsmith") (by decide +kernel) gw_451 ⟨Nat.le_of_ble_eq_true rfl, Nat.le_of_ble_eq_true rfl⟩ (Nat.le_of_ble_eq_true rfl) (gy_k1 (x := .int (gI q4)) (kc2 := 0) (ks2 := 0) ⟨rfl, rfl⟩ ?_) gy_kn
  refine gx_bE e (fun _ g5 e => ?_)
  refine gx_iE e (fun c6 e => ?_) (fun c6 e => ?_)
  · refine gy_if_eq (tgt := 39) (gi_rgS g5) dX3_relate_14 (by decide) (fun _ => ?_) (fun z => absurd c6 z)
    cases e
    exact gx_vret dX3_relate_39 rfl ⟨Nat.le_of_ble_eq_true rfl, Nat.le_of_ble_eq_true rfl⟩ (fun z => z)
  · refine gy_if_eq (tgt := 39) (gi_rgS g5) dX3_relate_14 (by decide) (fun z => absurd z c6) (fun _ => ?_)
    refine gx_aload_n dX3_relate_17 rfl 1 rfl ?_
    refine gx_bE e (fun t7 ht7 e => ?_)
    refine gy_fR ht7 dX3_relate_18 gf_RX3_28_2_11 (by decide) gkN_2_11 gkR_2_11 ?_
    refine gx_aload_n dX3_relate_21 rfl 1 rfl ?_
    refine gx_bE e (fun t8 ht8 e => ?_)
    refine gy_fR ht8 dX3_relate_22 gf_RX3_37_2_0 (by decide) gkN_2_0 gkR_2_0 ?_
    refine gx_iload_n dX3_relate_25 rfl 2 rfl ?_
    refine gx_bE e (fun _ hu9 e => ?_)
    refine gx_bE e (fun q10 hq10 e => ?_)
    refine gx_callV (n := 1) (st := [.ref t7]) (As := [.int (gI v1)]) (b := t8) dX3_relate_26 (z_X4_owner hq10) rfl ⟨rfl, gw_cw_X4_owner, gw_3, gp_X4_owner, ⟨Nat.le_of_ble_eq_true rfl, Nat.le_of_ble_eq_true rfl⟩⟩ (gi_isS hu9) (by decide) gw_415 gw_416 gw_417 rfl ⟨Nat.le_of_ble_eq_true rfl, Nat.le_of_ble_eq_true rfl⟩ (Nat.le_of_ble_eq_true rfl) (gy_k1 (x := .int (gI q10)) (kc2 := 0) (ks2 := 0) ⟨rfl, rfl⟩ ?_) gy_kn
    refine gy_iconst dX3_relate_29 ?_
    refine gx_iload_n dX3_relate_30 rfl 0 rfl ?_
    refine gy_bipush dX3_relate_31 gcb_16 ?_
    refine gy_isub dX3_relate_33 ?_
    refine gy_ishl dX3_relate_34 ?_
    refine gx_bE e (fun q11 hq11 e => ?_)
    refine gx_callS (n := 3) (st := []) (As := [.ref t7, .int (gI q10), .int (gI (gi_shl (1 : Int) (q3 - (16 : Int))))]) dX3_relate_35 (z_X3_widen hq11) rfl ⟨rfl, gw_cw_X3_widen, gw_6, gp_X3_widen, ⟨Nat.le_of_ble_eq_true rfl, Nat.le_of_ble_eq_true rfl⟩⟩ gw_435 gw_436 ⟨Nat.le_of_ble_eq_true rfl, Nat.le_of_ble_eq_true rfl⟩ (Nat.le_of_ble_eq_true rfl) (gy_k1 (x := .int (gI q11.1)) (kc2 := 0) (ks2 := 0) ⟨rfl, rfl⟩ ?_) gy_kn
    refine gx_pop dX3_relate_38 rfl ?_
    cases e
    exact gx_vret dX3_relate_39 rfl ⟨Nat.le_of_ble_eq_true rfl, Nat.le_of_ble_eq_true rfl⟩ (fun z => z)
/-! X3_closeRelation  -/
set_option maxRecDepth 100000 in
def b_X3_closeRelation_50 (n : Nat) (r2 : Nat → Int → gi_H → Option (gi_H)) (v0 : Nat) (v1 : Int)  (h : gi_H) : Option (gi_H) :=
  gx_nm (v1 + (1 : Int)) fun t5 => r2 v0 t5 h
set_option maxRecDepth 100000 in
theorem zb_X3_closeRelation_50 {al : Bool} {n : Nat} {r2 : Nat → Int → gi_H → Option (gi_H)} {h1 : gi_H} (hr2 : ∀ (x0 : Nat) (x1 : Int) (hh : gi_H), r2 x0 x1 hh = some h1 → gx_Z mX3_closeRelation al al 0 0 2 [(0, .ref x0), (1, .int (gI x1))] [] (gi_cv hh) (.inl none) (gi_cv h1)) {v0 : Nat} {v1 : Int}  {h : gi_H} (e : b_X3_closeRelation_50 n r2 v0 v1 h = some h1) : gx_Z mX3_closeRelation al al 0 0 50 [(0, .ref v0), (1, .int (gI v1))] [] (gi_cv h) (.inl none) (gi_cv h1) := by
  refine gx_nE e (fun t5 ht5 e => ?_)
  refine gy_iinc (v := t5) (ls2 := [(1, .int (gI t5)), (0, .ref v0)]) dX3_closeRelation_50 1 rfl ht5 (Nat.le_of_ble_eq_true rfl) rfl ?_
  refine gx_goto (tgt := 2) dX3_closeRelation_53 (by decide) ?_
  refine gx_sub (ls2 := [(0, .ref v0), (1, .int (gI t5))]) [1, 0] rfl ?_
  exact hr2 _ _ _ e
set_option maxRecDepth 100000 in
def b_X3_closeRelation_44 (n : Nat) (r2 : Nat → Int → gi_H → Option (gi_H)) (r10 : Nat → Int → Int → gi_H → Option (gi_H)) (v0 : Nat) (v1 : Int) (v2 : Int)  (h : gi_H) : Option (gi_H) :=
  gx_nm (v2 + (1 : Int)) fun t11 => r10 v0 v1 t11 h
set_option maxRecDepth 100000 in
theorem zb_X3_closeRelation_44 {al : Bool} {n : Nat} {r2 : Nat → Int → gi_H → Option (gi_H)} {r10 : Nat → Int → Int → gi_H → Option (gi_H)} {h1 : gi_H} (hr2 : ∀ (x0 : Nat) (x1 : Int) (hh : gi_H), r2 x0 x1 hh = some h1 → gx_Z mX3_closeRelation al al 0 0 2 [(0, .ref x0), (1, .int (gI x1))] [] (gi_cv hh) (.inl none) (gi_cv h1)) (hr10 : ∀ (x0 : Nat) (x1 : Int) (x2 : Int) (hh : gi_H), r10 x0 x1 x2 hh = some h1 → gx_Z mX3_closeRelation al al 0 0 10 [(0, .ref x0), (1, .int (gI x1)), (2, .int (gI x2))] [] (gi_cv hh) (.inl none) (gi_cv h1)) {v0 : Nat} {v1 : Int} {v2 : Int}  {h : gi_H} (e : b_X3_closeRelation_44 n r2 r10 v0 v1 v2 h = some h1) : gx_Z mX3_closeRelation al al 0 0 44 [(0, .ref v0), (1, .int (gI v1)), (2, .int (gI v2))] [] (gi_cv h) (.inl none) (gi_cv h1) := by
  refine gx_nE e (fun t11 ht11 e => ?_)
  refine gy_iinc (v := t11) (ls2 := [(2, .int (gI t11)), (0, .ref v0), (1, .int (gI v1))]) dX3_closeRelation_44 2 rfl ht11 (Nat.le_of_ble_eq_true rfl) rfl ?_
  refine gx_goto (tgt := 10) dX3_closeRelation_47 (by decide) ?_
  refine gx_sub (ls2 := [(0, .ref v0), (1, .int (gI v1)), (2, .int (gI t11))]) [1, 2, 0] rfl ?_
  exact hr10 _ _ _ _ e
set_option maxRecDepth 100000 in
def b_X3_closeRelation_10 (n : Nat) (r2 : Nat → Int → gi_H → Option (gi_H)) (r10 : Nat → Int → Int → gi_H → Option (gi_H)) (v0 : Nat) (v1 : Int) (v2 : Int)  (h : gi_H) : Option (gi_H) :=
  Option.bind (gi_rg v2) fun _ => if (16 : Int) ≤ v2 then (b_X3_closeRelation_50 n r2 v0 v1 h) else (Option.bind (gi_gR h v0 2 11) fun t6 => Option.bind (gi_aI h 1 t6 v2) fun t7 => Option.bind (f_X11_has t7 v1 h) fun q8 => Option.bind (gi_rg q8) fun _ => if q8 = 0 then (b_X3_closeRelation_44 n r2 r10 v0 v1 v2 h) else (Option.bind (gi_gR h v0 2 11) fun t12 => Option.bind (gi_aI h 1 t12 v2) fun t13 => Option.bind (gi_gR h v0 2 11) fun t14 => Option.bind (gi_aI h 1 t14 v1) fun t15 => Option.bind (gi_s1 h t12 v2 (gi_or t13 t15)) fun h16 => b_X3_closeRelation_44 n r2 r10 v0 v1 v2 h16))
set_option maxRecDepth 100000 in
theorem zb_X3_closeRelation_10 {al : Bool} {n : Nat} {r2 : Nat → Int → gi_H → Option (gi_H)} {r10 : Nat → Int → Int → gi_H → Option (gi_H)} {h1 : gi_H} (hr2 : ∀ (x0 : Nat) (x1 : Int) (hh : gi_H), r2 x0 x1 hh = some h1 → gx_Z mX3_closeRelation al al 0 0 2 [(0, .ref x0), (1, .int (gI x1))] [] (gi_cv hh) (.inl none) (gi_cv h1)) (hr10 : ∀ (x0 : Nat) (x1 : Int) (x2 : Int) (hh : gi_H), r10 x0 x1 x2 hh = some h1 → gx_Z mX3_closeRelation al al 0 0 10 [(0, .ref x0), (1, .int (gI x1)), (2, .int (gI x2))] [] (gi_cv hh) (.inl none) (gi_cv h1)) {v0 : Nat} {v1 : Int} {v2 : Int}  {h : gi_H} (e : b_X3_closeRelation_10 n r2 r10 v0 v1 v2 h = some h1) : gx_Z mX3_closeRelation al al 0 0 10 [(0, .ref v0), (1, .int (gI v1)), (2, .int (gI v2))] [] (gi_cv h) (.inl none) (gi_cv h1) := by
  refine gx_iload_n dX3_closeRelation_10 rfl 2 rfl ?_
  refine gy_bipush dX3_closeRelation_11 gcb_16 ?_
  refine gx_bE e (fun _ g3 e => ?_)
  refine gx_iE e (fun c4 e => ?_) (fun c4 e => ?_)
  · refine gy_icmp_ge (tgt := 50) (gi_rgS g3) (by decide) dX3_closeRelation_13 (by decide) (fun _ => ?_) (fun z => absurd c4 z)
    refine gx_sub (ls2 := [(0, .ref v0), (1, .int (gI v1))]) [0, 1] rfl ?_
    exact zb_X3_closeRelation_50 hr2 e
  · refine gy_icmp_ge (tgt := 50) (gi_rgS g3) (by decide) dX3_closeRelation_13 (by decide) (fun z => absurd z c4) (fun _ => ?_)
    refine gx_aload_n dX3_closeRelation_16 rfl 0 rfl ?_
    refine gx_bE e (fun t6 ht6 e => ?_)
    refine gy_fR ht6 dX3_closeRelation_17 gf_RX3_28_2_11 (by decide) gkN_2_11 gkR_2_11 ?_
    refine gx_iload_n dX3_closeRelation_20 rfl 2 rfl ?_
    refine gx_bE e (fun t7 ht7 e => ?_)
    refine gy_l1 ht7 dX3_closeRelation_21 ?_
    refine gx_iload_n dX3_closeRelation_22 rfl 1 rfl ?_
    refine gx_bE e (fun q8 hq8 e => ?_)
    refine gx_callSN (n := 2) (st := []) (As := [.int (gI t7), .int (gI v1)]) dX3_closeRelation_23 (z_X11_has hq8) rfl ⟨rfl, gw_cw_X11_has, gw_1, gp_X11_has, ⟨Nat.le_of_ble_eq_true rfl, Nat.le_of_ble_eq_true rfl⟩⟩ (host := "Grammarsmith") (by decide +kernel) gw_473 ⟨Nat.le_of_ble_eq_true rfl, Nat.le_of_ble_eq_true rfl⟩ (Nat.le_of_ble_eq_true rfl) (gy_k1 (x := .int (gI q8)) (kc2 := 0) (ks2 := 0) ⟨rfl, rfl⟩ ?_) gy_kn
    refine gx_bE e (fun _ g9 e => ?_)
    refine gx_iE e (fun c10 e => ?_) (fun c10 e => ?_)
    · refine gy_if_eq (tgt := 44) (gi_rgS g9) dX3_closeRelation_26 (by decide) (fun _ => ?_) (fun z => absurd c10 z)
      exact zb_X3_closeRelation_44 hr2 hr10 e
    · refine gy_if_eq (tgt := 44) (gi_rgS g9) dX3_closeRelation_26 (by decide) (fun z => absurd z c10) (fun _ => ?_)
      refine gx_aload_n dX3_closeRelation_29 rfl 0 rfl ?_
      refine gx_bE e (fun t12 ht12 e => ?_)
      refine gy_fR ht12 dX3_closeRelation_30 gf_RX3_28_2_11 (by decide) gkN_2_11 gkR_2_11 ?_
      refine gx_iload_n dX3_closeRelation_33 rfl 2 rfl ?_
      refine gx_dup2 dX3_closeRelation_34 rfl rfl ?_
      refine gx_bE e (fun t13 ht13 e => ?_)
      refine gy_l1 ht13 dX3_closeRelation_35 ?_
      refine gx_aload_n dX3_closeRelation_36 rfl 0 rfl ?_
      refine gx_bE e (fun t14 ht14 e => ?_)
      refine gy_fR ht14 dX3_closeRelation_37 gf_RX3_28_2_11 (by decide) gkN_2_11 gkR_2_11 ?_
      refine gx_iload_n dX3_closeRelation_40 rfl 1 rfl ?_
      refine gx_bE e (fun t15 ht15 e => ?_)
      refine gy_l1 ht15 dX3_closeRelation_41 ?_
      refine gy_ior dX3_closeRelation_42 ?_
      refine gx_bE e (fun h16 hh16 e => ?_)
      refine gy_t1 hh16 dX3_closeRelation_43 ?_
      exact zb_X3_closeRelation_44 hr2 hr10 e
def l_X3_closeRelation_10 (n : Nat) (r2 : Nat → Int → gi_H → Option (gi_H)) : Nat → Nat → Int → Int → gi_H → Option (gi_H)
  | 0, _, _, _, _ => none
  | k + 1, v0, v1, v2, h => b_X3_closeRelation_10 n r2 (l_X3_closeRelation_10 n r2 k) v0 v1 v2 h
theorem zl_X3_closeRelation_10 {al : Bool} {n : Nat} {r2 : Nat → Int → gi_H → Option (gi_H)} {h1 : gi_H} (hr2 : ∀ (x0 : Nat) (x1 : Int) (hh : gi_H), r2 x0 x1 hh = some h1 → gx_Z mX3_closeRelation al al 0 0 2 [(0, .ref x0), (1, .int (gI x1))] [] (gi_cv hh) (.inl none) (gi_cv h1)) : ∀ (k : Nat) (v0 : Nat) (v1 : Int) (v2 : Int) (h : gi_H), l_X3_closeRelation_10 n r2 k v0 v1 v2 h = some h1 → gx_Z mX3_closeRelation al al 0 0 10 [(0, .ref v0), (1, .int (gI v1)), (2, .int (gI v2))] [] (gi_cv h) (.inl none) (gi_cv h1)
  | 0, _, _, _, _, e => gx_0E e
  | k + 1, _, _, _, _, e => zb_X3_closeRelation_10 (n := n) hr2 (zl_X3_closeRelation_10 hr2 k) e
set_option maxRecDepth 100000 in
def b_X3_closeRelation_2 (n : Nat) (r2 : Nat → Int → gi_H → Option (gi_H)) (v0 : Nat) (v1 : Int)  (h : gi_H) : Option (gi_H) :=
  Option.bind (gi_rg v1) fun _ => if (16 : Int) ≤ v1 then (some h) else (l_X3_closeRelation_10 n r2 n v0 v1 (0 : Int) h)
set_option maxRecDepth 100000 in
theorem zb_X3_closeRelation_2 {al : Bool} {n : Nat} {r2 : Nat → Int → gi_H → Option (gi_H)} {h1 : gi_H} (hr2 : ∀ (x0 : Nat) (x1 : Int) (hh : gi_H), r2 x0 x1 hh = some h1 → gx_Z mX3_closeRelation al al 0 0 2 [(0, .ref x0), (1, .int (gI x1))] [] (gi_cv hh) (.inl none) (gi_cv h1)) {v0 : Nat} {v1 : Int}  {h : gi_H} (e : b_X3_closeRelation_2 n r2 v0 v1 h = some h1) : gx_Z mX3_closeRelation al al 0 0 2 [(0, .ref v0), (1, .int (gI v1))] [] (gi_cv h) (.inl none) (gi_cv h1) := by
  refine gx_iload_n dX3_closeRelation_2 rfl 1 rfl ?_
  refine gy_bipush dX3_closeRelation_3 gcb_16 ?_
  refine gx_bE e (fun _ g1 e => ?_)
  refine gx_iE e (fun c2 e => ?_) (fun c2 e => ?_)
  · refine gy_icmp_ge (tgt := 56) (gi_rgS g1) (by decide) dX3_closeRelation_5 (by decide) (fun _ => ?_) (fun z => absurd c2 z)
    cases e
    exact gx_vret dX3_closeRelation_56 rfl ⟨Nat.le_of_ble_eq_true rfl, Nat.le_of_ble_eq_true rfl⟩ (fun z => z)
  · refine gy_icmp_ge (tgt := 56) (gi_rgS g1) (by decide) dX3_closeRelation_5 (by decide) (fun z => absurd z c2) (fun _ => ?_)
    refine gy_iconst dX3_closeRelation_8 ?_
    refine gx_istore_n (ls2 := [(2, .int (gI (0 : Int))), (0, .ref v0), (1, .int (gI v1))]) dX3_closeRelation_9 rfl (Nat.le_of_ble_eq_true rfl) rfl ?_
    refine gx_sub (ls2 := [(0, .ref v0), (1, .int (gI v1)), (2, .int (gI (0 : Int)))]) [1, 2, 0] rfl ?_
    exact zl_X3_closeRelation_10 hr2 n _ _ _ _ e
def l_X3_closeRelation_2 (n : Nat)  : Nat → Nat → Int → gi_H → Option (gi_H)
  | 0, _, _, _ => none
  | k + 1, v0, v1, h => b_X3_closeRelation_2 n  (l_X3_closeRelation_2 n  k) v0 v1 h
theorem zl_X3_closeRelation_2 {al : Bool} {n : Nat}  {h1 : gi_H}  : ∀ (k : Nat) (v0 : Nat) (v1 : Int) (h : gi_H), l_X3_closeRelation_2 n  k v0 v1 h = some h1 → gx_Z mX3_closeRelation al al 0 0 2 [(0, .ref v0), (1, .int (gI v1))] [] (gi_cv h) (.inl none) (gi_cv h1)
  | 0, _, _, _, e => gx_0E e
  | k + 1, _, _, _, e => zb_X3_closeRelation_2 (n := n)  (zl_X3_closeRelation_2  k) e
set_option maxRecDepth 100000 in
def f_X3_closeRelation (n : Nat) (v0 : Nat) (h : gi_H) : Option (gi_H) :=
  l_X3_closeRelation_2 n  n v0 (0 : Int) h
set_option maxRecDepth 100000 in
theorem z_X3_closeRelation {al : Bool} {n : Nat} {v0 : Nat} {h : gi_H} {h1 : gi_H} (e : f_X3_closeRelation n v0 h = some h1) : gx_Cw mX3_closeRelation al [.ref v0] (gi_cv h) (.inl none) (gi_cv h1) := by
  refine gx_enter (by decide +kernel) rfl (Nat.le_of_ble_eq_true rfl) ?_
  show gx_Z mX3_closeRelation al al 0 0 0 [(0, .ref v0)] [] (gi_cv h) (.inl none) (gi_cv h1)
  refine gy_iconst dX3_closeRelation_0 ?_
  refine gx_istore_n (ls2 := [(1, .int (gI (0 : Int))), (0, .ref v0)]) dX3_closeRelation_1 rfl (Nat.le_of_ble_eq_true rfl) rfl ?_
  refine gx_sub (ls2 := [(0, .ref v0), (1, .int (gI (0 : Int)))]) [1, 0] rfl ?_
  exact zl_X3_closeRelation_2  n _ _ _ e
/-! X3_findReached  -/
set_option maxRecDepth 100000 in
def b_X3_findReached_53 (n : Nat)  (v0 : Nat)  (h : gi_H) : Option (gi_H) :=
  Option.bind (gi_is h v0 2) fun _ => Option.bind (f_X3_closeRelation n v0 h) fun q10 => Option.bind (gi_gR q10 v0 2 0) fun t11 => Option.bind (gi_is q10 t11 3) fun _ => Option.bind (f_X4_top t11 q10) fun q13 => Option.bind (gi_pI q10 v0 2 2 (gi_shl (1 : Int) q13)) fun h14 => Option.bind (gi_rg q13) fun _ => if q13 < 0 then (some h14) else (if (16 : Int) ≤ q13 then (some h14) else (Option.bind (gi_gI h14 v0 2 2) fun t18 => Option.bind (gi_gR h14 v0 2 11) fun t19 => Option.bind (gi_aI h14 1 t19 q13) fun t20 => Option.bind (gi_pI h14 v0 2 2 (gi_or t18 t20)) fun h21 => some h21))
set_option maxRecDepth 100000 in
theorem zb_X3_findReached_53 {al : Bool} {n : Nat}  {h1 : gi_H}  {v0 : Nat}  {h : gi_H} (e : b_X3_findReached_53 n v0 h = some h1) : gx_Z mX3_findReached al al 0 0 53 [(0, .ref v0)] [] (gi_cv h) (.inl none) (gi_cv h1) := by
  refine gx_aload_n dX3_findReached_53 rfl 0 rfl ?_
  refine gx_bE e (fun _ hu9 e => ?_)
  refine gx_bE e (fun q10 hq10 e => ?_)
  refine gx_callV (n := 0) (st := []) (As := []) (b := v0) dX3_findReached_54 (z_X3_closeRelation hq10) rfl ⟨rfl, gw_cw_X3_closeRelation, gw_6, gp_X3_closeRelation, ⟨Nat.le_of_ble_eq_true rfl, Nat.le_of_ble_eq_true rfl⟩⟩ (gi_isS hu9) (by decide) gw_468 gw_470 gs_8 rfl ⟨Nat.le_of_ble_eq_true rfl, Nat.le_of_ble_eq_true rfl⟩ (Nat.le_of_ble_eq_true rfl) (gy_k0 (kc2 := 0) (ks2 := 0) ⟨rfl, rfl⟩ ?_) gy_kn
  refine gx_aload_n dX3_findReached_57 rfl 0 rfl ?_
  refine gx_bE e (fun t11 ht11 e => ?_)
  refine gy_fR ht11 dX3_findReached_58 gf_RX3_37_2_0 (by decide) gkN_2_0 gkR_2_0 ?_
  refine gx_bE e (fun _ hu12 e => ?_)
  refine gx_bE e (fun q13 hq13 e => ?_)
  refine gx_callV (n := 0) (st := []) (As := []) (b := t11) dX3_findReached_61 (z_X4_top hq13) rfl ⟨rfl, gw_cw_X4_top, gw_3, gp_X4_top, ⟨Nat.le_of_ble_eq_true rfl, Nat.le_of_ble_eq_true rfl⟩⟩ (gi_isS hu12) (by decide) gw_442 gw_443 gw_444 rfl ⟨Nat.le_of_ble_eq_true rfl, Nat.le_of_ble_eq_true rfl⟩ (Nat.le_of_ble_eq_true rfl) (gy_k1 (x := .int (gI q13)) (kc2 := 0) (ks2 := 0) ⟨rfl, rfl⟩ ?_) gy_kn
  refine gx_istore_n (ls2 := [(1, .int (gI q13)), (0, .ref v0)]) dX3_findReached_64 rfl (Nat.le_of_ble_eq_true rfl) rfl ?_
  refine gx_aload_n dX3_findReached_65 rfl 1 rfl ?_
  refine gy_iconst dX3_findReached_66 ?_
  refine gx_iload_n dX3_findReached_67 rfl 0 rfl ?_
  refine gy_ishl dX3_findReached_68 ?_
  refine gx_bE e (fun h14 hh14 e => ?_)
  refine gy_qI hh14 dX3_findReached_69 gf_RX3_79_2_2 (by decide) gkN_2_2 rfl (Or.inl rfl) ?_
  refine gx_iload_n dX3_findReached_72 rfl 0 rfl ?_
  refine gx_bE e (fun _ g15 e => ?_)
  refine gx_iE e (fun c16 e => ?_) (fun c16 e => ?_)
  · refine gy_if_lt (tgt := 97) (gi_rgS g15) dX3_findReached_73 (by decide) (fun _ => ?_) (fun z => absurd c16 z)
    cases e
    exact gx_vret dX3_findReached_97 rfl ⟨Nat.le_of_ble_eq_true rfl, Nat.le_of_ble_eq_true rfl⟩ (fun z => z)
  · refine gy_if_lt (tgt := 97) (gi_rgS g15) dX3_findReached_73 (by decide) (fun z => absurd z c16) (fun _ => ?_)
    refine gx_iload_n dX3_findReached_76 rfl 0 rfl ?_
    refine gy_bipush dX3_findReached_77 gcb_16 ?_
    refine gx_iE e (fun c17 e => ?_) (fun c17 e => ?_)
    · refine gy_icmp_ge (tgt := 97) (gi_rgS g15) (by decide) dX3_findReached_79 (by decide) (fun _ => ?_) (fun z => absurd c17 z)
      cases e
      exact gx_vret dX3_findReached_97 rfl ⟨Nat.le_of_ble_eq_true rfl, Nat.le_of_ble_eq_true rfl⟩ (fun z => z)
    · refine gy_icmp_ge (tgt := 97) (gi_rgS g15) (by decide) dX3_findReached_79 (by decide) (fun z => absurd z c17) (fun _ => ?_)
      refine gx_aload_n dX3_findReached_82 rfl 1 rfl ?_
      refine gx_dup dX3_findReached_83 rfl ?_
      refine gx_bE e (fun t18 ht18 e => ?_)
      refine gy_fI ht18 dX3_findReached_84 gf_RX3_79_2_2 (by decide) gkN_2_2 gkR_2_2 ?_
      refine gx_aload_n dX3_findReached_87 rfl 1 rfl ?_
      refine gx_bE e (fun t19 ht19 e => ?_)
      refine gy_fR ht19 dX3_findReached_88 gf_RX3_28_2_11 (by decide) gkN_2_11 gkR_2_11 ?_
      refine gx_iload_n dX3_findReached_91 rfl 0 rfl ?_
      refine gx_bE e (fun t20 ht20 e => ?_)
      refine gy_l1 ht20 dX3_findReached_92 ?_
      refine gy_ior dX3_findReached_93 ?_
      refine gx_bE e (fun h21 hh21 e => ?_)
      refine gy_qI hh21 dX3_findReached_94 gf_RX3_79_2_2 (by decide) gkN_2_2 rfl (Or.inl rfl) ?_
      cases e
      exact gx_vret dX3_findReached_97 rfl ⟨Nat.le_of_ble_eq_true rfl, Nat.le_of_ble_eq_true rfl⟩ (fun z => z)
set_option maxRecDepth 100000 in
def b_X3_findReached_47 (n : Nat) (r10 : Nat → Int → gi_H → Option (gi_H)) (v0 : Nat) (v1 : Int)  (h : gi_H) : Option (gi_H) :=
  gx_nm (v1 + (1 : Int)) fun t28 => r10 v0 t28 h
set_option maxRecDepth 100000 in
theorem zb_X3_findReached_47 {al : Bool} {n : Nat} {r10 : Nat → Int → gi_H → Option (gi_H)} {h1 : gi_H} (hr10 : ∀ (x0 : Nat) (x1 : Int) (hh : gi_H), r10 x0 x1 hh = some h1 → gx_Z mX3_findReached al al 0 0 10 [(0, .ref x0), (1, .int (gI x1))] [] (gi_cv hh) (.inl none) (gi_cv h1)) {v0 : Nat} {v1 : Int}  {h : gi_H} (e : b_X3_findReached_47 n r10 v0 v1 h = some h1) : gx_Z mX3_findReached al al 0 0 47 [(0, .ref v0), (1, .int (gI v1))] [] (gi_cv h) (.inl none) (gi_cv h1) := by
  refine gx_nE e (fun t28 ht28 e => ?_)
  refine gy_iinc (v := t28) (ls2 := [(1, .int (gI t28)), (0, .ref v0)]) dX3_findReached_47 1 rfl ht28 (Nat.le_of_ble_eq_true rfl) rfl ?_
  refine gx_goto (tgt := 10) dX3_findReached_50 (by decide) ?_
  refine gx_sub (ls2 := [(0, .ref v0), (1, .int (gI t28))]) [1, 0] rfl ?_
  exact hr10 _ _ _ e
set_option maxRecDepth 100000 in
def b_X3_findReached_23 (n : Nat) (r10 : Nat → Int → gi_H → Option (gi_H)) (r23 : Nat → Int → Int → gi_H → Option (gi_H)) (v0 : Nat) (v1 : Int) (v2 : Int)  (h : gi_H) : Option (gi_H) :=
  Option.bind (gi_gR h v0 2 0) fun t22 => Option.bind (gi_is h t22 3) fun _ => Option.bind (f_X4_length t22 v1 h) fun q24 => Option.bind (gi_rg v2) fun _ => Option.bind (gi_rg q24) fun _ => if q24 ≤ v2 then (b_X3_findReached_47 n r10 v0 v1 h) else (Option.bind (gi_is h v0 2) fun _ => Option.bind (f_X3_relate v0 v1 v2 h) fun q30 => gx_nm (v2 + (1 : Int)) fun t31 => r23 v0 v1 t31 q30)
set_option maxRecDepth 100000 in
theorem zb_X3_findReached_23 {al : Bool} {n : Nat} {r10 : Nat → Int → gi_H → Option (gi_H)} {r23 : Nat → Int → Int → gi_H → Option (gi_H)} {h1 : gi_H} (hr10 : ∀ (x0 : Nat) (x1 : Int) (hh : gi_H), r10 x0 x1 hh = some h1 → gx_Z mX3_findReached al al 0 0 10 [(0, .ref x0), (1, .int (gI x1))] [] (gi_cv hh) (.inl none) (gi_cv h1)) (hr23 : ∀ (x0 : Nat) (x1 : Int) (x2 : Int) (hh : gi_H), r23 x0 x1 x2 hh = some h1 → gx_Z mX3_findReached al al 0 0 23 [(0, .ref x0), (1, .int (gI x1)), (2, .int (gI x2))] [] (gi_cv hh) (.inl none) (gi_cv h1)) {v0 : Nat} {v1 : Int} {v2 : Int}  {h : gi_H} (e : b_X3_findReached_23 n r10 r23 v0 v1 v2 h = some h1) : gx_Z mX3_findReached al al 0 0 23 [(0, .ref v0), (1, .int (gI v1)), (2, .int (gI v2))] [] (gi_cv h) (.inl none) (gi_cv h1) := by
  refine gx_iload_n dX3_findReached_23 rfl 2 rfl ?_
  refine gx_aload_n dX3_findReached_24 rfl 0 rfl ?_
  refine gx_bE e (fun t22 ht22 e => ?_)
  refine gy_fR ht22 dX3_findReached_25 gf_RX3_37_2_0 (by decide) gkN_2_0 gkR_2_0 ?_
  refine gx_iload_n dX3_findReached_28 rfl 1 rfl ?_
  refine gx_bE e (fun _ hu23 e => ?_)
  refine gx_bE e (fun q24 hq24 e => ?_)
  refine gx_callV (n := 1) (st := [.int (gI v2)]) (As := [.int (gI v1)]) (b := t22) dX3_findReached_29 (z_X4_length hq24) rfl ⟨rfl, gw_cw_X4_length, gw_3, gp_X4_length, ⟨Nat.le_of_ble_eq_true rfl, Nat.le_of_ble_eq_true rfl⟩⟩ (gi_isS hu23) (by decide) gw_423 gw_424 gw_425 rfl ⟨Nat.le_of_ble_eq_true rfl, Nat.le_of_ble_eq_true rfl⟩ (Nat.le_of_ble_eq_true rfl) (gy_k1 (x := .int (gI q24)) (kc2 := 0) (ks2 := 0) ⟨rfl, rfl⟩ ?_) gy_kn
  refine gx_bE e (fun _ g25 e => ?_)
  refine gx_bE e (fun _ g26 e => ?_)
  refine gx_iE e (fun c27 e => ?_) (fun c27 e => ?_)
  · refine gy_icmp_ge (tgt := 47) (gi_rgS g25) (gi_rgS g26) dX3_findReached_32 (by decide) (fun _ => ?_) (fun z => absurd c27 z)
    refine gx_sub (ls2 := [(0, .ref v0), (1, .int (gI v1))]) [0, 1] rfl ?_
    exact zb_X3_findReached_47 hr10 e
  · refine gy_icmp_ge (tgt := 47) (gi_rgS g25) (gi_rgS g26) dX3_findReached_32 (by decide) (fun z => absurd z c27) (fun _ => ?_)
    refine gx_aload_n dX3_findReached_35 rfl 0 rfl ?_
    refine gx_iload_n dX3_findReached_36 rfl 1 rfl ?_
    refine gx_iload_n dX3_findReached_37 rfl 2 rfl ?_
    refine gx_bE e (fun _ hu29 e => ?_)
    refine gx_bE e (fun q30 hq30 e => ?_)
    refine gx_callV (n := 2) (st := []) (As := [.int (gI v1), .int (gI v2)]) (b := v0) dX3_findReached_38 (z_X3_relate hq30) rfl ⟨rfl, gw_cw_X3_relate, gw_6, gp_X3_relate, ⟨Nat.le_of_ble_eq_true rfl, Nat.le_of_ble_eq_true rfl⟩⟩ (gi_isS hu29) (by decide) gw_464 gw_466 gs_7 rfl ⟨Nat.le_of_ble_eq_true rfl, Nat.le_of_ble_eq_true rfl⟩ (Nat.le_of_ble_eq_true rfl) (gy_k0 (kc2 := 0) (ks2 := 0) ⟨rfl, rfl⟩ ?_) gy_kn
    refine gx_nE e (fun t31 ht31 e => ?_)
    refine gy_iinc (v := t31) (ls2 := [(2, .int (gI t31)), (0, .ref v0), (1, .int (gI v1))]) dX3_findReached_41 2 rfl ht31 (Nat.le_of_ble_eq_true rfl) rfl ?_
    refine gx_goto (tgt := 23) dX3_findReached_44 (by decide) ?_
    refine gx_sub (ls2 := [(0, .ref v0), (1, .int (gI v1)), (2, .int (gI t31))]) [1, 2, 0] rfl ?_
    exact hr23 _ _ _ _ e
def l_X3_findReached_23 (n : Nat) (r10 : Nat → Int → gi_H → Option (gi_H)) : Nat → Nat → Int → Int → gi_H → Option (gi_H)
  | 0, _, _, _, _ => none
  | k + 1, v0, v1, v2, h => b_X3_findReached_23 n r10 (l_X3_findReached_23 n r10 k) v0 v1 v2 h
theorem zl_X3_findReached_23 {al : Bool} {n : Nat} {r10 : Nat → Int → gi_H → Option (gi_H)} {h1 : gi_H} (hr10 : ∀ (x0 : Nat) (x1 : Int) (hh : gi_H), r10 x0 x1 hh = some h1 → gx_Z mX3_findReached al al 0 0 10 [(0, .ref x0), (1, .int (gI x1))] [] (gi_cv hh) (.inl none) (gi_cv h1)) : ∀ (k : Nat) (v0 : Nat) (v1 : Int) (v2 : Int) (h : gi_H), l_X3_findReached_23 n r10 k v0 v1 v2 h = some h1 → gx_Z mX3_findReached al al 0 0 23 [(0, .ref v0), (1, .int (gI v1)), (2, .int (gI v2))] [] (gi_cv h) (.inl none) (gi_cv h1)
  | 0, _, _, _, _, e => gx_0E e
  | k + 1, _, _, _, _, e => zb_X3_findReached_23 (n := n) hr10 (zl_X3_findReached_23 hr10 k) e
set_option maxRecDepth 100000 in
def b_X3_findReached_10 (n : Nat) (r10 : Nat → Int → gi_H → Option (gi_H)) (v0 : Nat) (v1 : Int)  (h : gi_H) : Option (gi_H) :=
  Option.bind (gi_gR h v0 2 0) fun t3 => Option.bind (gi_is h t3 3) fun _ => Option.bind (f_X4_count t3 h) fun q5 => Option.bind (gi_rg v1) fun _ => Option.bind (gi_rg q5) fun _ => if q5 ≤ v1 then (b_X3_findReached_53 n  v0 h) else (l_X3_findReached_23 n r10 n v0 v1 (0 : Int) h)
set_option maxRecDepth 100000 in
theorem zb_X3_findReached_10 {al : Bool} {n : Nat} {r10 : Nat → Int → gi_H → Option (gi_H)} {h1 : gi_H} (hr10 : ∀ (x0 : Nat) (x1 : Int) (hh : gi_H), r10 x0 x1 hh = some h1 → gx_Z mX3_findReached al al 0 0 10 [(0, .ref x0), (1, .int (gI x1))] [] (gi_cv hh) (.inl none) (gi_cv h1)) {v0 : Nat} {v1 : Int}  {h : gi_H} (e : b_X3_findReached_10 n r10 v0 v1 h = some h1) : gx_Z mX3_findReached al al 0 0 10 [(0, .ref v0), (1, .int (gI v1))] [] (gi_cv h) (.inl none) (gi_cv h1) := by
  refine gx_iload_n dX3_findReached_10 rfl 1 rfl ?_
  refine gx_aload_n dX3_findReached_11 rfl 0 rfl ?_
  refine gx_bE e (fun t3 ht3 e => ?_)
  refine gy_fR ht3 dX3_findReached_12 gf_RX3_37_2_0 (by decide) gkN_2_0 gkR_2_0 ?_
  refine gx_bE e (fun _ hu4 e => ?_)
  refine gx_bE e (fun q5 hq5 e => ?_)
  refine gx_callV (n := 0) (st := [.int (gI v1)]) (As := []) (b := t3) dX3_findReached_15 (z_X4_count hq5) rfl ⟨rfl, gw_cw_X4_count, gw_3, gp_X4_count, ⟨Nat.le_of_ble_eq_true rfl, Nat.le_of_ble_eq_true rfl⟩⟩ (gi_isS hu4) (by decide) gw_414 gw_393 gw_394 rfl ⟨Nat.le_of_ble_eq_true rfl, Nat.le_of_ble_eq_true rfl⟩ (Nat.le_of_ble_eq_true rfl) (gy_k1 (x := .int (gI q5)) (kc2 := 0) (ks2 := 0) ⟨rfl, rfl⟩ ?_) gy_kn
  refine gx_bE e (fun _ g6 e => ?_)
  refine gx_bE e (fun _ g7 e => ?_)
  refine gx_iE e (fun c8 e => ?_) (fun c8 e => ?_)
  · refine gy_icmp_ge (tgt := 53) (gi_rgS g6) (gi_rgS g7) dX3_findReached_18 (by decide) (fun _ => ?_) (fun z => absurd c8 z)
    refine gx_sub (ls2 := [(0, .ref v0)]) [0] rfl ?_
    exact zb_X3_findReached_53  e
  · refine gy_icmp_ge (tgt := 53) (gi_rgS g6) (gi_rgS g7) dX3_findReached_18 (by decide) (fun z => absurd z c8) (fun _ => ?_)
    refine gy_iconst dX3_findReached_21 ?_
    refine gx_istore_n (ls2 := [(2, .int (gI (0 : Int))), (0, .ref v0), (1, .int (gI v1))]) dX3_findReached_22 rfl (Nat.le_of_ble_eq_true rfl) rfl ?_
    refine gx_sub (ls2 := [(0, .ref v0), (1, .int (gI v1)), (2, .int (gI (0 : Int)))]) [1, 2, 0] rfl ?_
    exact zl_X3_findReached_23 hr10 n _ _ _ _ e
def l_X3_findReached_10 (n : Nat)  : Nat → Nat → Int → gi_H → Option (gi_H)
  | 0, _, _, _ => none
  | k + 1, v0, v1, h => b_X3_findReached_10 n  (l_X3_findReached_10 n  k) v0 v1 h
theorem zl_X3_findReached_10 {al : Bool} {n : Nat}  {h1 : gi_H}  : ∀ (k : Nat) (v0 : Nat) (v1 : Int) (h : gi_H), l_X3_findReached_10 n  k v0 v1 h = some h1 → gx_Z mX3_findReached al al 0 0 10 [(0, .ref v0), (1, .int (gI v1))] [] (gi_cv h) (.inl none) (gi_cv h1)
  | 0, _, _, _, e => gx_0E e
  | k + 1, _, _, _, e => zb_X3_findReached_10 (n := n)  (zl_X3_findReached_10  k) e
set_option maxRecDepth 100000 in
def f_X3_findReached (n : Nat) (v0 : Nat) (h : gi_H) : Option (gi_H) :=
  Option.bind (gi_gR h v0 2 11) fun t1 => Option.bind (f_J7_fill_53178 n t1 (0 : Int) h) fun q2 => l_X3_findReached_10 n  n v0 (0 : Int) q2
set_option maxRecDepth 100000 in
theorem z_X3_findReached {al : Bool} {n : Nat} {v0 : Nat} {h : gi_H} {h1 : gi_H} (e : f_X3_findReached n v0 h = some h1) : gx_Cw mX3_findReached al [.ref v0] (gi_cv h) (.inl none) (gi_cv h1) := by
  refine gx_enter (by decide +kernel) rfl (Nat.le_of_ble_eq_true rfl) ?_
  show gx_Z mX3_findReached al al 0 0 0 [(0, .ref v0)] [] (gi_cv h) (.inl none) (gi_cv h1)
  refine gx_aload_n dX3_findReached_0 rfl 0 rfl ?_
  refine gx_bE e (fun t1 ht1 e => ?_)
  refine gy_fR ht1 dX3_findReached_1 gf_RX3_28_2_11 (by decide) gkN_2_11 gkR_2_11 ?_
  refine gy_iconst dX3_findReached_4 ?_
  refine gx_bE e (fun q2 hq2 e => ?_)
  refine gx_callS (n := 2) (st := []) (As := [.ref t1, .int (gI (0 : Int))]) dX3_findReached_5 (z_J7_fill_53178 hq2) rfl ⟨rfl, gw_cw_J7_fill_53178, gw_5, gp_J7_fill_53178, ⟨Nat.le_of_ble_eq_true rfl, Nat.le_of_ble_eq_true rfl⟩⟩ gw_412 gw_99 ⟨Nat.le_of_ble_eq_true rfl, Nat.le_of_ble_eq_true rfl⟩ (Nat.le_of_ble_eq_true rfl) (gy_k0 (kc2 := 0) (ks2 := 0) ⟨rfl, rfl⟩ ?_) gy_kn
  refine gy_iconst dX3_findReached_8 ?_
  refine gx_istore_n (ls2 := [(1, .int (gI (0 : Int))), (0, .ref v0)]) dX3_findReached_9 rfl (Nat.le_of_ble_eq_true rfl) rfl ?_
  refine gx_sub (ls2 := [(0, .ref v0), (1, .int (gI (0 : Int)))]) [1, 0] rfl ?_
  exact zl_X3_findReached_10  n _ _ _ e
/-! X3_relatedToThemselves  -/
set_option maxRecDepth 100000 in
def b_X3_relatedToThemselves_4 (n : Nat) (r4 : Nat → Int → Int → gi_H → Option (Int)) (v0 : Nat) (v1 : Int) (v2 : Int)  (h : gi_H) : Option (Int) :=
  Option.bind (gi_rg v2) fun _ => if (16 : Int) ≤ v2 then (some v1) else (Option.bind (gi_gR h v0 2 11) fun t3 => Option.bind (gi_aI h 1 t3 v2) fun t4 => gx_nm (gi_or v1 (gi_and t4 (gi_shl (1 : Int) v2))) fun t5 => gx_nm (v2 + (1 : Int)) fun t6 => r4 v0 t5 t6 h)
set_option maxRecDepth 100000 in
theorem zb_X3_relatedToThemselves_4 {al : Bool} {n : Nat} {r4 : Nat → Int → Int → gi_H → Option (Int)} {res : Int} (hr4 : ∀ (x0 : Nat) (x1 : Int) (x2 : Int) (hh : gi_H), r4 x0 x1 x2 hh = some res → gx_Z mX3_relatedToThemselves al al 0 0 4 [(0, .ref x0), (1, .int (gI x1)), (2, .int (gI x2))] [] (gi_cv hh) (.inl (some (.int (gI res)))) (gi_cv hh)) {v0 : Nat} {v1 : Int} {v2 : Int}  {h : gi_H} (e : b_X3_relatedToThemselves_4 n r4 v0 v1 v2 h = some res) : gx_Z mX3_relatedToThemselves al al 0 0 4 [(0, .ref v0), (1, .int (gI v1)), (2, .int (gI v2))] [] (gi_cv h) (.inl (some (.int (gI res)))) (gi_cv h) := by
  refine gx_iload_n dX3_relatedToThemselves_4 rfl 2 rfl ?_
  refine gy_bipush dX3_relatedToThemselves_5 gcb_16 ?_
  refine gx_bE e (fun _ g1 e => ?_)
  refine gx_iE e (fun c2 e => ?_) (fun c2 e => ?_)
  · refine gy_icmp_ge (tgt := 29) (gi_rgS g1) (by decide) dX3_relatedToThemselves_7 (by decide) (fun _ => ?_) (fun z => absurd c2 z)
    refine gx_iload_n dX3_relatedToThemselves_29 rfl 1 rfl ?_
    cases e
    exact gx_iret dX3_relatedToThemselves_30 rfl ⟨Nat.le_of_ble_eq_true rfl, Nat.le_of_ble_eq_true rfl⟩ (fun z => z)
  · refine gy_icmp_ge (tgt := 29) (gi_rgS g1) (by decide) dX3_relatedToThemselves_7 (by decide) (fun z => absurd z c2) (fun _ => ?_)
    refine gx_iload_n dX3_relatedToThemselves_10 rfl 1 rfl ?_
    refine gx_aload_n dX3_relatedToThemselves_11 rfl 0 rfl ?_
    refine gx_bE e (fun t3 ht3 e => ?_)
    refine gy_fR ht3 dX3_relatedToThemselves_12 gf_RX3_28_2_11 (by decide) gkN_2_11 gkR_2_11 ?_
    refine gx_iload_n dX3_relatedToThemselves_15 rfl 2 rfl ?_
    refine gx_bE e (fun t4 ht4 e => ?_)
    refine gy_l1 ht4 dX3_relatedToThemselves_16 ?_
    refine gy_iconst dX3_relatedToThemselves_17 ?_
    refine gx_iload_n dX3_relatedToThemselves_18 rfl 2 rfl ?_
    refine gy_ishl dX3_relatedToThemselves_19 ?_
    refine gy_iand dX3_relatedToThemselves_20 ?_
    refine gy_ior dX3_relatedToThemselves_21 ?_
    refine gx_nE e (fun t5 ht5 e => ?_)
    rw [ht5]
    refine gx_istore_n (ls2 := [(1, .int (gI t5)), (0, .ref v0), (2, .int (gI v2))]) dX3_relatedToThemselves_22 rfl (Nat.le_of_ble_eq_true rfl) rfl ?_
    refine gx_nE e (fun t6 ht6 e => ?_)
    refine gy_iinc (v := t6) (ls2 := [(2, .int (gI t6)), (1, .int (gI t5)), (0, .ref v0)]) dX3_relatedToThemselves_23 2 rfl ht6 (Nat.le_of_ble_eq_true rfl) rfl ?_
    refine gx_goto (tgt := 4) dX3_relatedToThemselves_26 (by decide) ?_
    refine gx_sub (ls2 := [(0, .ref v0), (1, .int (gI t5)), (2, .int (gI t6))]) [2, 1, 0] rfl ?_
    exact hr4 _ _ _ _ e
def l_X3_relatedToThemselves_4 (n : Nat)  : Nat → Nat → Int → Int → gi_H → Option (Int)
  | 0, _, _, _, _ => none
  | k + 1, v0, v1, v2, h => b_X3_relatedToThemselves_4 n  (l_X3_relatedToThemselves_4 n  k) v0 v1 v2 h
theorem zl_X3_relatedToThemselves_4 {al : Bool} {n : Nat}  {res : Int}  : ∀ (k : Nat) (v0 : Nat) (v1 : Int) (v2 : Int) (h : gi_H), l_X3_relatedToThemselves_4 n  k v0 v1 v2 h = some res → gx_Z mX3_relatedToThemselves al al 0 0 4 [(0, .ref v0), (1, .int (gI v1)), (2, .int (gI v2))] [] (gi_cv h) (.inl (some (.int (gI res)))) (gi_cv h)
  | 0, _, _, _, _, e => gx_0E e
  | k + 1, _, _, _, _, e => zb_X3_relatedToThemselves_4 (n := n)  (zl_X3_relatedToThemselves_4  k) e
set_option maxRecDepth 100000 in
def f_X3_relatedToThemselves (n : Nat) (v0 : Nat) (h : gi_H) : Option (Int) :=
  l_X3_relatedToThemselves_4 n  n v0 (0 : Int) (0 : Int) h
set_option maxRecDepth 100000 in
theorem z_X3_relatedToThemselves {al : Bool} {n : Nat} {v0 : Nat} {h : gi_H} {res : Int} (e : f_X3_relatedToThemselves n v0 h = some res) : gx_Cw mX3_relatedToThemselves al [.ref v0] (gi_cv h) (.inl (some (.int (gI res)))) (gi_cv h) := by
  refine gx_enter (by decide +kernel) rfl (Nat.le_of_ble_eq_true rfl) ?_
  show gx_Z mX3_relatedToThemselves al al 0 0 0 [(0, .ref v0)] [] (gi_cv h) (.inl (some (.int (gI res)))) (gi_cv h)
  refine gy_iconst dX3_relatedToThemselves_0 ?_
  refine gx_istore_n (ls2 := [(1, .int (gI (0 : Int))), (0, .ref v0)]) dX3_relatedToThemselves_1 rfl (Nat.le_of_ble_eq_true rfl) rfl ?_
  refine gy_iconst dX3_relatedToThemselves_2 ?_
  refine gx_istore_n (ls2 := [(2, .int (gI (0 : Int))), (1, .int (gI (0 : Int))), (0, .ref v0)]) dX3_relatedToThemselves_3 rfl (Nat.le_of_ble_eq_true rfl) rfl ?_
  refine gx_sub (ls2 := [(0, .ref v0), (1, .int (gI (0 : Int))), (2, .int (gI (0 : Int)))]) [2, 1, 0] rfl ?_
  exact zl_X3_relatedToThemselves_4  n _ _ _ _ e
/-! X3_findLeftRecursive  -/
set_option maxRecDepth 100000 in
def b_X3_findLeftRecursive_85 (n : Nat)  (v0 : Nat)  (h : gi_H) : Option (gi_H) :=
  Option.bind (gi_is h v0 2) fun _ => Option.bind (f_X3_closeRelation n v0 h) fun q10 => Option.bind (gi_is q10 v0 2) fun _ => Option.bind (f_X3_relatedToThemselves n v0 q10) fun q12 => Option.bind (gi_pI q10 v0 2 3 q12) fun h13 => some h13
set_option maxRecDepth 100000 in
theorem zb_X3_findLeftRecursive_85 {al : Bool} {n : Nat}  {h1 : gi_H}  {v0 : Nat}  {h : gi_H} (e : b_X3_findLeftRecursive_85 n v0 h = some h1) : gx_Z mX3_findLeftRecursive al al 0 0 85 [(0, .ref v0)] [] (gi_cv h) (.inl none) (gi_cv h1) := by
  refine gx_aload_n dX3_findLeftRecursive_85 rfl 0 rfl ?_
  refine gx_bE e (fun _ hu9 e => ?_)
  refine gx_bE e (fun q10 hq10 e => ?_)
  refine gx_callV (n := 0) (st := []) (As := []) (b := v0) dX3_findLeftRecursive_86 (z_X3_closeRelation hq10) rfl ⟨rfl, gw_cw_X3_closeRelation, gw_6, gp_X3_closeRelation, ⟨Nat.le_of_ble_eq_true rfl, Nat.le_of_ble_eq_true rfl⟩⟩ (gi_isS hu9) (by decide) gw_468 gw_470 gs_8 rfl ⟨Nat.le_of_ble_eq_true rfl, Nat.le_of_ble_eq_true rfl⟩ (Nat.le_of_ble_eq_true rfl) (gy_k0 (kc2 := 0) (ks2 := 0) ⟨rfl, rfl⟩ ?_) gy_kn
  refine gx_aload_n dX3_findLeftRecursive_89 rfl 0 rfl ?_
  refine gx_aload_n dX3_findLeftRecursive_90 rfl 0 rfl ?_
  refine gx_bE e (fun _ hu11 e => ?_)
  refine gx_bE e (fun q12 hq12 e => ?_)
  refine gx_callV (n := 0) (st := [.ref v0]) (As := []) (b := v0) dX3_findLeftRecursive_91 (z_X3_relatedToThemselves hq12) rfl ⟨rfl, gw_cw_X3_relatedToThemselves, gw_6, gp_X3_relatedToThemselves, ⟨Nat.le_of_ble_eq_true rfl, Nat.le_of_ble_eq_true rfl⟩⟩ (gi_isS hu11) (by decide) gw_479 gw_481 gs_10 rfl ⟨Nat.le_of_ble_eq_true rfl, Nat.le_of_ble_eq_true rfl⟩ (Nat.le_of_ble_eq_true rfl) (gy_k1 (x := .int (gI q12)) (kc2 := 0) (ks2 := 0) ⟨rfl, rfl⟩ ?_) gy_kn
  refine gx_bE e (fun h13 hh13 e => ?_)
  refine gy_qI hh13 dX3_findLeftRecursive_94 gf_RX3_87_2_3 (by decide) gkN_2_3 rfl (Or.inl rfl) ?_
  cases e
  exact gx_vret dX3_findLeftRecursive_97 rfl ⟨Nat.le_of_ble_eq_true rfl, Nat.le_of_ble_eq_true rfl⟩ (fun z => z)
set_option maxRecDepth 100000 in
def b_X3_findLeftRecursive_79 (n : Nat) (r10 : Nat → Int → gi_H → Option (gi_H)) (v0 : Nat) (v1 : Int)  (h : gi_H) : Option (gi_H) :=
  gx_nm (v1 + (1 : Int)) fun t20 => r10 v0 t20 h
set_option maxRecDepth 100000 in
theorem zb_X3_findLeftRecursive_79 {al : Bool} {n : Nat} {r10 : Nat → Int → gi_H → Option (gi_H)} {h1 : gi_H} (hr10 : ∀ (x0 : Nat) (x1 : Int) (hh : gi_H), r10 x0 x1 hh = some h1 → gx_Z mX3_findLeftRecursive al al 0 0 10 [(0, .ref x0), (1, .int (gI x1))] [] (gi_cv hh) (.inl none) (gi_cv h1)) {v0 : Nat} {v1 : Int}  {h : gi_H} (e : b_X3_findLeftRecursive_79 n r10 v0 v1 h = some h1) : gx_Z mX3_findLeftRecursive al al 0 0 79 [(0, .ref v0), (1, .int (gI v1))] [] (gi_cv h) (.inl none) (gi_cv h1) := by
  refine gx_nE e (fun t20 ht20 e => ?_)
  refine gy_iinc (v := t20) (ls2 := [(1, .int (gI t20)), (0, .ref v0)]) dX3_findLeftRecursive_79 1 rfl ht20 (Nat.le_of_ble_eq_true rfl) rfl ?_
  refine gx_goto (tgt := 10) dX3_findLeftRecursive_82 (by decide) ?_
  refine gx_sub (ls2 := [(0, .ref v0), (1, .int (gI t20))]) [1, 0] rfl ?_
  exact hr10 _ _ _ e
set_option maxRecDepth 100000 in
def b_X3_findLeftRecursive_72 (n : Nat) (r10 : Nat → Int → gi_H → Option (gi_H)) (r25 : Nat → Int → Int → Int → gi_H → Option (gi_H)) (v0 : Nat) (v1 : Int) (v3 : Int) (s0 : Int) (h : gi_H) : Option (gi_H) :=
  gx_nm (v3 + (1 : Int)) fun t32 => r25 v0 v1 s0 t32 h
set_option maxRecDepth 100000 in
theorem zb_X3_findLeftRecursive_72 {al : Bool} {n : Nat} {r10 : Nat → Int → gi_H → Option (gi_H)} {r25 : Nat → Int → Int → Int → gi_H → Option (gi_H)} {h1 : gi_H} (hr10 : ∀ (x0 : Nat) (x1 : Int) (hh : gi_H), r10 x0 x1 hh = some h1 → gx_Z mX3_findLeftRecursive al al 0 0 10 [(0, .ref x0), (1, .int (gI x1))] [] (gi_cv hh) (.inl none) (gi_cv h1)) (hr25 : ∀ (x0 : Nat) (x1 : Int) (x2 : Int) (x3 : Int) (hh : gi_H), r25 x0 x1 x2 x3 hh = some h1 → gx_Z mX3_findLeftRecursive al al 0 0 25 [(0, .ref x0), (1, .int (gI x1)), (2, .int (gI x2)), (3, .int (gI x3))] [] (gi_cv hh) (.inl none) (gi_cv h1)) {v0 : Nat} {v1 : Int} {v3 : Int} {s0 : Int} {h : gi_H} (e : b_X3_findLeftRecursive_72 n r10 r25 v0 v1 v3 s0 h = some h1) : gx_Z mX3_findLeftRecursive al al 0 0 72 [(0, .ref v0), (1, .int (gI v1)), (3, .int (gI v3))] [.int (gI s0)] (gi_cv h) (.inl none) (gi_cv h1) := by
  refine gx_istore_n (ls2 := [(2, .int (gI s0)), (0, .ref v0), (1, .int (gI v1)), (3, .int (gI v3))]) dX3_findLeftRecursive_72 rfl (Nat.le_of_ble_eq_true rfl) rfl ?_
  refine gx_nE e (fun t32 ht32 e => ?_)
  refine gy_iinc (v := t32) (ls2 := [(3, .int (gI t32)), (2, .int (gI s0)), (0, .ref v0), (1, .int (gI v1))]) dX3_findLeftRecursive_73 3 rfl ht32 (Nat.le_of_ble_eq_true rfl) rfl ?_
  refine gx_goto (tgt := 25) dX3_findLeftRecursive_76 (by decide) ?_
  refine gx_sub (ls2 := [(0, .ref v0), (1, .int (gI v1)), (2, .int (gI s0)), (3, .int (gI t32))]) [2, 3, 1, 0] rfl ?_
  exact hr25 _ _ _ _ _ e
set_option maxRecDepth 100000 in
def b_X3_findLeftRecursive_25 (n : Nat) (r10 : Nat → Int → gi_H → Option (gi_H)) (r25 : Nat → Int → Int → Int → gi_H → Option (gi_H)) (v0 : Nat) (v1 : Int) (v2 : Int) (v3 : Int)  (h : gi_H) : Option (gi_H) :=
  Option.bind (gi_gR h v0 2 0) fun t14 => Option.bind (gi_is h t14 3) fun _ => Option.bind (f_X4_length t14 v1 h) fun q16 => Option.bind (gi_rg v3) fun _ => Option.bind (gi_rg q16) fun _ => if q16 ≤ v3 then (b_X3_findLeftRecursive_79 n r10 v0 v1 h) else (Option.bind (gi_rg v2) fun _ => if v2 = 0 then (b_X3_findLeftRecursive_79 n r10 v0 v1 h) else (Option.bind (gi_is h v0 2) fun _ => Option.bind (f_X3_relate v0 v1 v3 h) fun q24 => Option.bind (gi_gR q24 v0 2 0) fun t25 => Option.bind (gi_is q24 t25 3) fun _ => Option.bind (f_X4_symbol t25 v1 v3 q24) fun q27 => Option.bind (gi_is q24 v0 2) fun _ => Option.bind (f_X3_beginOf v0 q27 q24) fun q29 => Option.bind (gi_rg (gi_and q29 (512 : Int))) fun _ => if (gi_and q29 (512 : Int)) = 0 then (b_X3_findLeftRecursive_72 n r10 r25 v0 v1 v3 (0 : Int) q24) else (b_X3_findLeftRecursive_72 n r10 r25 v0 v1 v3 (1 : Int) q24)))
set_option maxRecDepth 100000 in
theorem zb_X3_findLeftRecursive_25 {al : Bool} {n : Nat} {r10 : Nat → Int → gi_H → Option (gi_H)} {r25 : Nat → Int → Int → Int → gi_H → Option (gi_H)} {h1 : gi_H} (hr10 : ∀ (x0 : Nat) (x1 : Int) (hh : gi_H), r10 x0 x1 hh = some h1 → gx_Z mX3_findLeftRecursive al al 0 0 10 [(0, .ref x0), (1, .int (gI x1))] [] (gi_cv hh) (.inl none) (gi_cv h1)) (hr25 : ∀ (x0 : Nat) (x1 : Int) (x2 : Int) (x3 : Int) (hh : gi_H), r25 x0 x1 x2 x3 hh = some h1 → gx_Z mX3_findLeftRecursive al al 0 0 25 [(0, .ref x0), (1, .int (gI x1)), (2, .int (gI x2)), (3, .int (gI x3))] [] (gi_cv hh) (.inl none) (gi_cv h1)) {v0 : Nat} {v1 : Int} {v2 : Int} {v3 : Int}  {h : gi_H} (e : b_X3_findLeftRecursive_25 n r10 r25 v0 v1 v2 v3 h = some h1) : gx_Z mX3_findLeftRecursive al al 0 0 25 [(0, .ref v0), (1, .int (gI v1)), (2, .int (gI v2)), (3, .int (gI v3))] [] (gi_cv h) (.inl none) (gi_cv h1) := by
  refine gx_iload_n dX3_findLeftRecursive_25 rfl 3 rfl ?_
  refine gx_aload_n dX3_findLeftRecursive_26 rfl 0 rfl ?_
  refine gx_bE e (fun t14 ht14 e => ?_)
  refine gy_fR ht14 dX3_findLeftRecursive_27 gf_RX3_37_2_0 (by decide) gkN_2_0 gkR_2_0 ?_
  refine gx_iload_n dX3_findLeftRecursive_30 rfl 1 rfl ?_
  refine gx_bE e (fun _ hu15 e => ?_)
  refine gx_bE e (fun q16 hq16 e => ?_)
  refine gx_callV (n := 1) (st := [.int (gI v3)]) (As := [.int (gI v1)]) (b := t14) dX3_findLeftRecursive_31 (z_X4_length hq16) rfl ⟨rfl, gw_cw_X4_length, gw_3, gp_X4_length, ⟨Nat.le_of_ble_eq_true rfl, Nat.le_of_ble_eq_true rfl⟩⟩ (gi_isS hu15) (by decide) gw_423 gw_424 gw_425 rfl ⟨Nat.le_of_ble_eq_true rfl, Nat.le_of_ble_eq_true rfl⟩ (Nat.le_of_ble_eq_true rfl) (gy_k1 (x := .int (gI q16)) (kc2 := 0) (ks2 := 0) ⟨rfl, rfl⟩ ?_) gy_kn
  refine gx_bE e (fun _ g17 e => ?_)
  refine gx_bE e (fun _ g18 e => ?_)
  refine gx_iE e (fun c19 e => ?_) (fun c19 e => ?_)
  · refine gy_icmp_ge (tgt := 79) (gi_rgS g17) (gi_rgS g18) dX3_findLeftRecursive_34 (by decide) (fun _ => ?_) (fun z => absurd c19 z)
    refine gx_sub (ls2 := [(0, .ref v0), (1, .int (gI v1))]) [0, 1] rfl ?_
    exact zb_X3_findLeftRecursive_79 hr10 e
  · refine gy_icmp_ge (tgt := 79) (gi_rgS g17) (gi_rgS g18) dX3_findLeftRecursive_34 (by decide) (fun z => absurd z c19) (fun _ => ?_)
    refine gx_iload_n dX3_findLeftRecursive_37 rfl 2 rfl ?_
    refine gx_bE e (fun _ g21 e => ?_)
    refine gx_iE e (fun c22 e => ?_) (fun c22 e => ?_)
    · refine gy_if_eq (tgt := 79) (gi_rgS g21) dX3_findLeftRecursive_38 (by decide) (fun _ => ?_) (fun z => absurd c22 z)
      refine gx_sub (ls2 := [(0, .ref v0), (1, .int (gI v1))]) [0, 1] rfl ?_
      exact zb_X3_findLeftRecursive_79 hr10 e
    · refine gy_if_eq (tgt := 79) (gi_rgS g21) dX3_findLeftRecursive_38 (by decide) (fun z => absurd z c22) (fun _ => ?_)
      refine gx_aload_n dX3_findLeftRecursive_41 rfl 0 rfl ?_
      refine gx_iload_n dX3_findLeftRecursive_42 rfl 1 rfl ?_
      refine gx_iload_n dX3_findLeftRecursive_43 rfl 3 rfl ?_
      refine gx_bE e (fun _ hu23 e => ?_)
      refine gx_bE e (fun q24 hq24 e => ?_)
      refine gx_callV (n := 2) (st := []) (As := [.int (gI v1), .int (gI v3)]) (b := v0) dX3_findLeftRecursive_44 (z_X3_relate hq24) rfl ⟨rfl, gw_cw_X3_relate, gw_6, gp_X3_relate, ⟨Nat.le_of_ble_eq_true rfl, Nat.le_of_ble_eq_true rfl⟩⟩ (gi_isS hu23) (by decide) gw_464 gw_466 gs_7 rfl ⟨Nat.le_of_ble_eq_true rfl, Nat.le_of_ble_eq_true rfl⟩ (Nat.le_of_ble_eq_true rfl) (gy_k0 (kc2 := 0) (ks2 := 0) ⟨rfl, rfl⟩ ?_) gy_kn
      refine gx_aload_n dX3_findLeftRecursive_47 rfl 0 rfl ?_
      refine gx_aload_n dX3_findLeftRecursive_48 rfl 0 rfl ?_
      refine gx_bE e (fun t25 ht25 e => ?_)
      refine gy_fR ht25 dX3_findLeftRecursive_49 gf_RX3_37_2_0 (by decide) gkN_2_0 gkR_2_0 ?_
      refine gx_iload_n dX3_findLeftRecursive_52 rfl 1 rfl ?_
      refine gx_iload_n dX3_findLeftRecursive_53 rfl 3 rfl ?_
      refine gx_bE e (fun _ hu26 e => ?_)
      refine gx_bE e (fun q27 hq27 e => ?_)
      refine gx_callV (n := 2) (st := [.ref v0]) (As := [.int (gI v1), .int (gI v3)]) (b := t25) dX3_findLeftRecursive_54 (z_X4_symbol hq27) rfl ⟨rfl, gw_cw_X4_symbol, gw_3, gp_X4_symbol, ⟨Nat.le_of_ble_eq_true rfl, Nat.le_of_ble_eq_true rfl⟩⟩ (gi_isS hu26) (by decide) gw_427 gw_428 gw_429 rfl ⟨Nat.le_of_ble_eq_true rfl, Nat.le_of_ble_eq_true rfl⟩ (Nat.le_of_ble_eq_true rfl) (gy_k1 (x := .int (gI q27)) (kc2 := 0) (ks2 := 0) ⟨rfl, rfl⟩ ?_) gy_kn
      refine gx_bE e (fun _ hu28 e => ?_)
      refine gx_bE e (fun q29 hq29 e => ?_)
      refine gx_callV (n := 1) (st := []) (As := [.int (gI q27)]) (b := v0) dX3_findLeftRecursive_57 (z_X3_beginOf hq29) rfl ⟨rfl, gw_cw_X3_beginOf, gw_6, gp_X3_beginOf, ⟨Nat.le_of_ble_eq_true rfl, Nat.le_of_ble_eq_true rfl⟩⟩ (gi_isS hu28) (by decide) gw_431 gw_433 gs_3 rfl ⟨Nat.le_of_ble_eq_true rfl, Nat.le_of_ble_eq_true rfl⟩ (Nat.le_of_ble_eq_true rfl) (gy_k1 (x := .int (gI q29)) (kc2 := 0) (ks2 := 0) ⟨rfl, rfl⟩ ?_) gy_kn
      refine gy_sipush dX3_findLeftRecursive_60 gcs_512 ?_
      refine gy_iand dX3_findLeftRecursive_63 ?_
      refine gx_bE e (fun _ g30 e => ?_)
      refine gx_iE e (fun c31 e => ?_) (fun c31 e => ?_)
      · refine gy_if_eq (tgt := 71) (gi_rgS g30) dX3_findLeftRecursive_64 (by decide) (fun _ => ?_) (fun z => absurd c31 z)
        refine gy_iconst dX3_findLeftRecursive_71 ?_
        refine gx_sub (ls2 := [(0, .ref v0), (1, .int (gI v1)), (3, .int (gI v3))]) [0, 1, 3] rfl ?_
        exact zb_X3_findLeftRecursive_72 hr10 hr25 e
      · refine gy_if_eq (tgt := 71) (gi_rgS g30) dX3_findLeftRecursive_64 (by decide) (fun z => absurd z c31) (fun _ => ?_)
        refine gy_iconst dX3_findLeftRecursive_67 ?_
        refine gx_goto (tgt := 72) dX3_findLeftRecursive_68 (by decide) ?_
        refine gx_sub (ls2 := [(0, .ref v0), (1, .int (gI v1)), (3, .int (gI v3))]) [0, 1, 3] rfl ?_
        exact zb_X3_findLeftRecursive_72 hr10 hr25 e
def l_X3_findLeftRecursive_25 (n : Nat) (r10 : Nat → Int → gi_H → Option (gi_H)) : Nat → Nat → Int → Int → Int → gi_H → Option (gi_H)
  | 0, _, _, _, _, _ => none
  | k + 1, v0, v1, v2, v3, h => b_X3_findLeftRecursive_25 n r10 (l_X3_findLeftRecursive_25 n r10 k) v0 v1 v2 v3 h
theorem zl_X3_findLeftRecursive_25 {al : Bool} {n : Nat} {r10 : Nat → Int → gi_H → Option (gi_H)} {h1 : gi_H} (hr10 : ∀ (x0 : Nat) (x1 : Int) (hh : gi_H), r10 x0 x1 hh = some h1 → gx_Z mX3_findLeftRecursive al al 0 0 10 [(0, .ref x0), (1, .int (gI x1))] [] (gi_cv hh) (.inl none) (gi_cv h1)) : ∀ (k : Nat) (v0 : Nat) (v1 : Int) (v2 : Int) (v3 : Int) (h : gi_H), l_X3_findLeftRecursive_25 n r10 k v0 v1 v2 v3 h = some h1 → gx_Z mX3_findLeftRecursive al al 0 0 25 [(0, .ref v0), (1, .int (gI v1)), (2, .int (gI v2)), (3, .int (gI v3))] [] (gi_cv h) (.inl none) (gi_cv h1)
  | 0, _, _, _, _, _, e => gx_0E e
  | k + 1, _, _, _, _, _, e => zb_X3_findLeftRecursive_25 (n := n) hr10 (zl_X3_findLeftRecursive_25 hr10 k) e
set_option maxRecDepth 100000 in
def b_X3_findLeftRecursive_10 (n : Nat) (r10 : Nat → Int → gi_H → Option (gi_H)) (v0 : Nat) (v1 : Int)  (h : gi_H) : Option (gi_H) :=
  Option.bind (gi_gR h v0 2 0) fun t3 => Option.bind (gi_is h t3 3) fun _ => Option.bind (f_X4_count t3 h) fun q5 => Option.bind (gi_rg v1) fun _ => Option.bind (gi_rg q5) fun _ => if q5 ≤ v1 then (b_X3_findLeftRecursive_85 n  v0 h) else (l_X3_findLeftRecursive_25 n r10 n v0 v1 (1 : Int) (0 : Int) h)
set_option maxRecDepth 100000 in
theorem zb_X3_findLeftRecursive_10 {al : Bool} {n : Nat} {r10 : Nat → Int → gi_H → Option (gi_H)} {h1 : gi_H} (hr10 : ∀ (x0 : Nat) (x1 : Int) (hh : gi_H), r10 x0 x1 hh = some h1 → gx_Z mX3_findLeftRecursive al al 0 0 10 [(0, .ref x0), (1, .int (gI x1))] [] (gi_cv hh) (.inl none) (gi_cv h1)) {v0 : Nat} {v1 : Int}  {h : gi_H} (e : b_X3_findLeftRecursive_10 n r10 v0 v1 h = some h1) : gx_Z mX3_findLeftRecursive al al 0 0 10 [(0, .ref v0), (1, .int (gI v1))] [] (gi_cv h) (.inl none) (gi_cv h1) := by
  refine gx_iload_n dX3_findLeftRecursive_10 rfl 1 rfl ?_
  refine gx_aload_n dX3_findLeftRecursive_11 rfl 0 rfl ?_
  refine gx_bE e (fun t3 ht3 e => ?_)
  refine gy_fR ht3 dX3_findLeftRecursive_12 gf_RX3_37_2_0 (by decide) gkN_2_0 gkR_2_0 ?_
  refine gx_bE e (fun _ hu4 e => ?_)
  refine gx_bE e (fun q5 hq5 e => ?_)
  refine gx_callV (n := 0) (st := [.int (gI v1)]) (As := []) (b := t3) dX3_findLeftRecursive_15 (z_X4_count hq5) rfl ⟨rfl, gw_cw_X4_count, gw_3, gp_X4_count, ⟨Nat.le_of_ble_eq_true rfl, Nat.le_of_ble_eq_true rfl⟩⟩ (gi_isS hu4) (by decide) gw_414 gw_393 gw_394 rfl ⟨Nat.le_of_ble_eq_true rfl, Nat.le_of_ble_eq_true rfl⟩ (Nat.le_of_ble_eq_true rfl) (gy_k1 (x := .int (gI q5)) (kc2 := 0) (ks2 := 0) ⟨rfl, rfl⟩ ?_) gy_kn
  refine gx_bE e (fun _ g6 e => ?_)
  refine gx_bE e (fun _ g7 e => ?_)
  refine gx_iE e (fun c8 e => ?_) (fun c8 e => ?_)
  · refine gy_icmp_ge (tgt := 85) (gi_rgS g6) (gi_rgS g7) dX3_findLeftRecursive_18 (by decide) (fun _ => ?_) (fun z => absurd c8 z)
    refine gx_sub (ls2 := [(0, .ref v0)]) [0] rfl ?_
    exact zb_X3_findLeftRecursive_85  e
  · refine gy_icmp_ge (tgt := 85) (gi_rgS g6) (gi_rgS g7) dX3_findLeftRecursive_18 (by decide) (fun z => absurd z c8) (fun _ => ?_)
    refine gy_iconst dX3_findLeftRecursive_21 ?_
    refine gx_istore_n (ls2 := [(2, .int (gI (1 : Int))), (0, .ref v0), (1, .int (gI v1))]) dX3_findLeftRecursive_22 rfl (Nat.le_of_ble_eq_true rfl) rfl ?_
    refine gy_iconst dX3_findLeftRecursive_23 ?_
    refine gx_istore_n (ls2 := [(3, .int (gI (0 : Int))), (2, .int (gI (1 : Int))), (0, .ref v0), (1, .int (gI v1))]) dX3_findLeftRecursive_24 rfl (Nat.le_of_ble_eq_true rfl) rfl ?_
    refine gx_sub (ls2 := [(0, .ref v0), (1, .int (gI v1)), (2, .int (gI (1 : Int))), (3, .int (gI (0 : Int)))]) [2, 3, 1, 0] rfl ?_
    exact zl_X3_findLeftRecursive_25 hr10 n _ _ _ _ _ e
def l_X3_findLeftRecursive_10 (n : Nat)  : Nat → Nat → Int → gi_H → Option (gi_H)
  | 0, _, _, _ => none
  | k + 1, v0, v1, h => b_X3_findLeftRecursive_10 n  (l_X3_findLeftRecursive_10 n  k) v0 v1 h
theorem zl_X3_findLeftRecursive_10 {al : Bool} {n : Nat}  {h1 : gi_H}  : ∀ (k : Nat) (v0 : Nat) (v1 : Int) (h : gi_H), l_X3_findLeftRecursive_10 n  k v0 v1 h = some h1 → gx_Z mX3_findLeftRecursive al al 0 0 10 [(0, .ref v0), (1, .int (gI v1))] [] (gi_cv h) (.inl none) (gi_cv h1)
  | 0, _, _, _, e => gx_0E e
  | k + 1, _, _, _, e => zb_X3_findLeftRecursive_10 (n := n)  (zl_X3_findLeftRecursive_10  k) e
set_option maxRecDepth 100000 in
def f_X3_findLeftRecursive (n : Nat) (v0 : Nat) (h : gi_H) : Option (gi_H) :=
  Option.bind (gi_gR h v0 2 11) fun t1 => Option.bind (f_J7_fill_53178 n t1 (0 : Int) h) fun q2 => l_X3_findLeftRecursive_10 n  n v0 (0 : Int) q2
set_option maxRecDepth 100000 in
theorem z_X3_findLeftRecursive {al : Bool} {n : Nat} {v0 : Nat} {h : gi_H} {h1 : gi_H} (e : f_X3_findLeftRecursive n v0 h = some h1) : gx_Cw mX3_findLeftRecursive al [.ref v0] (gi_cv h) (.inl none) (gi_cv h1) := by
  refine gx_enter (by decide +kernel) rfl (Nat.le_of_ble_eq_true rfl) ?_
  show gx_Z mX3_findLeftRecursive al al 0 0 0 [(0, .ref v0)] [] (gi_cv h) (.inl none) (gi_cv h1)
  refine gx_aload_n dX3_findLeftRecursive_0 rfl 0 rfl ?_
  refine gx_bE e (fun t1 ht1 e => ?_)
  refine gy_fR ht1 dX3_findLeftRecursive_1 gf_RX3_28_2_11 (by decide) gkN_2_11 gkR_2_11 ?_
  refine gy_iconst dX3_findLeftRecursive_4 ?_
  refine gx_bE e (fun q2 hq2 e => ?_)
  refine gx_callS (n := 2) (st := []) (As := [.ref t1, .int (gI (0 : Int))]) dX3_findLeftRecursive_5 (z_J7_fill_53178 hq2) rfl ⟨rfl, gw_cw_J7_fill_53178, gw_5, gp_J7_fill_53178, ⟨Nat.le_of_ble_eq_true rfl, Nat.le_of_ble_eq_true rfl⟩⟩ gw_412 gw_99 ⟨Nat.le_of_ble_eq_true rfl, Nat.le_of_ble_eq_true rfl⟩ (Nat.le_of_ble_eq_true rfl) (gy_k0 (kc2 := 0) (ks2 := 0) ⟨rfl, rfl⟩ ?_) gy_kn
  refine gy_iconst dX3_findLeftRecursive_8 ?_
  refine gx_istore_n (ls2 := [(1, .int (gI (0 : Int))), (0, .ref v0)]) dX3_findLeftRecursive_9 rfl (Nat.le_of_ble_eq_true rfl) rfl ?_
  refine gx_sub (ls2 := [(0, .ref v0), (1, .int (gI (0 : Int)))]) [1, 0] rfl ?_
  exact zl_X3_findLeftRecursive_10  n _ _ _ e
/-! X3_findCircular  -/
set_option maxRecDepth 100000 in
def b_X3_findCircular_100 (n : Nat)  (v0 : Nat)  (h : gi_H) : Option (gi_H) :=
  Option.bind (gi_is h v0 2) fun _ => Option.bind (f_X3_closeRelation n v0 h) fun q10 => Option.bind (gi_is q10 v0 2) fun _ => Option.bind (f_X3_relatedToThemselves n v0 q10) fun q12 => Option.bind (gi_pI q10 v0 2 4 q12) fun h13 => some h13
set_option maxRecDepth 100000 in
theorem zb_X3_findCircular_100 {al : Bool} {n : Nat}  {h1 : gi_H}  {v0 : Nat}  {h : gi_H} (e : b_X3_findCircular_100 n v0 h = some h1) : gx_Z mX3_findCircular al al 0 0 100 [(0, .ref v0)] [] (gi_cv h) (.inl none) (gi_cv h1) := by
  refine gx_aload_n dX3_findCircular_100 rfl 0 rfl ?_
  refine gx_bE e (fun _ hu9 e => ?_)
  refine gx_bE e (fun q10 hq10 e => ?_)
  refine gx_callV (n := 0) (st := []) (As := []) (b := v0) dX3_findCircular_101 (z_X3_closeRelation hq10) rfl ⟨rfl, gw_cw_X3_closeRelation, gw_6, gp_X3_closeRelation, ⟨Nat.le_of_ble_eq_true rfl, Nat.le_of_ble_eq_true rfl⟩⟩ (gi_isS hu9) (by decide) gw_468 gw_470 gs_8 rfl ⟨Nat.le_of_ble_eq_true rfl, Nat.le_of_ble_eq_true rfl⟩ (Nat.le_of_ble_eq_true rfl) (gy_k0 (kc2 := 0) (ks2 := 0) ⟨rfl, rfl⟩ ?_) gy_kn
  refine gx_aload_n dX3_findCircular_104 rfl 0 rfl ?_
  refine gx_aload_n dX3_findCircular_105 rfl 0 rfl ?_
  refine gx_bE e (fun _ hu11 e => ?_)
  refine gx_bE e (fun q12 hq12 e => ?_)
  refine gx_callV (n := 0) (st := [.ref v0]) (As := []) (b := v0) dX3_findCircular_106 (z_X3_relatedToThemselves hq12) rfl ⟨rfl, gw_cw_X3_relatedToThemselves, gw_6, gp_X3_relatedToThemselves, ⟨Nat.le_of_ble_eq_true rfl, Nat.le_of_ble_eq_true rfl⟩⟩ (gi_isS hu11) (by decide) gw_479 gw_481 gs_10 rfl ⟨Nat.le_of_ble_eq_true rfl, Nat.le_of_ble_eq_true rfl⟩ (Nat.le_of_ble_eq_true rfl) (gy_k1 (x := .int (gI q12)) (kc2 := 0) (ks2 := 0) ⟨rfl, rfl⟩ ?_) gy_kn
  refine gx_bE e (fun h13 hh13 e => ?_)
  refine gy_qI hh13 dX3_findCircular_109 gf_RX3_90_2_4 (by decide) gkN_2_4 rfl (Or.inl rfl) ?_
  cases e
  exact gx_vret dX3_findCircular_112 rfl ⟨Nat.le_of_ble_eq_true rfl, Nat.le_of_ble_eq_true rfl⟩ (fun z => z)
set_option maxRecDepth 100000 in
def b_X3_findCircular_94 (n : Nat) (r10 : Nat → Int → gi_H → Option (gi_H)) (v0 : Nat) (v1 : Int)  (h : gi_H) : Option (gi_H) :=
  gx_nm (v1 + (1 : Int)) fun t20 => r10 v0 t20 h
set_option maxRecDepth 100000 in
theorem zb_X3_findCircular_94 {al : Bool} {n : Nat} {r10 : Nat → Int → gi_H → Option (gi_H)} {h1 : gi_H} (hr10 : ∀ (x0 : Nat) (x1 : Int) (hh : gi_H), r10 x0 x1 hh = some h1 → gx_Z mX3_findCircular al al 0 0 10 [(0, .ref x0), (1, .int (gI x1))] [] (gi_cv hh) (.inl none) (gi_cv h1)) {v0 : Nat} {v1 : Int}  {h : gi_H} (e : b_X3_findCircular_94 n r10 v0 v1 h = some h1) : gx_Z mX3_findCircular al al 0 0 94 [(0, .ref v0), (1, .int (gI v1))] [] (gi_cv h) (.inl none) (gi_cv h1) := by
  refine gx_nE e (fun t20 ht20 e => ?_)
  refine gy_iinc (v := t20) (ls2 := [(1, .int (gI t20)), (0, .ref v0)]) dX3_findCircular_94 1 rfl ht20 (Nat.le_of_ble_eq_true rfl) rfl ?_
  refine gx_goto (tgt := 10) dX3_findCircular_97 (by decide) ?_
  refine gx_sub (ls2 := [(0, .ref v0), (1, .int (gI t20))]) [1, 0] rfl ?_
  exact hr10 _ _ _ e
set_option maxRecDepth 100000 in
def b_X3_findCircular_87 (n : Nat) (r10 : Nat → Int → gi_H → Option (gi_H)) (r25 : Nat → Int → Int → Int → gi_H → Option (gi_H)) (v0 : Nat) (v1 : Int) (v3 : Int) (s0 : Int) (h : gi_H) : Option (gi_H) :=
  gx_nm (v3 + (1 : Int)) fun t34 => r25 v0 v1 s0 t34 h
set_option maxRecDepth 100000 in
theorem zb_X3_findCircular_87 {al : Bool} {n : Nat} {r10 : Nat → Int → gi_H → Option (gi_H)} {r25 : Nat → Int → Int → Int → gi_H → Option (gi_H)} {h1 : gi_H} (hr10 : ∀ (x0 : Nat) (x1 : Int) (hh : gi_H), r10 x0 x1 hh = some h1 → gx_Z mX3_findCircular al al 0 0 10 [(0, .ref x0), (1, .int (gI x1))] [] (gi_cv hh) (.inl none) (gi_cv h1)) (hr25 : ∀ (x0 : Nat) (x1 : Int) (x2 : Int) (x3 : Int) (hh : gi_H), r25 x0 x1 x2 x3 hh = some h1 → gx_Z mX3_findCircular al al 0 0 25 [(0, .ref x0), (1, .int (gI x1)), (2, .int (gI x2)), (3, .int (gI x3))] [] (gi_cv hh) (.inl none) (gi_cv h1)) {v0 : Nat} {v1 : Int} {v3 : Int} {s0 : Int} {h : gi_H} (e : b_X3_findCircular_87 n r10 r25 v0 v1 v3 s0 h = some h1) : gx_Z mX3_findCircular al al 0 0 87 [(0, .ref v0), (1, .int (gI v1)), (3, .int (gI v3))] [.int (gI s0)] (gi_cv h) (.inl none) (gi_cv h1) := by
  refine gx_istore_n (ls2 := [(2, .int (gI s0)), (0, .ref v0), (1, .int (gI v1)), (3, .int (gI v3))]) dX3_findCircular_87 rfl (Nat.le_of_ble_eq_true rfl) rfl ?_
  refine gx_nE e (fun t34 ht34 e => ?_)
  refine gy_iinc (v := t34) (ls2 := [(3, .int (gI t34)), (2, .int (gI s0)), (0, .ref v0), (1, .int (gI v1))]) dX3_findCircular_88 3 rfl ht34 (Nat.le_of_ble_eq_true rfl) rfl ?_
  refine gx_goto (tgt := 25) dX3_findCircular_91 (by decide) ?_
  refine gx_sub (ls2 := [(0, .ref v0), (1, .int (gI v1)), (2, .int (gI s0)), (3, .int (gI t34))]) [2, 3, 1, 0] rfl ?_
  exact hr25 _ _ _ _ _ e
set_option maxRecDepth 100000 in
def b_X3_findCircular_62 (n : Nat) (r10 : Nat → Int → gi_H → Option (gi_H)) (r25 : Nat → Int → Int → Int → gi_H → Option (gi_H)) (v0 : Nat) (v1 : Int) (v3 : Int)  (h : gi_H) : Option (gi_H) :=
  Option.bind (gi_gR h v0 2 0) fun t27 => Option.bind (gi_is h t27 3) fun _ => Option.bind (f_X4_symbol t27 v1 v3 h) fun q29 => Option.bind (gi_is h v0 2) fun _ => Option.bind (f_X3_beginOf v0 q29 h) fun q31 => Option.bind (gi_rg (gi_and q31 (512 : Int))) fun _ => if (gi_and q31 (512 : Int)) = 0 then (b_X3_findCircular_87 n r10 r25 v0 v1 v3 (0 : Int) h) else (b_X3_findCircular_87 n r10 r25 v0 v1 v3 (1 : Int) h)
set_option maxRecDepth 100000 in
theorem zb_X3_findCircular_62 {al : Bool} {n : Nat} {r10 : Nat → Int → gi_H → Option (gi_H)} {r25 : Nat → Int → Int → Int → gi_H → Option (gi_H)} {h1 : gi_H} (hr10 : ∀ (x0 : Nat) (x1 : Int) (hh : gi_H), r10 x0 x1 hh = some h1 → gx_Z mX3_findCircular al al 0 0 10 [(0, .ref x0), (1, .int (gI x1))] [] (gi_cv hh) (.inl none) (gi_cv h1)) (hr25 : ∀ (x0 : Nat) (x1 : Int) (x2 : Int) (x3 : Int) (hh : gi_H), r25 x0 x1 x2 x3 hh = some h1 → gx_Z mX3_findCircular al al 0 0 25 [(0, .ref x0), (1, .int (gI x1)), (2, .int (gI x2)), (3, .int (gI x3))] [] (gi_cv hh) (.inl none) (gi_cv h1)) {v0 : Nat} {v1 : Int} {v3 : Int}  {h : gi_H} (e : b_X3_findCircular_62 n r10 r25 v0 v1 v3 h = some h1) : gx_Z mX3_findCircular al al 0 0 62 [(0, .ref v0), (1, .int (gI v1)), (3, .int (gI v3))] [] (gi_cv h) (.inl none) (gi_cv h1) := by
  refine gx_aload_n dX3_findCircular_62 rfl 0 rfl ?_
  refine gx_aload_n dX3_findCircular_63 rfl 0 rfl ?_
  refine gx_bE e (fun t27 ht27 e => ?_)
  refine gy_fR ht27 dX3_findCircular_64 gf_RX3_37_2_0 (by decide) gkN_2_0 gkR_2_0 ?_
  refine gx_iload_n dX3_findCircular_67 rfl 1 rfl ?_
  refine gx_iload_n dX3_findCircular_68 rfl 2 rfl ?_
  refine gx_bE e (fun _ hu28 e => ?_)
  refine gx_bE e (fun q29 hq29 e => ?_)
  refine gx_callV (n := 2) (st := [.ref v0]) (As := [.int (gI v1), .int (gI v3)]) (b := t27) dX3_findCircular_69 (z_X4_symbol hq29) rfl ⟨rfl, gw_cw_X4_symbol, gw_3, gp_X4_symbol, ⟨Nat.le_of_ble_eq_true rfl, Nat.le_of_ble_eq_true rfl⟩⟩ (gi_isS hu28) (by decide) gw_427 gw_428 gw_429 rfl ⟨Nat.le_of_ble_eq_true rfl, Nat.le_of_ble_eq_true rfl⟩ (Nat.le_of_ble_eq_true rfl) (gy_k1 (x := .int (gI q29)) (kc2 := 0) (ks2 := 0) ⟨rfl, rfl⟩ ?_) gy_kn
  refine gx_bE e (fun _ hu30 e => ?_)
  refine gx_bE e (fun q31 hq31 e => ?_)
  refine gx_callV (n := 1) (st := []) (As := [.int (gI q29)]) (b := v0) dX3_findCircular_72 (z_X3_beginOf hq31) rfl ⟨rfl, gw_cw_X3_beginOf, gw_6, gp_X3_beginOf, ⟨Nat.le_of_ble_eq_true rfl, Nat.le_of_ble_eq_true rfl⟩⟩ (gi_isS hu30) (by decide) gw_431 gw_433 gs_3 rfl ⟨Nat.le_of_ble_eq_true rfl, Nat.le_of_ble_eq_true rfl⟩ (Nat.le_of_ble_eq_true rfl) (gy_k1 (x := .int (gI q31)) (kc2 := 0) (ks2 := 0) ⟨rfl, rfl⟩ ?_) gy_kn
  refine gy_sipush dX3_findCircular_75 gcs_512 ?_
  refine gy_iand dX3_findCircular_78 ?_
  refine gx_bE e (fun _ g32 e => ?_)
  refine gx_iE e (fun c33 e => ?_) (fun c33 e => ?_)
  · refine gy_if_eq (tgt := 86) (gi_rgS g32) dX3_findCircular_79 (by decide) (fun _ => ?_) (fun z => absurd c33 z)
    refine gy_iconst dX3_findCircular_86 ?_
    exact zb_X3_findCircular_87 hr10 hr25 e
  · refine gy_if_eq (tgt := 86) (gi_rgS g32) dX3_findCircular_79 (by decide) (fun z => absurd z c33) (fun _ => ?_)
    refine gy_iconst dX3_findCircular_82 ?_
    refine gx_goto (tgt := 87) dX3_findCircular_83 (by decide) ?_
    exact zb_X3_findCircular_87 hr10 hr25 e
set_option maxRecDepth 100000 in
def b_X3_findCircular_25 (n : Nat) (r10 : Nat → Int → gi_H → Option (gi_H)) (r25 : Nat → Int → Int → Int → gi_H → Option (gi_H)) (v0 : Nat) (v1 : Int) (v2 : Int) (v3 : Int)  (h : gi_H) : Option (gi_H) :=
  Option.bind (gi_gR h v0 2 0) fun t14 => Option.bind (gi_is h t14 3) fun _ => Option.bind (f_X4_length t14 v1 h) fun q16 => Option.bind (gi_rg v3) fun _ => Option.bind (gi_rg q16) fun _ => if q16 ≤ v3 then (b_X3_findCircular_94 n r10 v0 v1 h) else (Option.bind (gi_rg v2) fun _ => if v2 = 0 then (b_X3_findCircular_94 n r10 v0 v1 h) else (Option.bind (gi_is h v0 2) fun _ => Option.bind (f_X3_beginnings n v0 v1 (v3 + (1 : Int)) h) fun q24 => Option.bind (gi_rg (gi_and q24 (512 : Int))) fun _ => if (gi_and q24 (512 : Int)) = 0 then (b_X3_findCircular_62 n r10 r25 v0 v1 v3 h) else (Option.bind (gi_is h v0 2) fun _ => Option.bind (f_X3_relate v0 v1 v3 h) fun q36 => b_X3_findCircular_62 n r10 r25 v0 v1 v3 q36)))
set_option maxRecDepth 100000 in
theorem zb_X3_findCircular_25 {al : Bool} {n : Nat} {r10 : Nat → Int → gi_H → Option (gi_H)} {r25 : Nat → Int → Int → Int → gi_H → Option (gi_H)} {h1 : gi_H} (hr10 : ∀ (x0 : Nat) (x1 : Int) (hh : gi_H), r10 x0 x1 hh = some h1 → gx_Z mX3_findCircular al al 0 0 10 [(0, .ref x0), (1, .int (gI x1))] [] (gi_cv hh) (.inl none) (gi_cv h1)) (hr25 : ∀ (x0 : Nat) (x1 : Int) (x2 : Int) (x3 : Int) (hh : gi_H), r25 x0 x1 x2 x3 hh = some h1 → gx_Z mX3_findCircular al al 0 0 25 [(0, .ref x0), (1, .int (gI x1)), (2, .int (gI x2)), (3, .int (gI x3))] [] (gi_cv hh) (.inl none) (gi_cv h1)) {v0 : Nat} {v1 : Int} {v2 : Int} {v3 : Int}  {h : gi_H} (e : b_X3_findCircular_25 n r10 r25 v0 v1 v2 v3 h = some h1) : gx_Z mX3_findCircular al al 0 0 25 [(0, .ref v0), (1, .int (gI v1)), (2, .int (gI v2)), (3, .int (gI v3))] [] (gi_cv h) (.inl none) (gi_cv h1) := by
  refine gx_iload_n dX3_findCircular_25 rfl 3 rfl ?_
  refine gx_aload_n dX3_findCircular_26 rfl 0 rfl ?_
  refine gx_bE e (fun t14 ht14 e => ?_)
  refine gy_fR ht14 dX3_findCircular_27 gf_RX3_37_2_0 (by decide) gkN_2_0 gkR_2_0 ?_
  refine gx_iload_n dX3_findCircular_30 rfl 1 rfl ?_
  refine gx_bE e (fun _ hu15 e => ?_)
  refine gx_bE e (fun q16 hq16 e => ?_)
  refine gx_callV (n := 1) (st := [.int (gI v3)]) (As := [.int (gI v1)]) (b := t14) dX3_findCircular_31 (z_X4_length hq16) rfl ⟨rfl, gw_cw_X4_length, gw_3, gp_X4_length, ⟨Nat.le_of_ble_eq_true rfl, Nat.le_of_ble_eq_true rfl⟩⟩ (gi_isS hu15) (by decide) gw_423 gw_424 gw_425 rfl ⟨Nat.le_of_ble_eq_true rfl, Nat.le_of_ble_eq_true rfl⟩ (Nat.le_of_ble_eq_true rfl) (gy_k1 (x := .int (gI q16)) (kc2 := 0) (ks2 := 0) ⟨rfl, rfl⟩ ?_) gy_kn
  refine gx_bE e (fun _ g17 e => ?_)
  refine gx_bE e (fun _ g18 e => ?_)
  refine gx_iE e (fun c19 e => ?_) (fun c19 e => ?_)
  · refine gy_icmp_ge (tgt := 94) (gi_rgS g17) (gi_rgS g18) dX3_findCircular_34 (by decide) (fun _ => ?_) (fun z => absurd c19 z)
    refine gx_sub (ls2 := [(0, .ref v0), (1, .int (gI v1))]) [0, 1] rfl ?_
    exact zb_X3_findCircular_94 hr10 e
  · refine gy_icmp_ge (tgt := 94) (gi_rgS g17) (gi_rgS g18) dX3_findCircular_34 (by decide) (fun z => absurd z c19) (fun _ => ?_)
    refine gx_iload_n dX3_findCircular_37 rfl 2 rfl ?_
    refine gx_bE e (fun _ g21 e => ?_)
    refine gx_iE e (fun c22 e => ?_) (fun c22 e => ?_)
    · refine gy_if_eq (tgt := 94) (gi_rgS g21) dX3_findCircular_38 (by decide) (fun _ => ?_) (fun z => absurd c22 z)
      refine gx_sub (ls2 := [(0, .ref v0), (1, .int (gI v1))]) [0, 1] rfl ?_
      exact zb_X3_findCircular_94 hr10 e
    · refine gy_if_eq (tgt := 94) (gi_rgS g21) dX3_findCircular_38 (by decide) (fun z => absurd z c22) (fun _ => ?_)
      refine gx_aload_n dX3_findCircular_41 rfl 0 rfl ?_
      refine gx_iload_n dX3_findCircular_42 rfl 1 rfl ?_
      refine gx_iload_n dX3_findCircular_43 rfl 3 rfl ?_
      refine gy_iconst dX3_findCircular_44 ?_
      refine gy_iadd dX3_findCircular_45 ?_
      refine gx_bE e (fun _ hu23 e => ?_)
      refine gx_bE e (fun q24 hq24 e => ?_)
      refine gx_callV (n := 2) (st := []) (As := [.int (gI v1), .int (gI (v3 + (1 : Int)))]) (b := v0) dX3_findCircular_46 (z_X3_beginnings hq24) rfl ⟨rfl, gw_cw_X3_beginnings, gw_6, gp_X3_beginnings, ⟨Nat.le_of_ble_eq_true rfl, Nat.le_of_ble_eq_true rfl⟩⟩ (gi_isS hu23) (by decide) gw_419 gw_421 gs_2 rfl ⟨Nat.le_of_ble_eq_true rfl, Nat.le_of_ble_eq_true rfl⟩ (Nat.le_of_ble_eq_true rfl) (gy_k1 (x := .int (gI q24)) (kc2 := 0) (ks2 := 0) ⟨rfl, rfl⟩ ?_) gy_kn
      refine gy_sipush dX3_findCircular_49 gcs_512 ?_
      refine gy_iand dX3_findCircular_52 ?_
      refine gx_bE e (fun _ g25 e => ?_)
      refine gx_iE e (fun c26 e => ?_) (fun c26 e => ?_)
      · refine gy_if_eq (tgt := 62) (gi_rgS g25) dX3_findCircular_53 (by decide) (fun _ => ?_) (fun z => absurd c26 z)
        refine gx_sub (ls2 := [(0, .ref v0), (1, .int (gI v1)), (3, .int (gI v3))]) [0, 1, 3] rfl ?_
        exact zb_X3_findCircular_62 hr10 hr25 e
      · refine gy_if_eq (tgt := 62) (gi_rgS g25) dX3_findCircular_53 (by decide) (fun z => absurd z c26) (fun _ => ?_)
        refine gx_aload_n dX3_findCircular_56 rfl 0 rfl ?_
        refine gx_iload_n dX3_findCircular_57 rfl 1 rfl ?_
        refine gx_iload_n dX3_findCircular_58 rfl 3 rfl ?_
        refine gx_bE e (fun _ hu35 e => ?_)
        refine gx_bE e (fun q36 hq36 e => ?_)
        refine gx_callV (n := 2) (st := []) (As := [.int (gI v1), .int (gI v3)]) (b := v0) dX3_findCircular_59 (z_X3_relate hq36) rfl ⟨rfl, gw_cw_X3_relate, gw_6, gp_X3_relate, ⟨Nat.le_of_ble_eq_true rfl, Nat.le_of_ble_eq_true rfl⟩⟩ (gi_isS hu35) (by decide) gw_464 gw_466 gs_7 rfl ⟨Nat.le_of_ble_eq_true rfl, Nat.le_of_ble_eq_true rfl⟩ (Nat.le_of_ble_eq_true rfl) (gy_k0 (kc2 := 0) (ks2 := 0) ⟨rfl, rfl⟩ ?_) gy_kn
        refine gx_sub (ls2 := [(0, .ref v0), (1, .int (gI v1)), (3, .int (gI v3))]) [0, 1, 3] rfl ?_
        exact zb_X3_findCircular_62 hr10 hr25 e
def l_X3_findCircular_25 (n : Nat) (r10 : Nat → Int → gi_H → Option (gi_H)) : Nat → Nat → Int → Int → Int → gi_H → Option (gi_H)
  | 0, _, _, _, _, _ => none
  | k + 1, v0, v1, v2, v3, h => b_X3_findCircular_25 n r10 (l_X3_findCircular_25 n r10 k) v0 v1 v2 v3 h
theorem zl_X3_findCircular_25 {al : Bool} {n : Nat} {r10 : Nat → Int → gi_H → Option (gi_H)} {h1 : gi_H} (hr10 : ∀ (x0 : Nat) (x1 : Int) (hh : gi_H), r10 x0 x1 hh = some h1 → gx_Z mX3_findCircular al al 0 0 10 [(0, .ref x0), (1, .int (gI x1))] [] (gi_cv hh) (.inl none) (gi_cv h1)) : ∀ (k : Nat) (v0 : Nat) (v1 : Int) (v2 : Int) (v3 : Int) (h : gi_H), l_X3_findCircular_25 n r10 k v0 v1 v2 v3 h = some h1 → gx_Z mX3_findCircular al al 0 0 25 [(0, .ref v0), (1, .int (gI v1)), (2, .int (gI v2)), (3, .int (gI v3))] [] (gi_cv h) (.inl none) (gi_cv h1)
  | 0, _, _, _, _, _, e => gx_0E e
  | k + 1, _, _, _, _, _, e => zb_X3_findCircular_25 (n := n) hr10 (zl_X3_findCircular_25 hr10 k) e
set_option maxRecDepth 100000 in
def b_X3_findCircular_10 (n : Nat) (r10 : Nat → Int → gi_H → Option (gi_H)) (v0 : Nat) (v1 : Int)  (h : gi_H) : Option (gi_H) :=
  Option.bind (gi_gR h v0 2 0) fun t3 => Option.bind (gi_is h t3 3) fun _ => Option.bind (f_X4_count t3 h) fun q5 => Option.bind (gi_rg v1) fun _ => Option.bind (gi_rg q5) fun _ => if q5 ≤ v1 then (b_X3_findCircular_100 n  v0 h) else (l_X3_findCircular_25 n r10 n v0 v1 (1 : Int) (0 : Int) h)
set_option maxRecDepth 100000 in
theorem zb_X3_findCircular_10 {al : Bool} {n : Nat} {r10 : Nat → Int → gi_H → Option (gi_H)} {h1 : gi_H} (hr10 : ∀ (x0 : Nat) (x1 : Int) (hh : gi_H), r10 x0 x1 hh = some h1 → gx_Z mX3_findCircular al al 0 0 10 [(0, .ref x0), (1, .int (gI x1))] [] (gi_cv hh) (.inl none) (gi_cv h1)) {v0 : Nat} {v1 : Int}  {h : gi_H} (e : b_X3_findCircular_10 n r10 v0 v1 h = some h1) : gx_Z mX3_findCircular al al 0 0 10 [(0, .ref v0), (1, .int (gI v1))] [] (gi_cv h) (.inl none) (gi_cv h1) := by
  refine gx_iload_n dX3_findCircular_10 rfl 1 rfl ?_
  refine gx_aload_n dX3_findCircular_11 rfl 0 rfl ?_
  refine gx_bE e (fun t3 ht3 e => ?_)
  refine gy_fR ht3 dX3_findCircular_12 gf_RX3_37_2_0 (by decide) gkN_2_0 gkR_2_0 ?_
  refine gx_bE e (fun _ hu4 e => ?_)
  refine gx_bE e (fun q5 hq5 e => ?_)
  refine gx_callV (n := 0) (st := [.int (gI v1)]) (As := []) (b := t3) dX3_findCircular_15 (z_X4_count hq5) rfl ⟨rfl, gw_cw_X4_count, gw_3, gp_X4_count, ⟨Nat.le_of_ble_eq_true rfl, Nat.le_of_ble_eq_true rfl⟩⟩ (gi_isS hu4) (by decide) gw_414 gw_393 gw_394 rfl ⟨Nat.le_of_ble_eq_true rfl, Nat.le_of_ble_eq_true rfl⟩ (Nat.le_of_ble_eq_true rfl) (gy_k1 (x := .int (gI q5)) (kc2 := 0) (ks2 := 0) ⟨rfl, rfl⟩ ?_) gy_kn
  refine gx_bE e (fun _ g6 e => ?_)
  refine gx_bE e (fun _ g7 e => ?_)
  refine gx_iE e (fun c8 e => ?_) (fun c8 e => ?_)
  · refine gy_icmp_ge (tgt := 100) (gi_rgS g6) (gi_rgS g7) dX3_findCircular_18 (by decide) (fun _ => ?_) (fun z => absurd c8 z)
    refine gx_sub (ls2 := [(0, .ref v0)]) [0] rfl ?_
    exact zb_X3_findCircular_100  e
  · refine gy_icmp_ge (tgt := 100) (gi_rgS g6) (gi_rgS g7) dX3_findCircular_18 (by decide) (fun z => absurd z c8) (fun _ => ?_)
    refine gy_iconst dX3_findCircular_21 ?_
    refine gx_istore_n (ls2 := [(2, .int (gI (1 : Int))), (0, .ref v0), (1, .int (gI v1))]) dX3_findCircular_22 rfl (Nat.le_of_ble_eq_true rfl) rfl ?_
    refine gy_iconst dX3_findCircular_23 ?_
    refine gx_istore_n (ls2 := [(3, .int (gI (0 : Int))), (2, .int (gI (1 : Int))), (0, .ref v0), (1, .int (gI v1))]) dX3_findCircular_24 rfl (Nat.le_of_ble_eq_true rfl) rfl ?_
    refine gx_sub (ls2 := [(0, .ref v0), (1, .int (gI v1)), (2, .int (gI (1 : Int))), (3, .int (gI (0 : Int)))]) [2, 3, 1, 0] rfl ?_
    exact zl_X3_findCircular_25 hr10 n _ _ _ _ _ e
def l_X3_findCircular_10 (n : Nat)  : Nat → Nat → Int → gi_H → Option (gi_H)
  | 0, _, _, _ => none
  | k + 1, v0, v1, h => b_X3_findCircular_10 n  (l_X3_findCircular_10 n  k) v0 v1 h
theorem zl_X3_findCircular_10 {al : Bool} {n : Nat}  {h1 : gi_H}  : ∀ (k : Nat) (v0 : Nat) (v1 : Int) (h : gi_H), l_X3_findCircular_10 n  k v0 v1 h = some h1 → gx_Z mX3_findCircular al al 0 0 10 [(0, .ref v0), (1, .int (gI v1))] [] (gi_cv h) (.inl none) (gi_cv h1)
  | 0, _, _, _, e => gx_0E e
  | k + 1, _, _, _, e => zb_X3_findCircular_10 (n := n)  (zl_X3_findCircular_10  k) e
set_option maxRecDepth 100000 in
def f_X3_findCircular (n : Nat) (v0 : Nat) (h : gi_H) : Option (gi_H) :=
  Option.bind (gi_gR h v0 2 11) fun t1 => Option.bind (f_J7_fill_53178 n t1 (0 : Int) h) fun q2 => l_X3_findCircular_10 n  n v0 (0 : Int) q2
set_option maxRecDepth 100000 in
theorem z_X3_findCircular {al : Bool} {n : Nat} {v0 : Nat} {h : gi_H} {h1 : gi_H} (e : f_X3_findCircular n v0 h = some h1) : gx_Cw mX3_findCircular al [.ref v0] (gi_cv h) (.inl none) (gi_cv h1) := by
  refine gx_enter (by decide +kernel) rfl (Nat.le_of_ble_eq_true rfl) ?_
  show gx_Z mX3_findCircular al al 0 0 0 [(0, .ref v0)] [] (gi_cv h) (.inl none) (gi_cv h1)
  refine gx_aload_n dX3_findCircular_0 rfl 0 rfl ?_
  refine gx_bE e (fun t1 ht1 e => ?_)
  refine gy_fR ht1 dX3_findCircular_1 gf_RX3_28_2_11 (by decide) gkN_2_11 gkR_2_11 ?_
  refine gy_iconst dX3_findCircular_4 ?_
  refine gx_bE e (fun q2 hq2 e => ?_)
  refine gx_callS (n := 2) (st := []) (As := [.ref t1, .int (gI (0 : Int))]) dX3_findCircular_5 (z_J7_fill_53178 hq2) rfl ⟨rfl, gw_cw_J7_fill_53178, gw_5, gp_J7_fill_53178, ⟨Nat.le_of_ble_eq_true rfl, Nat.le_of_ble_eq_true rfl⟩⟩ gw_412 gw_99 ⟨Nat.le_of_ble_eq_true rfl, Nat.le_of_ble_eq_true rfl⟩ (Nat.le_of_ble_eq_true rfl) (gy_k0 (kc2 := 0) (ks2 := 0) ⟨rfl, rfl⟩ ?_) gy_kn
  refine gy_iconst dX3_findCircular_8 ?_
  refine gx_istore_n (ls2 := [(1, .int (gI (0 : Int))), (0, .ref v0)]) dX3_findCircular_9 rfl (Nat.le_of_ble_eq_true rfl) rfl ?_
  refine gx_sub (ls2 := [(0, .ref v0), (1, .int (gI (0 : Int)))]) [1, 0] rfl ?_
  exact zl_X3_findCircular_10  n _ _ _ e
/-! X3_leastOf  -/
set_option maxRecDepth 100000 in
def b_X3_leastOf_19    (h : gi_H) : Option (Int) :=
  some (-1 : Int)
set_option maxRecDepth 100000 in
theorem zb_X3_leastOf_19 {al : Bool}  {res : Int}    {h : gi_H} (e : b_X3_leastOf_19  h = some res) : gx_Z mX3_leastOf al al 0 0 19 [] [] (gi_cv h) (.inl (some (.int (gI res)))) (gi_cv h) := by
  refine gy_iconst dX3_leastOf_19 ?_
  cases e
  exact gx_iret dX3_leastOf_20 rfl ⟨Nat.le_of_ble_eq_true rfl, Nat.le_of_ble_eq_true rfl⟩ (fun z => z)
set_option maxRecDepth 100000 in
def f_X3_leastOf (v0 : Nat) (v1 : Int) (h : gi_H) : Option (Int) :=
  Option.bind (gi_rg v1) fun _ => if v1 < 0 then (b_X3_leastOf_19   h) else (if (32 : Int) ≤ v1 then (b_X3_leastOf_19   h) else (Option.bind (gi_gR h v0 2 8) fun t4 => Option.bind (gi_aI h 1 t4 v1) fun t5 => some t5))
set_option maxRecDepth 100000 in
theorem z_X3_leastOf {al : Bool} {v0 : Nat} {v1 : Int} {h : gi_H} {res : Int} (e : f_X3_leastOf v0 v1 h = some res) : gx_Cw mX3_leastOf al [.ref v0, .int (gI v1)] (gi_cv h) (.inl (some (.int (gI res)))) (gi_cv h) := by
  refine gx_enter (by decide +kernel) rfl (Nat.le_of_ble_eq_true rfl) ?_
  show gx_Z mX3_leastOf al al 0 0 0 [(0, .ref v0), (1, .int (gI v1))] [] (gi_cv h) (.inl (some (.int (gI res)))) (gi_cv h)
  refine gx_iload_n dX3_leastOf_0 rfl 1 rfl ?_
  refine gx_bE e (fun _ g1 e => ?_)
  refine gx_iE e (fun c2 e => ?_) (fun c2 e => ?_)
  · refine gy_if_lt (tgt := 19) (gi_rgS g1) dX3_leastOf_1 (by decide) (fun _ => ?_) (fun z => absurd c2 z)
    refine gx_sub (ls2 := []) [] rfl ?_
    exact zb_X3_leastOf_19  e
  · refine gy_if_lt (tgt := 19) (gi_rgS g1) dX3_leastOf_1 (by decide) (fun z => absurd z c2) (fun _ => ?_)
    refine gx_iload_n dX3_leastOf_4 rfl 1 rfl ?_
    refine gy_bipush dX3_leastOf_5 gcb_32 ?_
    refine gx_iE e (fun c3 e => ?_) (fun c3 e => ?_)
    · refine gy_icmp_ge (tgt := 19) (gi_rgS g1) (by decide) dX3_leastOf_7 (by decide) (fun _ => ?_) (fun z => absurd c3 z)
      refine gx_sub (ls2 := []) [] rfl ?_
      exact zb_X3_leastOf_19  e
    · refine gy_icmp_ge (tgt := 19) (gi_rgS g1) (by decide) dX3_leastOf_7 (by decide) (fun z => absurd z c3) (fun _ => ?_)
      refine gx_aload_n dX3_leastOf_10 rfl 0 rfl ?_
      refine gx_bE e (fun t4 ht4 e => ?_)
      refine gy_fR ht4 dX3_leastOf_11 gf_RX3_21_2_8 (by decide) gkN_2_8 gkR_2_8 ?_
      refine gx_iload_n dX3_leastOf_14 rfl 1 rfl ?_
      refine gx_bE e (fun t5 ht5 e => ?_)
      refine gy_l1 ht5 dX3_leastOf_15 ?_
      refine gx_goto (tgt := 20) dX3_leastOf_16 (by decide) ?_
      cases e
      exact gx_iret dX3_leastOf_20 rfl ⟨Nat.le_of_ble_eq_true rfl, Nat.le_of_ble_eq_true rfl⟩ (fun z => z)
/-! X3_leastOfRight  -/
set_option maxRecDepth 100000 in
def b_X3_leastOfRight_4 (n : Nat) (r4 : Nat → Int → Int → Int → gi_H → Option (Int)) (v0 : Nat) (v1 : Int) (v2 : Int) (v3 : Int)  (h : gi_H) : Option (Int) :=
  Option.bind (gi_gR h v0 2 0) fun t1 => Option.bind (gi_is h t1 3) fun _ => Option.bind (f_X4_length t1 v1 h) fun q3 => Option.bind (gi_rg v3) fun _ => Option.bind (gi_rg q3) fun _ => if q3 ≤ v3 then (some v2) else (Option.bind (gi_gR h v0 2 0) fun t7 => Option.bind (gi_is h t7 3) fun _ => Option.bind (f_X4_symbol t7 v1 v3 h) fun q9 => Option.bind (gi_is h v0 2) fun _ => Option.bind (f_X3_leastOf v0 q9 h) fun q11 => Option.bind (gi_rg q11) fun _ => if q11 = (-1 : Int) then (some (-1 : Int)) else (Option.bind (gi_rg (v2 + q11)) fun _ => gx_nm (gi_min (99 : Int) (v2 + q11)) fun t15 => gx_nm (v3 + (1 : Int)) fun t16 => r4 v0 v1 t15 t16 h))
set_option maxRecDepth 100000 in
theorem zb_X3_leastOfRight_4 {al : Bool} {n : Nat} {r4 : Nat → Int → Int → Int → gi_H → Option (Int)} {res : Int} (hr4 : ∀ (x0 : Nat) (x1 : Int) (x2 : Int) (x3 : Int) (hh : gi_H), r4 x0 x1 x2 x3 hh = some res → gx_Z mX3_leastOfRight al al 0 0 4 [(0, .ref x0), (1, .int (gI x1)), (2, .int (gI x2)), (3, .int (gI x3))] [] (gi_cv hh) (.inl (some (.int (gI res)))) (gi_cv hh)) {v0 : Nat} {v1 : Int} {v2 : Int} {v3 : Int}  {h : gi_H} (e : b_X3_leastOfRight_4 n r4 v0 v1 v2 v3 h = some res) : gx_Z mX3_leastOfRight al al 0 0 4 [(0, .ref v0), (1, .int (gI v1)), (2, .int (gI v2)), (3, .int (gI v3))] [] (gi_cv h) (.inl (some (.int (gI res)))) (gi_cv h) := by
  refine gx_iload_n dX3_leastOfRight_4 rfl 3 rfl ?_
  refine gx_aload_n dX3_leastOfRight_5 rfl 0 rfl ?_
  refine gx_bE e (fun t1 ht1 e => ?_)
  refine gy_fR ht1 dX3_leastOfRight_6 gf_RX3_37_2_0 (by decide) gkN_2_0 gkR_2_0 ?_
  refine gx_iload_n dX3_leastOfRight_9 rfl 1 rfl ?_
  refine gx_bE e (fun _ hu2 e => ?_)
  refine gx_bE e (fun q3 hq3 e => ?_)
  refine gx_callV (n := 1) (st := [.int (gI v3)]) (As := [.int (gI v1)]) (b := t1) dX3_leastOfRight_10 (z_X4_length hq3) rfl ⟨rfl, gw_cw_X4_length, gw_3, gp_X4_length, ⟨Nat.le_of_ble_eq_true rfl, Nat.le_of_ble_eq_true rfl⟩⟩ (gi_isS hu2) (by decide) gw_423 gw_424 gw_425 rfl ⟨Nat.le_of_ble_eq_true rfl, Nat.le_of_ble_eq_true rfl⟩ (Nat.le_of_ble_eq_true rfl) (gy_k1 (x := .int (gI q3)) (kc2 := 0) (ks2 := 0) ⟨rfl, rfl⟩ ?_) gy_kn
  refine gx_bE e (fun _ g4 e => ?_)
  refine gx_bE e (fun _ g5 e => ?_)
  refine gx_iE e (fun c6 e => ?_) (fun c6 e => ?_)
  · refine gy_icmp_ge (tgt := 55) (gi_rgS g4) (gi_rgS g5) dX3_leastOfRight_13 (by decide) (fun _ => ?_) (fun z => absurd c6 z)
    refine gx_iload_n dX3_leastOfRight_55 rfl 2 rfl ?_
    cases e
    exact gx_iret dX3_leastOfRight_56 rfl ⟨Nat.le_of_ble_eq_true rfl, Nat.le_of_ble_eq_true rfl⟩ (fun z => z)
  · refine gy_icmp_ge (tgt := 55) (gi_rgS g4) (gi_rgS g5) dX3_leastOfRight_13 (by decide) (fun z => absurd z c6) (fun _ => ?_)
    refine gx_aload_n dX3_leastOfRight_16 rfl 0 rfl ?_
    refine gx_aload_n dX3_leastOfRight_17 rfl 0 rfl ?_
    refine gx_bE e (fun t7 ht7 e => ?_)
    refine gy_fR ht7 dX3_leastOfRight_18 gf_RX3_37_2_0 (by decide) gkN_2_0 gkR_2_0 ?_
    refine gx_iload_n dX3_leastOfRight_21 rfl 1 rfl ?_
    refine gx_iload_n dX3_leastOfRight_22 rfl 3 rfl ?_
    refine gx_bE e (fun _ hu8 e => ?_)
    refine gx_bE e (fun q9 hq9 e => ?_)
    refine gx_callV (n := 2) (st := [.ref v0]) (As := [.int (gI v1), .int (gI v3)]) (b := t7) dX3_leastOfRight_23 (z_X4_symbol hq9) rfl ⟨rfl, gw_cw_X4_symbol, gw_3, gp_X4_symbol, ⟨Nat.le_of_ble_eq_true rfl, Nat.le_of_ble_eq_true rfl⟩⟩ (gi_isS hu8) (by decide) gw_427 gw_428 gw_429 rfl ⟨Nat.le_of_ble_eq_true rfl, Nat.le_of_ble_eq_true rfl⟩ (Nat.le_of_ble_eq_true rfl) (gy_k1 (x := .int (gI q9)) (kc2 := 0) (ks2 := 0) ⟨rfl, rfl⟩ ?_) gy_kn
    refine gx_bE e (fun _ hu10 e => ?_)
    refine gx_bE e (fun q11 hq11 e => ?_)
    refine gx_callV (n := 1) (st := []) (As := [.int (gI q9)]) (b := v0) dX3_leastOfRight_26 (z_X3_leastOf hq11) rfl ⟨rfl, gw_cw_X3_leastOf, gw_6, gp_X3_leastOf, ⟨Nat.le_of_ble_eq_true rfl, Nat.le_of_ble_eq_true rfl⟩⟩ (gi_isS hu10) (by decide) gw_495 gw_497 gs_14 rfl ⟨Nat.le_of_ble_eq_true rfl, Nat.le_of_ble_eq_true rfl⟩ (Nat.le_of_ble_eq_true rfl) (gy_k1 (x := .int (gI q11)) (kc2 := 0) (ks2 := 0) ⟨rfl, rfl⟩ ?_) gy_kn
    refine gx_istore (ls2 := [(4, .int (gI q11)), (0, .ref v0), (1, .int (gI v1)), (2, .int (gI v2)), (3, .int (gI v3))]) dX3_leastOfRight_29 (Nat.le_of_ble_eq_true rfl) rfl ?_
    refine gx_iload dX3_leastOfRight_31 0 rfl ?_
    refine gy_iconst dX3_leastOfRight_33 ?_
    refine gx_bE e (fun _ g12 e => ?_)
    refine gx_iE e (fun c13 e => ?_) (fun c13 e => ?_)
    · refine gy_icmp_ne (tgt := 39) (gi_rgS g12) (by decide) dX3_leastOfRight_34 (by decide) (fun z => absurd c13 z) (fun _ => ?_)
      refine gy_iconst dX3_leastOfRight_37 ?_
      cases e
      exact gx_iret dX3_leastOfRight_38 rfl ⟨Nat.le_of_ble_eq_true rfl, Nat.le_of_ble_eq_true rfl⟩ (fun z => z)
    · refine gy_icmp_ne (tgt := 39) (gi_rgS g12) (by decide) dX3_leastOfRight_34 (by decide) (fun _ => ?_) (fun z => absurd z c13)
      refine gy_bipush dX3_leastOfRight_39 gcb_99 ?_
      refine gx_iload_n dX3_leastOfRight_41 rfl 3 rfl ?_
      refine gx_iload dX3_leastOfRight_42 0 rfl ?_
      refine gy_iadd dX3_leastOfRight_44 ?_
      refine gx_bE e (fun _ g14 e => ?_)
      refine gy_mmin (by decide) (gi_rgS g14) dX3_leastOfRight_45 gw_499 (Nat.le_of_ble_eq_true rfl) (Nat.le_of_ble_eq_true rfl) ⟨Nat.le_of_ble_eq_true rfl, Nat.le_of_ble_eq_true rfl⟩ ?_
      refine gx_nE e (fun t15 ht15 e => ?_)
      rw [ht15]
      refine gx_istore_n (ls2 := [(2, .int (gI t15)), (4, .int (gI q11)), (0, .ref v0), (1, .int (gI v1)), (3, .int (gI v3))]) dX3_leastOfRight_48 rfl (Nat.le_of_ble_eq_true rfl) rfl ?_
      refine gx_nE e (fun t16 ht16 e => ?_)
      refine gy_iinc (v := t16) (ls2 := [(3, .int (gI t16)), (2, .int (gI t15)), (4, .int (gI q11)), (0, .ref v0), (1, .int (gI v1))]) dX3_leastOfRight_49 4 rfl ht16 (Nat.le_of_ble_eq_true rfl) rfl ?_
      refine gx_goto (tgt := 4) dX3_leastOfRight_52 (by decide) ?_
      refine gx_sub (ls2 := [(0, .ref v0), (1, .int (gI v1)), (2, .int (gI t15)), (3, .int (gI t16))]) [3, 4, 1, 0] rfl ?_
      exact hr4 _ _ _ _ _ e
def l_X3_leastOfRight_4 (n : Nat)  : Nat → Nat → Int → Int → Int → gi_H → Option (Int)
  | 0, _, _, _, _, _ => none
  | k + 1, v0, v1, v2, v3, h => b_X3_leastOfRight_4 n  (l_X3_leastOfRight_4 n  k) v0 v1 v2 v3 h
theorem zl_X3_leastOfRight_4 {al : Bool} {n : Nat}  {res : Int}  : ∀ (k : Nat) (v0 : Nat) (v1 : Int) (v2 : Int) (v3 : Int) (h : gi_H), l_X3_leastOfRight_4 n  k v0 v1 v2 v3 h = some res → gx_Z mX3_leastOfRight al al 0 0 4 [(0, .ref v0), (1, .int (gI v1)), (2, .int (gI v2)), (3, .int (gI v3))] [] (gi_cv h) (.inl (some (.int (gI res)))) (gi_cv h)
  | 0, _, _, _, _, _, e => gx_0E e
  | k + 1, _, _, _, _, _, e => zb_X3_leastOfRight_4 (n := n)  (zl_X3_leastOfRight_4  k) e
set_option maxRecDepth 100000 in
def f_X3_leastOfRight (n : Nat) (v0 : Nat) (v1 : Int) (h : gi_H) : Option (Int) :=
  l_X3_leastOfRight_4 n  n v0 v1 (0 : Int) (0 : Int) h
set_option maxRecDepth 100000 in
theorem z_X3_leastOfRight {al : Bool} {n : Nat} {v0 : Nat} {v1 : Int} {h : gi_H} {res : Int} (e : f_X3_leastOfRight n v0 v1 h = some res) : gx_Cw mX3_leastOfRight al [.ref v0, .int (gI v1)] (gi_cv h) (.inl (some (.int (gI res)))) (gi_cv h) := by
  refine gx_enter (by decide +kernel) rfl (Nat.le_of_ble_eq_true rfl) ?_
  show gx_Z mX3_leastOfRight al al 0 0 0 [(0, .ref v0), (1, .int (gI v1))] [] (gi_cv h) (.inl (some (.int (gI res)))) (gi_cv h)
  refine gy_iconst dX3_leastOfRight_0 ?_
  refine gx_istore_n (ls2 := [(2, .int (gI (0 : Int))), (0, .ref v0), (1, .int (gI v1))]) dX3_leastOfRight_1 rfl (Nat.le_of_ble_eq_true rfl) rfl ?_
  refine gy_iconst dX3_leastOfRight_2 ?_
  refine gx_istore_n (ls2 := [(3, .int (gI (0 : Int))), (2, .int (gI (0 : Int))), (0, .ref v0), (1, .int (gI v1))]) dX3_leastOfRight_3 rfl (Nat.le_of_ble_eq_true rfl) rfl ?_
  refine gx_sub (ls2 := [(0, .ref v0), (1, .int (gI v1)), (2, .int (gI (0 : Int))), (3, .int (gI (0 : Int)))]) [2, 3, 1, 0] rfl ?_
  exact zl_X3_leastOfRight_4  n _ _ _ _ _ e
