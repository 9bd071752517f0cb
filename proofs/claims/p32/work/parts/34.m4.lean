/-! X1_whole 1 -/
set_option maxRecDepth 100000 in
def b_X1_whole_1_33  (v0 : Nat)  (h : gi_H) : Option (Int) :=
  Option.bind (gi_is h v0 1) fun _ => Option.bind (f_X2_none v0 h) fun q5 => some q5
set_option maxRecDepth 100000 in
theorem zb_X1_whole_1_33 {al : Bool}  {res : Int}  {v0 : Nat}  {h : gi_H} (e : b_X1_whole_1_33 v0 h = some res) : gx_Z mX1_whole al al 0 0 33 [(0, .ref v0)] [] (gi_cv h) (.inl (some (.int (gI res)))) (gi_cv h) := by
  refine gx_aload_n dX1_whole_33 rfl 0 rfl ?_
  refine gx_bE e (fun _ hu4 e => ?_)
  refine gx_bE e (fun q5 hq5 e => ?_)
  refine gx_callA (n := 0) (st := []) (As := []) (b := v0) dX1_whole_34 (z_X2_none hq5) rfl ⟨rfl, gw_cw_X2_none, gw_12, gp_X2_none, ⟨Nat.le_of_ble_eq_true rfl, Nat.le_of_ble_eq_true rfl⟩⟩ (gi_isS hu4) (by decide) (x := ⟨"Grammarsmith$Chart", "none", "()I"⟩) (owner := "Grammarsmith$Chart") gw_530 gw_532 gw_533 gw_534 (by decide +kernel) (by decide +kernel) ⟨Nat.le_of_ble_eq_true rfl, Nat.le_of_ble_eq_true rfl⟩ (Nat.le_of_ble_eq_true rfl) (gy_k1 (x := .int (gI q5)) (kc2 := 0) (ks2 := 0) ⟨rfl, rfl⟩ ?_) gy_kn
  cases e
  exact gx_iret dX1_whole_37 rfl ⟨Nat.le_of_ble_eq_true rfl, Nat.le_of_ble_eq_true rfl⟩ (fun z => z)
set_option maxRecDepth 100000 in
def f_X1_whole_1 (v0 : Nat) (v1 : Int) (v2 : Int) (v3 : Int) (h : gi_H) : Option (Int) :=
  Option.bind (f_X1_cell_1 v1 v2 v3 h) fun q1 => Option.bind (gi_rg q1) fun _ => if q1 < 0 then (b_X1_whole_1_33  v0 h) else (Option.bind (gi_gR h v0 1 2) fun t6 => Option.bind (gi_ln h t6) fun t7 => Option.bind (gi_rg t7) fun _ => if t7 ≤ q1 then (b_X1_whole_1_33  v0 h) else (Option.bind (gi_gR h v0 1 2) fun t10 => Option.bind (gi_aI h 1 t10 q1) fun t11 => some t11))
set_option maxRecDepth 100000 in
theorem z_X1_whole_1 {al : Bool} {v0 : Nat} {v1 : Int} {v2 : Int} {v3 : Int} {h : gi_H} {res : Int} (e : f_X1_whole_1 v0 v1 v2 v3 h = some res) : gx_Cw mX1_whole al [.ref v0, .int (gI v1), .int (gI v2), .int (gI v3)] (gi_cv h) (.inl (some (.int (gI res)))) (gi_cv h) := by
  refine gx_enter (by decide +kernel) rfl (Nat.le_of_ble_eq_true rfl) ?_
  show gx_Z mX1_whole al al 0 0 0 [(0, .ref v0), (1, .int (gI v1)), (2, .int (gI v2)), (3, .int (gI v3))] [] (gi_cv h) (.inl (some (.int (gI res)))) (gi_cv h)
  refine gx_iload_n dX1_whole_0 rfl 1 rfl ?_
  refine gx_iload_n dX1_whole_1 rfl 2 rfl ?_
  refine gx_iload_n dX1_whole_2 rfl 3 rfl ?_
  refine gx_bE e (fun q1 hq1 e => ?_)
  refine gx_callS (n := 3) (st := []) (As := [.int (gI v1), .int (gI v2), .int (gI v3)]) dX1_whole_3 (z_X1_cell_1 hq1) rfl ⟨rfl, gw_cw_X1_cell, gw_11, gp_X1_cell, ⟨Nat.le_of_ble_eq_true rfl, Nat.le_of_ble_eq_true rfl⟩⟩ gw_543 gw_544 ⟨Nat.le_of_ble_eq_true rfl, Nat.le_of_ble_eq_true rfl⟩ (Nat.le_of_ble_eq_true rfl) (gy_k1 (x := .int (gI q1)) (kc2 := 0) (ks2 := 0) ⟨rfl, rfl⟩ ?_) gy_kn
  refine gx_istore (ls2 := [(4, .int (gI q1)), (0, .ref v0), (1, .int (gI v1)), (2, .int (gI v2)), (3, .int (gI v3))]) dX1_whole_6 (Nat.le_of_ble_eq_true rfl) rfl ?_
  refine gx_iload dX1_whole_8 0 rfl ?_
  refine gx_bE e (fun _ g2 e => ?_)
  refine gx_iE e (fun c3 e => ?_) (fun c3 e => ?_)
  · refine gy_if_lt (tgt := 33) (gi_rgS g2) dX1_whole_10 (by decide) (fun _ => ?_) (fun z => absurd c3 z)
    refine gx_sub (ls2 := [(0, .ref v0)]) [1] rfl ?_
    exact zb_X1_whole_1_33  e
  · refine gy_if_lt (tgt := 33) (gi_rgS g2) dX1_whole_10 (by decide) (fun z => absurd z c3) (fun _ => ?_)
    refine gx_iload dX1_whole_13 0 rfl ?_
    refine gx_aload_n dX1_whole_15 rfl 1 rfl ?_
    refine gx_bE e (fun t6 ht6 e => ?_)
    refine gy_fR ht6 dX1_whole_16 gf_RX1_22_1_2 (by decide) gkN_1_2 gkR_1_2 ?_
    refine gx_bE e (fun t7 ht7 e => ?_)
    refine gy_al0 ht7 dX1_whole_19 ?_
    refine gx_bE e (fun _ g8 e => ?_)
    refine gx_iE e (fun c9 e => ?_) (fun c9 e => ?_)
    · refine gy_icmp_ge (tgt := 33) (gi_rgS g2) (gi_rgS g8) dX1_whole_20 (by decide) (fun _ => ?_) (fun z => absurd c9 z)
      refine gx_sub (ls2 := [(0, .ref v0)]) [1] rfl ?_
      exact zb_X1_whole_1_33  e
    · refine gy_icmp_ge (tgt := 33) (gi_rgS g2) (gi_rgS g8) dX1_whole_20 (by decide) (fun z => absurd z c9) (fun _ => ?_)
      refine gx_aload_n dX1_whole_23 rfl 1 rfl ?_
      refine gx_bE e (fun t10 ht10 e => ?_)
      refine gy_fR ht10 dX1_whole_24 gf_RX1_22_1_2 (by decide) gkN_1_2 gkR_1_2 ?_
      refine gx_iload dX1_whole_27 0 rfl ?_
      refine gx_bE e (fun t11 ht11 e => ?_)
      refine gy_l1 ht11 dX1_whole_29 ?_
      refine gx_goto (tgt := 37) dX1_whole_30 (by decide) ?_
      cases e
      exact gx_iret dX1_whole_37 rfl ⟨Nat.le_of_ble_eq_true rfl, Nat.le_of_ble_eq_true rfl⟩ (fun z => z)
/-! X2_both  -/
set_option maxRecDepth 100000 in
def f_X2_both (v0 : Nat) (v1 : Int) (v2 : Int) (h : gi_H) : Option (Int) :=
  Option.bind (gi_rg (v1 * v2)) fun _ => some (gi_min (100 : Int) (v1 * v2))
set_option maxRecDepth 100000 in
theorem z_X2_both {al : Bool} {v0 : Nat} {v1 : Int} {v2 : Int} {h : gi_H} {res : Int} (e : f_X2_both v0 v1 v2 h = some res) : gx_Cw mX2_both al [.ref v0, .int (gI v1), .int (gI v2)] (gi_cv h) (.inl (some (.int (gI res)))) (gi_cv h) := by
  refine gx_enter (by decide +kernel) rfl (Nat.le_of_ble_eq_true rfl) ?_
  show gx_Z mX2_both al al 0 0 0 [(0, .ref v0), (1, .int (gI v1)), (2, .int (gI v2))] [] (gi_cv h) (.inl (some (.int (gI res)))) (gi_cv h)
  refine gy_bipush dX2_both_0 gcb_100 ?_
  refine gx_iload_n dX2_both_2 rfl 1 rfl ?_
  refine gx_iload_n dX2_both_3 rfl 2 rfl ?_
  refine gy_imul dX2_both_4 ?_
  refine gx_bE e (fun _ g1 e => ?_)
  refine gy_mmin (by decide) (gi_rgS g1) dX2_both_5 gw_612 (Nat.le_of_ble_eq_true rfl) (Nat.le_of_ble_eq_true rfl) ⟨Nat.le_of_ble_eq_true rfl, Nat.le_of_ble_eq_true rfl⟩ ?_
  cases e
  exact gx_iret dX2_both_8 rfl ⟨Nat.le_of_ble_eq_true rfl, Nat.le_of_ble_eq_true rfl⟩ (fun z => z)
/-! X2_either  -/
set_option maxRecDepth 100000 in
def f_X2_either (v0 : Nat) (v1 : Int) (v2 : Int) (h : gi_H) : Option (Int) :=
  Option.bind (gi_rg (v1 + v2)) fun _ => some (gi_min (100 : Int) (v1 + v2))
set_option maxRecDepth 100000 in
theorem z_X2_either {al : Bool} {v0 : Nat} {v1 : Int} {v2 : Int} {h : gi_H} {res : Int} (e : f_X2_either v0 v1 v2 h = some res) : gx_Cw mX2_either al [.ref v0, .int (gI v1), .int (gI v2)] (gi_cv h) (.inl (some (.int (gI res)))) (gi_cv h) := by
  refine gx_enter (by decide +kernel) rfl (Nat.le_of_ble_eq_true rfl) ?_
  show gx_Z mX2_either al al 0 0 0 [(0, .ref v0), (1, .int (gI v1)), (2, .int (gI v2))] [] (gi_cv h) (.inl (some (.int (gI res)))) (gi_cv h)
  refine gy_bipush dX2_either_0 gcb_100 ?_
  refine gx_iload_n dX2_either_2 rfl 1 rfl ?_
  refine gx_iload_n dX2_either_3 rfl 2 rfl ?_
  refine gy_iadd dX2_either_4 ?_
  refine gx_bE e (fun _ g1 e => ?_)
  refine gy_mmin (by decide) (gi_rgS g1) dX2_either_5 gw_612 (Nat.le_of_ble_eq_true rfl) (Nat.le_of_ble_eq_true rfl) ⟨Nat.le_of_ble_eq_true rfl, Nat.le_of_ble_eq_true rfl⟩ ?_
  cases e
  exact gx_iret dX2_either_8 rfl ⟨Nat.le_of_ble_eq_true rfl, Nat.le_of_ble_eq_true rfl⟩ (fun z => z)
/-! X1_ofProduction 1 -/
set_option maxRecDepth 100000 in
def b_X1_ofProduction_1_147 (n : Nat) (r27 : Nat → Int → Int → Int → Int → Int → Int → gi_H → Option (Int × gi_H)) (v0 : Nat) (v1 : Int) (v2 : Int) (v3 : Int) (v4 : Int) (v5 : Int) (v6 : Int)  (h : gi_H) : Option (Int × gi_H) :=
  Option.bind (gi_is h v0 1) fun _ => Option.bind (f_X1_setPart_1 v0 ((v4 + v6) + (1 : Int)) v2 v3 v5 h) fun q25 => gx_nm (v6 + (1 : Int)) fun t26 => r27 v0 v1 v2 v3 v4 v5 t26 q25
set_option maxRecDepth 100000 in
theorem zb_X1_ofProduction_1_147 {al : Bool} {n : Nat} {r27 : Nat → Int → Int → Int → Int → Int → Int → gi_H → Option (Int × gi_H)} {res : Int} {h1 : gi_H} (hr27 : ∀ (x0 : Nat) (x1 : Int) (x2 : Int) (x3 : Int) (x4 : Int) (x5 : Int) (x6 : Int) (hh : gi_H), r27 x0 x1 x2 x3 x4 x5 x6 hh = some (res, h1) → gx_Z mX1_ofProduction al al 0 0 27 [(0, .ref x0), (1, .int (gI x1)), (2, .int (gI x2)), (3, .int (gI x3)), (4, .int (gI x4)), (5, .int (gI x5)), (6, .int (gI x6))] [] (gi_cv hh) (.inl (some (.int (gI res)))) (gi_cv h1)) {v0 : Nat} {v1 : Int} {v2 : Int} {v3 : Int} {v4 : Int} {v5 : Int} {v6 : Int}  {h : gi_H} (e : b_X1_ofProduction_1_147 n r27 v0 v1 v2 v3 v4 v5 v6 h = some (res, h1)) : gx_Z mX1_ofProduction al al 0 0 147 [(0, .ref v0), (1, .int (gI v1)), (2, .int (gI v2)), (3, .int (gI v3)), (4, .int (gI v4)), (5, .int (gI v5)), (6, .int (gI v6))] [] (gi_cv h) (.inl (some (.int (gI res)))) (gi_cv h1) := by
  refine gx_aload_n dX1_ofProduction_147 rfl 0 rfl ?_
  refine gx_iload dX1_ofProduction_148 4 rfl ?_
  refine gx_iload dX1_ofProduction_150 6 rfl ?_
  refine gy_iadd dX1_ofProduction_152 ?_
  refine gy_iconst dX1_ofProduction_153 ?_
  refine gy_iadd dX1_ofProduction_154 ?_
  refine gx_iload_n dX1_ofProduction_155 rfl 2 rfl ?_
  refine gx_iload_n dX1_ofProduction_156 rfl 3 rfl ?_
  refine gx_iload dX1_ofProduction_157 5 rfl ?_
  refine gx_bE e (fun _ hu24 e => ?_)
  refine gx_bE e (fun q25 hq25 e => ?_)
  refine gx_callU (n := 4) (st := []) (As := [.int (gI ((v4 + v6) + (1 : Int))), .int (gI v2), .int (gI v3), .int (gI v5)]) (b := v0) dX1_ofProduction_159 (z_X1_setPart_1 hq25) rfl ⟨rfl, gw_cw_X1_setPart, gw_11, gp_X1_setPart, ⟨Nat.le_of_ble_eq_true rfl, Nat.le_of_ble_eq_true rfl⟩⟩ (gi_isS hu24) (by decide) (x := ⟨"Grammarsmith$Chart", "setPart", "(IIII)V"⟩) (owner := "Grammarsmith$Chart") gw_571 gw_1336 gz_0_setPart gw_573 rfl (by decide +kernel) ⟨Nat.le_of_ble_eq_true rfl, Nat.le_of_ble_eq_true rfl⟩ (Nat.le_of_ble_eq_true rfl) (gy_k0 (kc2 := 0) (ks2 := 0) ⟨rfl, rfl⟩ ?_) gy_kn
  refine gx_nE e (fun t26 ht26 e => ?_)
  refine gy_iinc (v := t26) (ls2 := [(6, .int (gI t26)), (0, .ref v0), (1, .int (gI v1)), (2, .int (gI v2)), (3, .int (gI v3)), (4, .int (gI v4)), (5, .int (gI v5))]) dX1_ofProduction_162 6 rfl ht26 (Nat.le_of_ble_eq_true rfl) rfl ?_
  refine gx_goto (tgt := 27) dX1_ofProduction_165 (by decide) ?_
  refine gx_sub (ls2 := [(0, .ref v0), (1, .int (gI v1)), (2, .int (gI v2)), (3, .int (gI v3)), (4, .int (gI v4)), (5, .int (gI v5)), (6, .int (gI t26))]) [1, 2, 3, 4, 5, 6, 0] rfl ?_
  exact hr27 _ _ _ _ _ _ _ _ e
set_option maxRecDepth 100000 in
def b_X1_ofProduction_1_123 (n : Nat) (r27 : Nat → Int → Int → Int → Int → Int → Int → gi_H → Option (Int × gi_H)) (r67 : Nat → Int → Int → Int → Int → Int → Int → Int → Int → gi_H → Option (Int × gi_H)) (v0 : Nat) (v1 : Int) (v2 : Int) (v3 : Int) (v4 : Int) (v5 : Int) (v6 : Int) (v7 : Int) (v8 : Int) (v9 : Int) (s0 : Int) (h : gi_H) : Option (Int × gi_H) :=
  Option.bind (gi_is h v0 1) fun _ => Option.bind (f_X2_both v0 v9 s0 h) fun q35 => Option.bind (gi_is h v0 1) fun _ => Option.bind (f_X2_either v0 v5 q35 h) fun q37 => gx_nm (v8 + (1 : Int)) fun t38 => r67 v0 v1 v2 v3 v4 q37 v6 v7 t38 h
set_option maxRecDepth 100000 in
theorem zb_X1_ofProduction_1_123 {al : Bool} {n : Nat} {r27 : Nat → Int → Int → Int → Int → Int → Int → gi_H → Option (Int × gi_H)} {r67 : Nat → Int → Int → Int → Int → Int → Int → Int → Int → gi_H → Option (Int × gi_H)} {res : Int} {h1 : gi_H} (hr27 : ∀ (x0 : Nat) (x1 : Int) (x2 : Int) (x3 : Int) (x4 : Int) (x5 : Int) (x6 : Int) (hh : gi_H), r27 x0 x1 x2 x3 x4 x5 x6 hh = some (res, h1) → gx_Z mX1_ofProduction al al 0 0 27 [(0, .ref x0), (1, .int (gI x1)), (2, .int (gI x2)), (3, .int (gI x3)), (4, .int (gI x4)), (5, .int (gI x5)), (6, .int (gI x6))] [] (gi_cv hh) (.inl (some (.int (gI res)))) (gi_cv h1)) (hr67 : ∀ (x0 : Nat) (x1 : Int) (x2 : Int) (x3 : Int) (x4 : Int) (x5 : Int) (x6 : Int) (x7 : Int) (x8 : Int) (hh : gi_H), r67 x0 x1 x2 x3 x4 x5 x6 x7 x8 hh = some (res, h1) → gx_Z mX1_ofProduction al al 0 0 67 [(0, .ref x0), (1, .int (gI x1)), (2, .int (gI x2)), (3, .int (gI x3)), (4, .int (gI x4)), (5, .int (gI x5)), (6, .int (gI x6)), (7, .int (gI x7)), (8, .int (gI x8))] [] (gi_cv hh) (.inl (some (.int (gI res)))) (gi_cv h1)) {v0 : Nat} {v1 : Int} {v2 : Int} {v3 : Int} {v4 : Int} {v5 : Int} {v6 : Int} {v7 : Int} {v8 : Int} {v9 : Int} {s0 : Int} {h : gi_H} (e : b_X1_ofProduction_1_123 n r27 r67 v0 v1 v2 v3 v4 v5 v6 v7 v8 v9 s0 h = some (res, h1)) : gx_Z mX1_ofProduction al al 0 0 123 [(0, .ref v0), (1, .int (gI v1)), (2, .int (gI v2)), (3, .int (gI v3)), (4, .int (gI v4)), (5, .int (gI v5)), (6, .int (gI v6)), (7, .int (gI v7)), (8, .int (gI v8)), (9, .int (gI v9))] [.int (gI s0)] (gi_cv h) (.inl (some (.int (gI res)))) (gi_cv h1) := by
  refine gx_istore (ls2 := [(11, .int (gI s0)), (0, .ref v0), (1, .int (gI v1)), (2, .int (gI v2)), (3, .int (gI v3)), (4, .int (gI v4)), (5, .int (gI v5)), (6, .int (gI v6)), (7, .int (gI v7)), (8, .int (gI v8)), (9, .int (gI v9))]) dX1_ofProduction_123 (Nat.le_of_ble_eq_true rfl) rfl ?_
  refine gx_aload_n dX1_ofProduction_125 rfl 1 rfl ?_
  refine gx_iload dX1_ofProduction_126 6 rfl ?_
  refine gx_aload_n dX1_ofProduction_128 rfl 1 rfl ?_
  refine gx_iload dX1_ofProduction_129 10 rfl ?_
  refine gx_iload dX1_ofProduction_131 0 rfl ?_
  refine gx_bE e (fun _ hu34 e => ?_)
  refine gx_bE e (fun q35 hq35 e => ?_)
  refine gx_callA (n := 2) (st := [.int (gI v5), .ref v0]) (As := [.int (gI v9), .int (gI s0)]) (b := v0) dX1_ofProduction_133 (z_X2_both hq35) rfl ⟨rfl, gw_cw_X2_both, gw_12, gp_X2_both, ⟨Nat.le_of_ble_eq_true rfl, Nat.le_of_ble_eq_true rfl⟩⟩ (gi_isS hu34) (by decide) (x := ⟨"Grammarsmith$Chart", "both", "(II)I"⟩) (owner := "Grammarsmith$Chart") gw_606 gw_608 gw_609 gw_610 (by decide +kernel) (by decide +kernel) ⟨Nat.le_of_ble_eq_true rfl, Nat.le_of_ble_eq_true rfl⟩ (Nat.le_of_ble_eq_true rfl) (gy_k1 (x := .int (gI q35)) (kc2 := 0) (ks2 := 0) ⟨rfl, rfl⟩ ?_) gy_kn
  refine gx_bE e (fun _ hu36 e => ?_)
  refine gx_bE e (fun q37 hq37 e => ?_)
  refine gx_callA (n := 2) (st := []) (As := [.int (gI v5), .int (gI q35)]) (b := v0) dX1_ofProduction_136 (z_X2_either hq37) rfl ⟨rfl, gw_cw_X2_either, gw_12, gp_X2_either, ⟨Nat.le_of_ble_eq_true rfl, Nat.le_of_ble_eq_true rfl⟩⟩ (gi_isS hu36) (by decide) (x := ⟨"Grammarsmith$Chart", "either", "(II)I"⟩) (owner := "Grammarsmith$Chart") gw_617 gw_619 gw_620 gw_621 (by decide +kernel) (by decide +kernel) ⟨Nat.le_of_ble_eq_true rfl, Nat.le_of_ble_eq_true rfl⟩ (Nat.le_of_ble_eq_true rfl) (gy_k1 (x := .int (gI q37)) (kc2 := 0) (ks2 := 0) ⟨rfl, rfl⟩ ?_) gy_kn
  refine gx_istore (ls2 := [(5, .int (gI q37)), (11, .int (gI s0)), (0, .ref v0), (1, .int (gI v1)), (2, .int (gI v2)), (3, .int (gI v3)), (4, .int (gI v4)), (6, .int (gI v6)), (7, .int (gI v7)), (8, .int (gI v8)), (9, .int (gI v9))]) dX1_ofProduction_139 (Nat.le_of_ble_eq_true rfl) rfl ?_
  refine gx_nE e (fun t38 ht38 e => ?_)
  refine gy_iinc (v := t38) (ls2 := [(8, .int (gI t38)), (5, .int (gI q37)), (11, .int (gI s0)), (0, .ref v0), (1, .int (gI v1)), (2, .int (gI v2)), (3, .int (gI v3)), (4, .int (gI v4)), (6, .int (gI v6)), (7, .int (gI v7)), (9, .int (gI v9))]) dX1_ofProduction_141 9 rfl ht38 (Nat.le_of_ble_eq_true rfl) rfl ?_
  refine gx_goto (tgt := 67) dX1_ofProduction_144 (by decide) ?_
  refine gx_sub (ls2 := [(0, .ref v0), (1, .int (gI v1)), (2, .int (gI v2)), (3, .int (gI v3)), (4, .int (gI v4)), (5, .int (gI q37)), (6, .int (gI v6)), (7, .int (gI v7)), (8, .int (gI t38))]) [3, 4, 5, 6, 7, 1, 8, 9, 0] rfl ?_
  exact hr67 _ _ _ _ _ _ _ _ _ _ e
set_option maxRecDepth 100000 in
def b_X1_ofProduction_1_67 (n : Nat) (r27 : Nat → Int → Int → Int → Int → Int → Int → gi_H → Option (Int × gi_H)) (r67 : Nat → Int → Int → Int → Int → Int → Int → Int → Int → gi_H → Option (Int × gi_H)) (v0 : Nat) (v1 : Int) (v2 : Int) (v3 : Int) (v4 : Int) (v5 : Int) (v6 : Int) (v7 : Int) (v8 : Int)  (h : gi_H) : Option (Int × gi_H) :=
  Option.bind (gi_rg v8) fun _ => Option.bind (gi_rg v3) fun _ => if v3 < v8 then (b_X1_ofProduction_1_147 n r27 v0 v1 v2 v3 v4 v5 v6 h) else (Option.bind (gi_is h v0 1) fun _ => Option.bind (f_X1_part_1 v0 (v4 + v6) v2 v8 h) fun q28 => Option.bind (f_X11_isTerminal v7 h) fun q29 => Option.bind (gi_rg q29) fun _ => if q29 = 0 then (Option.bind (gi_is h v0 1) fun _ => Option.bind (f_X1_whole_1 v0 (v7 - (16 : Int)) v8 v3 h) fun q33 => b_X1_ofProduction_1_123 n r27 r67 v0 v1 v2 v3 v4 v5 v6 v7 v8 q28 q33 h) else (Option.bind (gi_is h v0 1) fun _ => Option.bind (f_X2_ofTerminal v0 v7 v8 v3 h) fun q40 => b_X1_ofProduction_1_123 n r27 r67 v0 v1 v2 v3 v4 v5 v6 v7 v8 q28 q40 h))
set_option maxRecDepth 100000 in
theorem zb_X1_ofProduction_1_67 {al : Bool} {n : Nat} {r27 : Nat → Int → Int → Int → Int → Int → Int → gi_H → Option (Int × gi_H)} {r67 : Nat → Int → Int → Int → Int → Int → Int → Int → Int → gi_H → Option (Int × gi_H)} {res : Int} {h1 : gi_H} (hr27 : ∀ (x0 : Nat) (x1 : Int) (x2 : Int) (x3 : Int) (x4 : Int) (x5 : Int) (x6 : Int) (hh : gi_H), r27 x0 x1 x2 x3 x4 x5 x6 hh = some (res, h1) → gx_Z mX1_ofProduction al al 0 0 27 [(0, .ref x0), (1, .int (gI x1)), (2, .int (gI x2)), (3, .int (gI x3)), (4, .int (gI x4)), (5, .int (gI x5)), (6, .int (gI x6))] [] (gi_cv hh) (.inl (some (.int (gI res)))) (gi_cv h1)) (hr67 : ∀ (x0 : Nat) (x1 : Int) (x2 : Int) (x3 : Int) (x4 : Int) (x5 : Int) (x6 : Int) (x7 : Int) (x8 : Int) (hh : gi_H), r67 x0 x1 x2 x3 x4 x5 x6 x7 x8 hh = some (res, h1) → gx_Z mX1_ofProduction al al 0 0 67 [(0, .ref x0), (1, .int (gI x1)), (2, .int (gI x2)), (3, .int (gI x3)), (4, .int (gI x4)), (5, .int (gI x5)), (6, .int (gI x6)), (7, .int (gI x7)), (8, .int (gI x8))] [] (gi_cv hh) (.inl (some (.int (gI res)))) (gi_cv h1)) {v0 : Nat} {v1 : Int} {v2 : Int} {v3 : Int} {v4 : Int} {v5 : Int} {v6 : Int} {v7 : Int} {v8 : Int}  {h : gi_H} (e : b_X1_ofProduction_1_67 n r27 r67 v0 v1 v2 v3 v4 v5 v6 v7 v8 h = some (res, h1)) : gx_Z mX1_ofProduction al al 0 0 67 [(0, .ref v0), (1, .int (gI v1)), (2, .int (gI v2)), (3, .int (gI v3)), (4, .int (gI v4)), (5, .int (gI v5)), (6, .int (gI v6)), (7, .int (gI v7)), (8, .int (gI v8))] [] (gi_cv h) (.inl (some (.int (gI res)))) (gi_cv h1) := by
  refine gx_iload dX1_ofProduction_67 8 rfl ?_
  refine gx_iload_n dX1_ofProduction_69 rfl 3 rfl ?_
  refine gx_bE e (fun _ g21 e => ?_)
  refine gx_bE e (fun _ g22 e => ?_)
  refine gx_iE e (fun c23 e => ?_) (fun c23 e => ?_)
  · refine gy_icmp_gt (tgt := 147) (gi_rgS g21) (gi_rgS g22) dX1_ofProduction_70 (by decide) (fun _ => ?_) (fun z => absurd c23 z)
    refine gx_sub (ls2 := [(0, .ref v0), (1, .int (gI v1)), (2, .int (gI v2)), (3, .int (gI v3)), (4, .int (gI v4)), (5, .int (gI v5)), (6, .int (gI v6))]) [0, 1, 2, 3, 4, 5, 6] rfl ?_
    exact zb_X1_ofProduction_1_147 hr27 e
  · refine gy_icmp_gt (tgt := 147) (gi_rgS g21) (gi_rgS g22) dX1_ofProduction_70 (by decide) (fun z => absurd z c23) (fun _ => ?_)
    refine gx_aload_n dX1_ofProduction_73 rfl 0 rfl ?_
    refine gx_iload dX1_ofProduction_74 4 rfl ?_
    refine gx_iload dX1_ofProduction_76 6 rfl ?_
    refine gy_iadd dX1_ofProduction_78 ?_
    refine gx_iload_n dX1_ofProduction_79 rfl 2 rfl ?_
    refine gx_iload dX1_ofProduction_80 8 rfl ?_
    refine gx_bE e (fun _ hu27 e => ?_)
    refine gx_bE e (fun q28 hq28 e => ?_)
    refine gx_callU (n := 3) (st := []) (As := [.int (gI (v4 + v6)), .int (gI v2), .int (gI v8)]) (b := v0) dX1_ofProduction_82 (z_X1_part_1 hq28) rfl ⟨rfl, gw_cw_X1_part, gw_11, gp_X1_part, ⟨Nat.le_of_ble_eq_true rfl, Nat.le_of_ble_eq_true rfl⟩⟩ (gi_isS hu27) (by decide) (x := ⟨"Grammarsmith$Chart", "part", "(III)I"⟩) (owner := "Grammarsmith$Chart") gw_577 gw_1337 gz_0_part gw_579 rfl (by decide +kernel) ⟨Nat.le_of_ble_eq_true rfl, Nat.le_of_ble_eq_true rfl⟩ (Nat.le_of_ble_eq_true rfl) (gy_k1 (x := .int (gI q28)) (kc2 := 0) (ks2 := 0) ⟨rfl, rfl⟩ ?_) gy_kn
    refine gx_istore (ls2 := [(9, .int (gI q28)), (0, .ref v0), (1, .int (gI v1)), (2, .int (gI v2)), (3, .int (gI v3)), (4, .int (gI v4)), (5, .int (gI v5)), (6, .int (gI v6)), (7, .int (gI v7)), (8, .int (gI v8))]) dX1_ofProduction_85 (Nat.le_of_ble_eq_true rfl) rfl ?_
    refine gx_iload dX1_ofProduction_87 8 rfl ?_
    refine gx_bE e (fun q29 hq29 e => ?_)
    refine gx_callSN (n := 1) (st := []) (As := [.int (gI v7)]) dX1_ofProduction_89 (z_X11_isTerminal hq29) rfl ⟨rfl, gw_cw_X11_isTerminal, gw_1, gp_X11_isTerminal, ⟨Nat.le_of_ble_eq_true rfl, Nat.le_of_ble_eq_true rfl⟩⟩ (host := "Grammarsmith") (by decide +kernel) gw_582 ⟨Nat.le_of_ble_eq_true rfl, Nat.le_of_ble_eq_true rfl⟩ (Nat.le_of_ble_eq_true rfl) (gy_k1 (x := .int (gI q29)) (kc2 := 0) (ks2 := 0) ⟨rfl, rfl⟩ ?_) gy_kn
    refine gx_istore (ls2 := [(10, .int (gI q29)), (9, .int (gI q28)), (0, .ref v0), (1, .int (gI v1)), (2, .int (gI v2)), (3, .int (gI v3)), (4, .int (gI v4)), (5, .int (gI v5)), (6, .int (gI v6)), (7, .int (gI v7)), (8, .int (gI v8))]) dX1_ofProduction_92 (Nat.le_of_ble_eq_true rfl) rfl ?_
    refine gx_iload dX1_ofProduction_94 0 rfl ?_
    refine gx_bE e (fun _ g30 e => ?_)
    refine gx_iE e (fun c31 e => ?_) (fun c31 e => ?_)
    · refine gy_if_eq (tgt := 111) (gi_rgS g30) dX1_ofProduction_96 (by decide) (fun _ => ?_) (fun z => absurd c31 z)
      refine gx_aload_n dX1_ofProduction_111 rfl 2 rfl ?_
      refine gx_iload dX1_ofProduction_112 9 rfl ?_
      refine gy_bipush dX1_ofProduction_114 gcb_16 ?_
      refine gy_isub dX1_ofProduction_116 ?_
      refine gx_iload dX1_ofProduction_117 10 rfl ?_
      refine gx_iload_n dX1_ofProduction_119 rfl 5 rfl ?_
      refine gx_bE e (fun _ hu32 e => ?_)
      refine gx_bE e (fun q33 hq33 e => ?_)
      refine gx_callU (n := 3) (st := []) (As := [.int (gI (v7 - (16 : Int))), .int (gI v8), .int (gI v3)]) (b := v0) dX1_ofProduction_120 (z_X1_whole_1 hq33) rfl ⟨rfl, gw_cw_X1_whole, gw_11, gp_X1_whole, ⟨Nat.le_of_ble_eq_true rfl, Nat.le_of_ble_eq_true rfl⟩⟩ (gi_isS hu32) (by decide) (x := ⟨"Grammarsmith$Chart", "whole", "(III)I"⟩) (owner := "Grammarsmith$Chart") gw_602 gw_1338 gz_0_whole gw_604 rfl (by decide +kernel) ⟨Nat.le_of_ble_eq_true rfl, Nat.le_of_ble_eq_true rfl⟩ (Nat.le_of_ble_eq_true rfl) (gy_k1 (x := .int (gI q33)) (kc2 := 0) (ks2 := 0) ⟨rfl, rfl⟩ ?_) gy_kn
      refine gx_sub (ls2 := [(0, .ref v0), (1, .int (gI v1)), (2, .int (gI v2)), (3, .int (gI v3)), (4, .int (gI v4)), (5, .int (gI v5)), (6, .int (gI v6)), (7, .int (gI v7)), (8, .int (gI v8)), (9, .int (gI q28))]) [2, 3, 4, 5, 6, 7, 8, 9, 10, 1] rfl ?_
      exact zb_X1_ofProduction_1_123 hr27 hr67 e
    · refine gy_if_eq (tgt := 111) (gi_rgS g30) dX1_ofProduction_96 (by decide) (fun z => absurd z c31) (fun _ => ?_)
      refine gx_aload_n dX1_ofProduction_99 rfl 2 rfl ?_
      refine gx_iload dX1_ofProduction_100 9 rfl ?_
      refine gx_iload dX1_ofProduction_102 10 rfl ?_
      refine gx_iload_n dX1_ofProduction_104 rfl 5 rfl ?_
      refine gx_bE e (fun _ hu39 e => ?_)
      refine gx_bE e (fun q40 hq40 e => ?_)
      refine gx_callA (n := 3) (st := []) (As := [.int (gI v7), .int (gI v8), .int (gI v3)]) (b := v0) dX1_ofProduction_105 (z_X2_ofTerminal hq40) rfl ⟨rfl, gw_cw_X2_ofTerminal, gw_12, gp_X2_ofTerminal, ⟨Nat.le_of_ble_eq_true rfl, Nat.le_of_ble_eq_true rfl⟩⟩ (gi_isS hu39) (by decide) (x := ⟨"Grammarsmith$Chart", "ofTerminal", "(III)I"⟩) (owner := "Grammarsmith$Chart") gw_584 gw_586 gw_587 gw_588 (by decide +kernel) (by decide +kernel) ⟨Nat.le_of_ble_eq_true rfl, Nat.le_of_ble_eq_true rfl⟩ (Nat.le_of_ble_eq_true rfl) (gy_k1 (x := .int (gI q40)) (kc2 := 0) (ks2 := 0) ⟨rfl, rfl⟩ ?_) gy_kn
      refine gx_goto (tgt := 123) dX1_ofProduction_108 (by decide) ?_
      refine gx_sub (ls2 := [(0, .ref v0), (1, .int (gI v1)), (2, .int (gI v2)), (3, .int (gI v3)), (4, .int (gI v4)), (5, .int (gI v5)), (6, .int (gI v6)), (7, .int (gI v7)), (8, .int (gI v8)), (9, .int (gI q28))]) [2, 3, 4, 5, 6, 7, 8, 9, 10, 1] rfl ?_
      exact zb_X1_ofProduction_1_123 hr27 hr67 e
def l_X1_ofProduction_1_67 (n : Nat) (r27 : Nat → Int → Int → Int → Int → Int → Int → gi_H → Option (Int × gi_H)) : Nat → Nat → Int → Int → Int → Int → Int → Int → Int → Int → gi_H → Option (Int × gi_H)
  | 0, _, _, _, _, _, _, _, _, _, _ => none
  | k + 1, v0, v1, v2, v3, v4, v5, v6, v7, v8, h => b_X1_ofProduction_1_67 n r27 (l_X1_ofProduction_1_67 n r27 k) v0 v1 v2 v3 v4 v5 v6 v7 v8 h
theorem zl_X1_ofProduction_1_67 {al : Bool} {n : Nat} {r27 : Nat → Int → Int → Int → Int → Int → Int → gi_H → Option (Int × gi_H)} {res : Int} {h1 : gi_H} (hr27 : ∀ (x0 : Nat) (x1 : Int) (x2 : Int) (x3 : Int) (x4 : Int) (x5 : Int) (x6 : Int) (hh : gi_H), r27 x0 x1 x2 x3 x4 x5 x6 hh = some (res, h1) → gx_Z mX1_ofProduction al al 0 0 27 [(0, .ref x0), (1, .int (gI x1)), (2, .int (gI x2)), (3, .int (gI x3)), (4, .int (gI x4)), (5, .int (gI x5)), (6, .int (gI x6))] [] (gi_cv hh) (.inl (some (.int (gI res)))) (gi_cv h1)) : ∀ (k : Nat) (v0 : Nat) (v1 : Int) (v2 : Int) (v3 : Int) (v4 : Int) (v5 : Int) (v6 : Int) (v7 : Int) (v8 : Int) (h : gi_H), l_X1_ofProduction_1_67 n r27 k v0 v1 v2 v3 v4 v5 v6 v7 v8 h = some (res, h1) → gx_Z mX1_ofProduction al al 0 0 67 [(0, .ref v0), (1, .int (gI v1)), (2, .int (gI v2)), (3, .int (gI v3)), (4, .int (gI v4)), (5, .int (gI v5)), (6, .int (gI v6)), (7, .int (gI v7)), (8, .int (gI v8))] [] (gi_cv h) (.inl (some (.int (gI res)))) (gi_cv h1)
  | 0, _, _, _, _, _, _, _, _, _, _, e => gx_0E e
  | k + 1, _, _, _, _, _, _, _, _, _, _, e => zb_X1_ofProduction_1_67 (n := n) hr27 (zl_X1_ofProduction_1_67 hr27 k) e
set_option maxRecDepth 100000 in
def b_X1_ofProduction_1_27 (n : Nat) (r27 : Nat → Int → Int → Int → Int → Int → Int → gi_H → Option (Int × gi_H)) (v0 : Nat) (v1 : Int) (v2 : Int) (v3 : Int) (v4 : Int) (v5 : Int) (v6 : Int)  (h : gi_H) : Option (Int × gi_H) :=
  Option.bind (gi_gR h v0 1 0) fun t6 => Option.bind (gi_is h t6 2) fun _ => Option.bind (f_X3_grammar t6 h) fun q8 => Option.bind (gi_is h q8 3) fun _ => Option.bind (f_X4_length q8 v1 h) fun q10 => Option.bind (gi_rg v6) fun _ => Option.bind (gi_rg q10) fun _ => if q10 ≤ v6 then (some (v5, h)) else (Option.bind (gi_gR h v0 1 0) fun t14 => Option.bind (gi_is h t14 2) fun _ => Option.bind (f_X3_grammar t14 h) fun q16 => Option.bind (gi_is h q16 3) fun _ => Option.bind (f_X4_symbol q16 v1 v6 h) fun q18 => Option.bind (gi_is h v0 1) fun _ => Option.bind (f_X2_none v0 h) fun q20 => l_X1_ofProduction_1_67 n r27 n v0 v1 v2 v3 v4 q20 v6 q18 v2 h)
set_option maxRecDepth 100000 in
theorem zb_X1_ofProduction_1_27 {al : Bool} {n : Nat} {r27 : Nat → Int → Int → Int → Int → Int → Int → gi_H → Option (Int × gi_H)} {res : Int} {h1 : gi_H} (hr27 : ∀ (x0 : Nat) (x1 : Int) (x2 : Int) (x3 : Int) (x4 : Int) (x5 : Int) (x6 : Int) (hh : gi_H), r27 x0 x1 x2 x3 x4 x5 x6 hh = some (res, h1) → gx_Z mX1_ofProduction al al 0 0 27 [(0, .ref x0), (1, .int (gI x1)), (2, .int (gI x2)), (3, .int (gI x3)), (4, .int (gI x4)), (5, .int (gI x5)), (6, .int (gI x6))] [] (gi_cv hh) (.inl (some (.int (gI res)))) (gi_cv h1)) {v0 : Nat} {v1 : Int} {v2 : Int} {v3 : Int} {v4 : Int} {v5 : Int} {v6 : Int}  {h : gi_H} (e : b_X1_ofProduction_1_27 n r27 v0 v1 v2 v3 v4 v5 v6 h = some (res, h1)) : gx_Z mX1_ofProduction al al 0 0 27 [(0, .ref v0), (1, .int (gI v1)), (2, .int (gI v2)), (3, .int (gI v3)), (4, .int (gI v4)), (5, .int (gI v5)), (6, .int (gI v6))] [] (gi_cv h) (.inl (some (.int (gI res)))) (gi_cv h1) := by
  refine gx_iload dX1_ofProduction_27 6 rfl ?_
  refine gx_aload_n dX1_ofProduction_29 rfl 0 rfl ?_
  refine gx_bE e (fun t6 ht6 e => ?_)
  refine gy_fR ht6 dX1_ofProduction_30 gf_RX1_15_1_0 (by decide) gkN_1_0 gkR_1_0 ?_
  refine gx_bE e (fun _ hu7 e => ?_)
  refine gx_bE e (fun q8 hq8 e => ?_)
  refine gx_callV (n := 0) (st := [.int (gI v6)]) (As := []) (b := t6) dX1_ofProduction_33 (z_X3_grammar hq8) rfl ⟨rfl, gw_cw_X3_grammar, gw_6, gp_X3_grammar, ⟨Nat.le_of_ble_eq_true rfl, Nat.le_of_ble_eq_true rfl⟩⟩ (gi_isS hu7) (by decide) gw_552 gw_553 gw_554 rfl ⟨Nat.le_of_ble_eq_true rfl, Nat.le_of_ble_eq_true rfl⟩ (Nat.le_of_ble_eq_true rfl) (gy_k1 (x := .ref q8) (kc2 := 0) (ks2 := 0) ⟨rfl, rfl⟩ ?_) gy_kn
  refine gx_iload_n dX1_ofProduction_36 rfl 1 rfl ?_
  refine gx_bE e (fun _ hu9 e => ?_)
  refine gx_bE e (fun q10 hq10 e => ?_)
  refine gx_callV (n := 1) (st := [.int (gI v6)]) (As := [.int (gI v1)]) (b := q8) dX1_ofProduction_37 (z_X4_length hq10) rfl ⟨rfl, gw_cw_X4_length, gw_3, gp_X4_length, ⟨Nat.le_of_ble_eq_true rfl, Nat.le_of_ble_eq_true rfl⟩⟩ (gi_isS hu9) (by decide) gw_575 gw_411 gw_412 rfl ⟨Nat.le_of_ble_eq_true rfl, Nat.le_of_ble_eq_true rfl⟩ (Nat.le_of_ble_eq_true rfl) (gy_k1 (x := .int (gI q10)) (kc2 := 0) (ks2 := 0) ⟨rfl, rfl⟩ ?_) gy_kn
  refine gx_bE e (fun _ g11 e => ?_)
  refine gx_bE e (fun _ g12 e => ?_)
  refine gx_iE e (fun c13 e => ?_) (fun c13 e => ?_)
  · refine gy_icmp_ge (tgt := 168) (gi_rgS g11) (gi_rgS g12) dX1_ofProduction_40 (by decide) (fun _ => ?_) (fun z => absurd c13 z)
    refine gx_iload dX1_ofProduction_168 5 rfl ?_
    cases e
    exact gx_iret dX1_ofProduction_170 rfl ⟨Nat.le_of_ble_eq_true rfl, Nat.le_of_ble_eq_true rfl⟩ (fun z => z)
  · refine gy_icmp_ge (tgt := 168) (gi_rgS g11) (gi_rgS g12) dX1_ofProduction_40 (by decide) (fun z => absurd z c13) (fun _ => ?_)
    refine gx_aload_n dX1_ofProduction_43 rfl 0 rfl ?_
    refine gx_bE e (fun t14 ht14 e => ?_)
    refine gy_fR ht14 dX1_ofProduction_44 gf_RX1_15_1_0 (by decide) gkN_1_0 gkR_1_0 ?_
    refine gx_bE e (fun _ hu15 e => ?_)
    refine gx_bE e (fun q16 hq16 e => ?_)
    refine gx_callV (n := 0) (st := []) (As := []) (b := t14) dX1_ofProduction_47 (z_X3_grammar hq16) rfl ⟨rfl, gw_cw_X3_grammar, gw_6, gp_X3_grammar, ⟨Nat.le_of_ble_eq_true rfl, Nat.le_of_ble_eq_true rfl⟩⟩ (gi_isS hu15) (by decide) gw_552 gw_553 gw_554 rfl ⟨Nat.le_of_ble_eq_true rfl, Nat.le_of_ble_eq_true rfl⟩ (Nat.le_of_ble_eq_true rfl) (gy_k1 (x := .ref q16) (kc2 := 0) (ks2 := 0) ⟨rfl, rfl⟩ ?_) gy_kn
    refine gx_iload_n dX1_ofProduction_50 rfl 1 rfl ?_
    refine gx_iload dX1_ofProduction_51 6 rfl ?_
    refine gx_bE e (fun _ hu17 e => ?_)
    refine gx_bE e (fun q18 hq18 e => ?_)
    refine gx_callV (n := 2) (st := []) (As := [.int (gI v1), .int (gI v6)]) (b := q16) dX1_ofProduction_53 (z_X4_symbol hq18) rfl ⟨rfl, gw_cw_X4_symbol, gw_3, gp_X4_symbol, ⟨Nat.le_of_ble_eq_true rfl, Nat.le_of_ble_eq_true rfl⟩⟩ (gi_isS hu17) (by decide) gw_576 gw_415 gw_416 rfl ⟨Nat.le_of_ble_eq_true rfl, Nat.le_of_ble_eq_true rfl⟩ (Nat.le_of_ble_eq_true rfl) (gy_k1 (x := .int (gI q18)) (kc2 := 0) (ks2 := 0) ⟨rfl, rfl⟩ ?_) gy_kn
    refine gx_istore (ls2 := [(7, .int (gI q18)), (0, .ref v0), (1, .int (gI v1)), (2, .int (gI v2)), (3, .int (gI v3)), (4, .int (gI v4)), (5, .int (gI v5)), (6, .int (gI v6))]) dX1_ofProduction_56 (Nat.le_of_ble_eq_true rfl) rfl ?_
    refine gx_aload_n dX1_ofProduction_58 rfl 1 rfl ?_
    refine gx_bE e (fun _ hu19 e => ?_)
    refine gx_bE e (fun q20 hq20 e => ?_)
    refine gx_callA (n := 0) (st := []) (As := []) (b := v0) dX1_ofProduction_59 (z_X2_none hq20) rfl ⟨rfl, gw_cw_X2_none, gw_12, gp_X2_none, ⟨Nat.le_of_ble_eq_true rfl, Nat.le_of_ble_eq_true rfl⟩⟩ (gi_isS hu19) (by decide) (x := ⟨"Grammarsmith$Chart", "none", "()I"⟩) (owner := "Grammarsmith$Chart") gw_530 gw_532 gw_533 gw_534 (by decide +kernel) (by decide +kernel) ⟨Nat.le_of_ble_eq_true rfl, Nat.le_of_ble_eq_true rfl⟩ (Nat.le_of_ble_eq_true rfl) (gy_k1 (x := .int (gI q20)) (kc2 := 0) (ks2 := 0) ⟨rfl, rfl⟩ ?_) gy_kn
    refine gx_istore (ls2 := [(5, .int (gI q20)), (7, .int (gI q18)), (0, .ref v0), (1, .int (gI v1)), (2, .int (gI v2)), (3, .int (gI v3)), (4, .int (gI v4)), (6, .int (gI v6))]) dX1_ofProduction_62 (Nat.le_of_ble_eq_true rfl) rfl ?_
    refine gx_iload_n dX1_ofProduction_64 rfl 4 rfl ?_
    refine gx_istore (ls2 := [(8, .int (gI v2)), (5, .int (gI q20)), (7, .int (gI q18)), (0, .ref v0), (1, .int (gI v1)), (2, .int (gI v2)), (3, .int (gI v3)), (4, .int (gI v4)), (6, .int (gI v6))]) dX1_ofProduction_65 (Nat.le_of_ble_eq_true rfl) rfl ?_
    refine gx_sub (ls2 := [(0, .ref v0), (1, .int (gI v1)), (2, .int (gI v2)), (3, .int (gI v3)), (4, .int (gI v4)), (5, .int (gI q20)), (6, .int (gI v6)), (7, .int (gI q18)), (8, .int (gI v2))]) [3, 4, 5, 6, 7, 1, 8, 2, 0] rfl ?_
    exact zl_X1_ofProduction_1_67 hr27 n _ _ _ _ _ _ _ _ _ _ e
def l_X1_ofProduction_1_27 (n : Nat)  : Nat → Nat → Int → Int → Int → Int → Int → Int → gi_H → Option (Int × gi_H)
  | 0, _, _, _, _, _, _, _, _ => none
  | k + 1, v0, v1, v2, v3, v4, v5, v6, h => b_X1_ofProduction_1_27 n  (l_X1_ofProduction_1_27 n  k) v0 v1 v2 v3 v4 v5 v6 h
theorem zl_X1_ofProduction_1_27 {al : Bool} {n : Nat}  {res : Int} {h1 : gi_H}  : ∀ (k : Nat) (v0 : Nat) (v1 : Int) (v2 : Int) (v3 : Int) (v4 : Int) (v5 : Int) (v6 : Int) (h : gi_H), l_X1_ofProduction_1_27 n  k v0 v1 v2 v3 v4 v5 v6 h = some (res, h1) → gx_Z mX1_ofProduction al al 0 0 27 [(0, .ref v0), (1, .int (gI v1)), (2, .int (gI v2)), (3, .int (gI v3)), (4, .int (gI v4)), (5, .int (gI v5)), (6, .int (gI v6))] [] (gi_cv h) (.inl (some (.int (gI res)))) (gi_cv h1)
  | 0, _, _, _, _, _, _, _, _, e => gx_0E e
  | k + 1, _, _, _, _, _, _, _, _, e => zb_X1_ofProduction_1_27 (n := n)  (zl_X1_ofProduction_1_27  k) e
set_option maxRecDepth 100000 in
def f_X1_ofProduction_1 (n : Nat) (v0 : Nat) (v1 : Int) (v2 : Int) (v3 : Int) (h : gi_H) : Option (Int × gi_H) :=
  gx_nm (v1 * (6 : Int)) fun t1 => Option.bind (gi_is h v0 1) fun _ => Option.bind (f_X2_blank v0 v2 v3 h) fun q3 => Option.bind (gi_is h v0 1) fun _ => Option.bind (f_X1_setPart_1 v0 t1 v2 v3 q3 h) fun q5 => l_X1_ofProduction_1_27 n  n v0 v1 v2 v3 t1 q3 (0 : Int) q5
set_option maxRecDepth 100000 in
theorem z_X1_ofProduction_1 {al : Bool} {n : Nat} {v0 : Nat} {v1 : Int} {v2 : Int} {v3 : Int} {h : gi_H} {res : Int} {h1 : gi_H} (e : f_X1_ofProduction_1 n v0 v1 v2 v3 h = some (res, h1)) : gx_Cw mX1_ofProduction al [.ref v0, .int (gI v1), .int (gI v2), .int (gI v3)] (gi_cv h) (.inl (some (.int (gI res)))) (gi_cv h1) := by
  refine gx_enter (by decide +kernel) rfl (Nat.le_of_ble_eq_true rfl) ?_
  show gx_Z mX1_ofProduction al al 0 0 0 [(0, .ref v0), (1, .int (gI v1)), (2, .int (gI v2)), (3, .int (gI v3))] [] (gi_cv h) (.inl (some (.int (gI res)))) (gi_cv h1)
  refine gx_iload_n dX1_ofProduction_0 rfl 1 rfl ?_
  refine gy_bipush dX1_ofProduction_1 gcb_6 ?_
  refine gy_imul dX1_ofProduction_3 ?_
  refine gx_nE e (fun t1 ht1 e => ?_)
  rw [ht1]
  refine gx_istore (ls2 := [(4, .int (gI t1)), (0, .ref v0), (1, .int (gI v1)), (2, .int (gI v2)), (3, .int (gI v3))]) dX1_ofProduction_4 (Nat.le_of_ble_eq_true rfl) rfl ?_
  refine gx_aload_n dX1_ofProduction_6 rfl 1 rfl ?_
  refine gx_iload_n dX1_ofProduction_7 rfl 3 rfl ?_
  refine gx_iload_n dX1_ofProduction_8 rfl 4 rfl ?_
  refine gx_bE e (fun _ hu2 e => ?_)
  refine gx_bE e (fun q3 hq3 e => ?_)
  refine gx_callA (n := 2) (st := []) (As := [.int (gI v2), .int (gI v3)]) (b := v0) dX1_ofProduction_9 (z_X2_blank hq3) rfl ⟨rfl, gw_cw_X2_blank, gw_12, gp_X2_blank, ⟨Nat.le_of_ble_eq_true rfl, Nat.le_of_ble_eq_true rfl⟩⟩ (gi_isS hu2) (by decide) (x := ⟨"Grammarsmith$Chart", "blank", "(II)I"⟩) (owner := "Grammarsmith$Chart") gw_562 gw_564 gw_565 gw_566 (by decide +kernel) (by decide +kernel) ⟨Nat.le_of_ble_eq_true rfl, Nat.le_of_ble_eq_true rfl⟩ (Nat.le_of_ble_eq_true rfl) (gy_k1 (x := .int (gI q3)) (kc2 := 0) (ks2 := 0) ⟨rfl, rfl⟩ ?_) gy_kn
  refine gx_istore (ls2 := [(5, .int (gI q3)), (4, .int (gI t1)), (0, .ref v0), (1, .int (gI v1)), (2, .int (gI v2)), (3, .int (gI v3))]) dX1_ofProduction_12 (Nat.le_of_ble_eq_true rfl) rfl ?_
  refine gx_aload_n dX1_ofProduction_14 rfl 2 rfl ?_
  refine gx_iload dX1_ofProduction_15 1 rfl ?_
  refine gx_iload_n dX1_ofProduction_17 rfl 4 rfl ?_
  refine gx_iload_n dX1_ofProduction_18 rfl 5 rfl ?_
  refine gx_iload dX1_ofProduction_19 0 rfl ?_
  refine gx_bE e (fun _ hu4 e => ?_)
  refine gx_bE e (fun q5 hq5 e => ?_)
  refine gx_callU (n := 4) (st := []) (As := [.int (gI t1), .int (gI v2), .int (gI v3), .int (gI q3)]) (b := v0) dX1_ofProduction_21 (z_X1_setPart_1 hq5) rfl ⟨rfl, gw_cw_X1_setPart, gw_11, gp_X1_setPart, ⟨Nat.le_of_ble_eq_true rfl, Nat.le_of_ble_eq_true rfl⟩⟩ (gi_isS hu4) (by decide) (x := ⟨"Grammarsmith$Chart", "setPart", "(IIII)V"⟩) (owner := "Grammarsmith$Chart") gw_571 gw_1336 gz_0_setPart gw_573 rfl (by decide +kernel) ⟨Nat.le_of_ble_eq_true rfl, Nat.le_of_ble_eq_true rfl⟩ (Nat.le_of_ble_eq_true rfl) (gy_k0 (kc2 := 0) (ks2 := 0) ⟨rfl, rfl⟩ ?_) gy_kn
  refine gy_iconst dX1_ofProduction_24 ?_
  refine gx_istore (ls2 := [(6, .int (gI (0 : Int))), (5, .int (gI q3)), (4, .int (gI t1)), (0, .ref v0), (1, .int (gI v1)), (2, .int (gI v2)), (3, .int (gI v3))]) dX1_ofProduction_25 (Nat.le_of_ble_eq_true rfl) rfl ?_
  refine gx_sub (ls2 := [(0, .ref v0), (1, .int (gI v1)), (2, .int (gI v2)), (3, .int (gI v3)), (4, .int (gI t1)), (5, .int (gI q3)), (6, .int (gI (0 : Int)))]) [3, 4, 5, 6, 2, 1, 0] rfl ?_
  exact zl_X1_ofProduction_1_27  n _ _ _ _ _ _ _ _ e
/-! X1_facts 1 -/
set_option maxRecDepth 100000 in
def f_X1_facts_1 (v0 : Nat) (h : gi_H) : Option (Nat) :=
  Option.bind (gi_gR h v0 1 0) fun t1 => some t1
set_option maxRecDepth 100000 in
theorem z_X1_facts_1 {al : Bool} {v0 : Nat} {h : gi_H} {res : Nat} (e : f_X1_facts_1 v0 h = some res) : gx_Cw mX1_facts al [.ref v0] (gi_cv h) (.inl (some (.ref res))) (gi_cv h) := by
  refine gx_enter (by decide +kernel) rfl (Nat.le_of_ble_eq_true rfl) ?_
  show gx_Z mX1_facts al al 0 0 0 [(0, .ref v0)] [] (gi_cv h) (.inl (some (.ref res))) (gi_cv h)
  refine gx_aload_n dX1_facts_0 rfl 0 rfl ?_
  refine gx_bE e (fun t1 ht1 e => ?_)
  refine gy_fR ht1 dX1_facts_1 gf_RX1_15_1_0 (by decide) gkN_1_0 gkR_1_0 ?_
  cases e
  exact gx_aret dX1_facts_4 rfl ⟨Nat.le_of_ble_eq_true rfl, Nat.le_of_ble_eq_true rfl⟩ (fun z => z)
/-! X3_isCircular  -/
set_option maxRecDepth 100000 in
def f_X3_isCircular (v0 : Nat) (v1 : Int) (h : gi_H) : Option (Int) :=
  Option.bind (gi_gI h v0 2 4) fun t1 => Option.bind (f_X11_has t1 v1 h) fun q2 => Option.bind (gi_zo q2) fun _ => some q2
set_option maxRecDepth 100000 in
theorem z_X3_isCircular {al : Bool} {v0 : Nat} {v1 : Int} {h : gi_H} {res : Int} (e : f_X3_isCircular v0 v1 h = some res) : gx_Cw mX3_isCircular al [.ref v0, .int (gI v1)] (gi_cv h) (.inl (some (.int (gI res)))) (gi_cv h) := by
  refine gx_enter (by decide +kernel) rfl (Nat.le_of_ble_eq_true rfl) ?_
  show gx_Z mX3_isCircular al al 0 0 0 [(0, .ref v0), (1, .int (gI v1))] [] (gi_cv h) (.inl (some (.int (gI res)))) (gi_cv h)
  refine gx_aload_n dX3_isCircular_0 rfl 0 rfl ?_
  refine gx_bE e (fun t1 ht1 e => ?_)
  refine gy_fI ht1 dX3_isCircular_1 gf_RX3_90_2_4 (by decide) gkN_2_4 gkR_2_4 ?_
  refine gx_iload_n dX3_isCircular_4 rfl 1 rfl ?_
  refine gx_bE e (fun q2 hq2 e => ?_)
  refine gx_callSN (n := 2) (st := []) (As := [.int (gI t1), .int (gI v1)]) dX3_isCircular_5 (z_X11_has hq2) rfl ⟨rfl, gw_cw_X11_has, gw_1, gp_X11_has, ⟨Nat.le_of_ble_eq_true rfl, Nat.le_of_ble_eq_true rfl⟩⟩ (host := "Grammarsmith") (by decide +kernel) gw_460 ⟨Nat.le_of_ble_eq_true rfl, Nat.le_of_ble_eq_true rfl⟩ (Nat.le_of_ble_eq_true rfl) (gy_k1 (x := .int (gI q2)) (kc2 := 0) (ks2 := 0) ⟨rfl, rfl⟩ ?_) gy_kn
  refine gx_bE e (fun _ hu3 e => ?_)
  cases e
  exact gx_zret (gi_zoS hu3) dX3_isCircular_8 rfl ⟨Nat.le_of_ble_eq_true rfl, Nat.le_of_ble_eq_true rfl⟩ (fun z => z)
/-! X2_ofNonterminal  -/
set_option maxRecDepth 100000 in
def b_X2_ofNonterminal_20  (v2 : Int)  (h : gi_H) : Option (Int) :=
  some v2
set_option maxRecDepth 100000 in
theorem zb_X2_ofNonterminal_20 {al : Bool}  {res : Int}  {v2 : Int}  {h : gi_H} (e : b_X2_ofNonterminal_20 v2 h = some res) : gx_Z mX2_ofNonterminal al al 0 0 20 [(2, .int (gI v2))] [] (gi_cv h) (.inl (some (.int (gI res)))) (gi_cv h) := by
  refine gx_iload_n dX2_ofNonterminal_20 rfl 0 rfl ?_
  cases e
  exact gx_iret dX2_ofNonterminal_21 rfl ⟨Nat.le_of_ble_eq_true rfl, Nat.le_of_ble_eq_true rfl⟩ (fun z => z)
set_option maxRecDepth 100000 in
def f_X2_ofNonterminal (v0 : Nat) (v1 : Int) (v2 : Int) (h : gi_H) : Option (Int) :=
  Option.bind (gi_rg v2) fun _ => if v2 ≤ 0 then (b_X2_ofNonterminal_20  v2 h) else (Option.bind (gi_is h v0 1) fun _ => Option.bind (f_X1_facts_1 v0 h) fun q4 => Option.bind (gi_is h q4 2) fun _ => Option.bind (f_X3_isCircular q4 v1 h) fun q6 => Option.bind (gi_rg q6) fun _ => if q6 = 0 then (b_X2_ofNonterminal_20  v2 h) else (some (100 : Int)))
set_option maxRecDepth 100000 in
theorem z_X2_ofNonterminal {al : Bool} {v0 : Nat} {v1 : Int} {v2 : Int} {h : gi_H} {res : Int} (e : f_X2_ofNonterminal v0 v1 v2 h = some res) : gx_Cw mX2_ofNonterminal al [.ref v0, .int (gI v1), .int (gI v2)] (gi_cv h) (.inl (some (.int (gI res)))) (gi_cv h) := by
  refine gx_enter (by decide +kernel) rfl (Nat.le_of_ble_eq_true rfl) ?_
  show gx_Z mX2_ofNonterminal al al 0 0 0 [(0, .ref v0), (1, .int (gI v1)), (2, .int (gI v2))] [] (gi_cv h) (.inl (some (.int (gI res)))) (gi_cv h)
  refine gx_iload_n dX2_ofNonterminal_0 rfl 2 rfl ?_
  refine gx_bE e (fun _ g1 e => ?_)
  refine gx_iE e (fun c2 e => ?_) (fun c2 e => ?_)
  · refine gy_if_le (tgt := 20) (gi_rgS g1) dX2_ofNonterminal_1 (by decide) (fun _ => ?_) (fun z => absurd c2 z)
    refine gx_sub (ls2 := [(2, .int (gI v2))]) [2] rfl ?_
    exact zb_X2_ofNonterminal_20  e
  · refine gy_if_le (tgt := 20) (gi_rgS g1) dX2_ofNonterminal_1 (by decide) (fun z => absurd z c2) (fun _ => ?_)
    refine gx_aload_n dX2_ofNonterminal_4 rfl 0 rfl ?_
    refine gx_bE e (fun _ hu3 e => ?_)
    refine gx_bE e (fun q4 hq4 e => ?_)
    refine gx_callU (n := 0) (st := []) (As := []) (b := v0) dX2_ofNonterminal_5 (z_X1_facts_1 hq4) rfl ⟨rfl, gw_cw_X1_facts, gw_11, gp_X1_facts, ⟨Nat.le_of_ble_eq_true rfl, Nat.le_of_ble_eq_true rfl⟩⟩ (gi_isS hu3) (by decide) (x := ⟨"Grammarsmith$CountingChart", "facts", "()LGrammarsmith$Facts;"⟩) (owner := "Grammarsmith$Chart") gw_632 gw_633 gw_635 gw_636 rfl (by decide +kernel) ⟨Nat.le_of_ble_eq_true rfl, Nat.le_of_ble_eq_true rfl⟩ (Nat.le_of_ble_eq_true rfl) (gy_k1 (x := .ref q4) (kc2 := 0) (ks2 := 0) ⟨rfl, rfl⟩ ?_) gy_kn
    refine gx_iload_n dX2_ofNonterminal_8 rfl 1 rfl ?_
    refine gx_bE e (fun _ hu5 e => ?_)
    refine gx_bE e (fun q6 hq6 e => ?_)
    refine gx_callV (n := 1) (st := []) (As := [.int (gI v1)]) (b := q4) dX2_ofNonterminal_9 (z_X3_isCircular hq6) rfl ⟨rfl, gw_cw_X3_isCircular, gw_6, gp_X3_isCircular, ⟨Nat.le_of_ble_eq_true rfl, Nat.le_of_ble_eq_true rfl⟩⟩ (gi_isS hu5) (by decide) gw_638 gw_639 gw_640 rfl ⟨Nat.le_of_ble_eq_true rfl, Nat.le_of_ble_eq_true rfl⟩ (Nat.le_of_ble_eq_true rfl) (gy_k1 (x := .int (gI q6)) (kc2 := 0) (ks2 := 0) ⟨rfl, rfl⟩ ?_) gy_kn
    refine gx_bE e (fun _ g7 e => ?_)
    refine gx_iE e (fun c8 e => ?_) (fun c8 e => ?_)
    · refine gy_if_eq (tgt := 20) (gi_rgS g7) dX2_ofNonterminal_12 (by decide) (fun _ => ?_) (fun z => absurd c8 z)
      refine gx_sub (ls2 := [(2, .int (gI v2))]) [2] rfl ?_
      exact zb_X2_ofNonterminal_20  e
    · refine gy_if_eq (tgt := 20) (gi_rgS g7) dX2_ofNonterminal_12 (by decide) (fun z => absurd z c8) (fun _ => ?_)
      refine gy_bipush dX2_ofNonterminal_15 gcb_100 ?_
      refine gx_goto (tgt := 21) dX2_ofNonterminal_17 (by decide) ?_
      cases e
      exact gx_iret dX2_ofNonterminal_21 rfl ⟨Nat.le_of_ble_eq_true rfl, Nat.le_of_ble_eq_true rfl⟩ (fun z => z)
/-! X1_refine 1 -/
set_option maxRecDepth 100000 in
def b_X1_refine_1_139 (n : Nat) (r92 : Nat → Int → Int → Int → Int → gi_H → Option (Int × gi_H)) (v0 : Nat) (v1 : Int) (v2 : Int) (v3 : Int) (v4 : Int)  (h : gi_H) : Option (Int × gi_H) :=
  gx_nm (v4 + (1 : Int)) fun t25 => r92 v0 v1 v2 v3 t25 h
set_option maxRecDepth 100000 in
theorem zb_X1_refine_1_139 {al : Bool} {n : Nat} {r92 : Nat → Int → Int → Int → Int → gi_H → Option (Int × gi_H)} {res : Int} {h1 : gi_H} (hr92 : ∀ (x0 : Nat) (x1 : Int) (x2 : Int) (x3 : Int) (x4 : Int) (hh : gi_H), r92 x0 x1 x2 x3 x4 hh = some (res, h1) → gx_Z mX1_refine al al 0 0 92 [(0, .ref x0), (1, .int (gI x1)), (2, .int (gI x2)), (3, .int (gI x3)), (4, .int (gI x4))] [] (gi_cv hh) (.inl (some (.int (gI res)))) (gi_cv h1)) {v0 : Nat} {v1 : Int} {v2 : Int} {v3 : Int} {v4 : Int}  {h : gi_H} (e : b_X1_refine_1_139 n r92 v0 v1 v2 v3 v4 h = some (res, h1)) : gx_Z mX1_refine al al 0 0 139 [(0, .ref v0), (1, .int (gI v1)), (2, .int (gI v2)), (3, .int (gI v3)), (4, .int (gI v4))] [] (gi_cv h) (.inl (some (.int (gI res)))) (gi_cv h1) := by
  refine gx_nE e (fun t25 ht25 e => ?_)
  refine gy_iinc (v := t25) (ls2 := [(4, .int (gI t25)), (0, .ref v0), (1, .int (gI v1)), (2, .int (gI v2)), (3, .int (gI v3))]) dX1_refine_139 4 rfl ht25 (Nat.le_of_ble_eq_true rfl) rfl ?_
  refine gx_goto (tgt := 92) dX1_refine_142 (by decide) ?_
  refine gx_sub (ls2 := [(0, .ref v0), (1, .int (gI v1)), (2, .int (gI v2)), (3, .int (gI v3)), (4, .int (gI t25))]) [1, 2, 3, 4, 0] rfl ?_
  exact hr92 _ _ _ _ _ _ e
set_option maxRecDepth 100000 in
def b_X1_refine_1_92 (n : Nat) (r92 : Nat → Int → Int → Int → Int → gi_H → Option (Int × gi_H)) (v0 : Nat) (v1 : Int) (v2 : Int) (v3 : Int) (v4 : Int)  (h : gi_H) : Option (Int × gi_H) :=
  Option.bind (gi_rg v4) fun _ => if (16 : Int) ≤ v4 then (Option.bind (gi_zo v3) fun _ => some (v3, h)) else (Option.bind (gi_gR h v0 1 4) fun t16 => Option.bind (gi_aI h 1 t16 v4) fun t17 => Option.bind (gi_is h v0 1) fun _ => Option.bind (f_X2_ofNonterminal v0 v4 t17 h) fun q19 => Option.bind (gi_is h v0 1) fun _ => Option.bind (f_X1_whole_1 v0 v4 v1 v2 h) fun q21 => Option.bind (gi_rg q19) fun _ => Option.bind (gi_rg q21) fun _ => if q19 = q21 then (b_X1_refine_1_139 n r92 v0 v1 v2 v3 v4 h) else (Option.bind (gi_is h v0 1) fun _ => Option.bind (f_X1_setWhole_1 v0 v4 v1 v2 q19 h) fun q27 => b_X1_refine_1_139 n r92 v0 v1 v2 (1 : Int) v4 q27))
set_option maxRecDepth 100000 in
theorem zb_X1_refine_1_92 {al : Bool} {n : Nat} {r92 : Nat → Int → Int → Int → Int → gi_H → Option (Int × gi_H)} {res : Int} {h1 : gi_H} (hr92 : ∀ (x0 : Nat) (x1 : Int) (x2 : Int) (x3 : Int) (x4 : Int) (hh : gi_H), r92 x0 x1 x2 x3 x4 hh = some (res, h1) → gx_Z mX1_refine al al 0 0 92 [(0, .ref x0), (1, .int (gI x1)), (2, .int (gI x2)), (3, .int (gI x3)), (4, .int (gI x4))] [] (gi_cv hh) (.inl (some (.int (gI res)))) (gi_cv h1)) {v0 : Nat} {v1 : Int} {v2 : Int} {v3 : Int} {v4 : Int}  {h : gi_H} (e : b_X1_refine_1_92 n r92 v0 v1 v2 v3 v4 h = some (res, h1)) : gx_Z mX1_refine al al 0 0 92 [(0, .ref v0), (1, .int (gI v1)), (2, .int (gI v2)), (3, .int (gI v3)), (4, .int (gI v4))] [] (gi_cv h) (.inl (some (.int (gI res)))) (gi_cv h1) := by
  refine gx_iload dX1_refine_92 4 rfl ?_
  refine gy_bipush dX1_refine_94 gcb_16 ?_
  refine gx_bE e (fun _ g13 e => ?_)
  refine gx_iE e (fun c14 e => ?_) (fun c14 e => ?_)
  · refine gy_icmp_ge (tgt := 145) (gi_rgS g13) (by decide) dX1_refine_96 (by decide) (fun _ => ?_) (fun z => absurd c14 z)
    refine gx_iload_n dX1_refine_145 rfl 3 rfl ?_
    refine gx_bE e (fun _ hu15 e => ?_)
    cases e
    exact gx_zret (gi_zoS hu15) dX1_refine_146 rfl ⟨Nat.le_of_ble_eq_true rfl, Nat.le_of_ble_eq_true rfl⟩ (fun z => z)
  · refine gy_icmp_ge (tgt := 145) (gi_rgS g13) (by decide) dX1_refine_96 (by decide) (fun z => absurd z c14) (fun _ => ?_)
    refine gx_aload_n dX1_refine_99 rfl 0 rfl ?_
    refine gx_iload dX1_refine_100 4 rfl ?_
    refine gx_aload_n dX1_refine_102 rfl 0 rfl ?_
    refine gx_bE e (fun t16 ht16 e => ?_)
    refine gy_fR ht16 dX1_refine_103 gf_RX1_9_1_4 (by decide) gkN_1_4 gkR_1_4 ?_
    refine gx_iload dX1_refine_106 4 rfl ?_
    refine gx_bE e (fun t17 ht17 e => ?_)
    refine gy_l1 ht17 dX1_refine_108 ?_
    refine gx_bE e (fun _ hu18 e => ?_)
    refine gx_bE e (fun q19 hq19 e => ?_)
    refine gx_callA (n := 2) (st := []) (As := [.int (gI v4), .int (gI t17)]) (b := v0) dX1_refine_109 (z_X2_ofNonterminal hq19) rfl ⟨rfl, gw_cw_X2_ofNonterminal, gw_12, gp_X2_ofNonterminal, ⟨Nat.le_of_ble_eq_true rfl, Nat.le_of_ble_eq_true rfl⟩⟩ (gi_isS hu18) (by decide) (x := ⟨"Grammarsmith$Chart", "ofNonterminal", "(II)I"⟩) (owner := "Grammarsmith$Chart") gw_626 gw_628 gw_629 gw_630 (by decide +kernel) (by decide +kernel) ⟨Nat.le_of_ble_eq_true rfl, Nat.le_of_ble_eq_true rfl⟩ (Nat.le_of_ble_eq_true rfl) (gy_k1 (x := .int (gI q19)) (kc2 := 0) (ks2 := 0) ⟨rfl, rfl⟩ ?_) gy_kn
    refine gx_istore (ls2 := [(5, .int (gI q19)), (0, .ref v0), (1, .int (gI v1)), (2, .int (gI v2)), (3, .int (gI v3)), (4, .int (gI v4))]) dX1_refine_112 (Nat.le_of_ble_eq_true rfl) rfl ?_
    refine gx_iload dX1_refine_114 0 rfl ?_
    refine gx_aload_n dX1_refine_116 rfl 1 rfl ?_
    refine gx_iload dX1_refine_117 5 rfl ?_
    refine gx_iload_n dX1_refine_119 rfl 2 rfl ?_
    refine gx_iload_n dX1_refine_120 rfl 3 rfl ?_
    refine gx_bE e (fun _ hu20 e => ?_)
    refine gx_bE e (fun q21 hq21 e => ?_)
    refine gx_callU (n := 3) (st := [.int (gI q19)]) (As := [.int (gI v4), .int (gI v1), .int (gI v2)]) (b := v0) dX1_refine_121 (z_X1_whole_1 hq21) rfl ⟨rfl, gw_cw_X1_whole, gw_11, gp_X1_whole, ⟨Nat.le_of_ble_eq_true rfl, Nat.le_of_ble_eq_true rfl⟩⟩ (gi_isS hu20) (by decide) (x := ⟨"Grammarsmith$Chart", "whole", "(III)I"⟩) (owner := "Grammarsmith$Chart") gw_602 gw_1338 gz_0_whole gw_604 rfl (by decide +kernel) ⟨Nat.le_of_ble_eq_true rfl, Nat.le_of_ble_eq_true rfl⟩ (Nat.le_of_ble_eq_true rfl) (gy_k1 (x := .int (gI q21)) (kc2 := 0) (ks2 := 0) ⟨rfl, rfl⟩ ?_) gy_kn
    refine gx_bE e (fun _ g22 e => ?_)
    refine gx_bE e (fun _ g23 e => ?_)
    refine gx_iE e (fun c24 e => ?_) (fun c24 e => ?_)
    · refine gy_icmp_eq (tgt := 139) (gi_rgS g22) (gi_rgS g23) dX1_refine_124 (by decide) (fun _ => ?_) (fun z => absurd c24 z)
      refine gx_sub (ls2 := [(0, .ref v0), (1, .int (gI v1)), (2, .int (gI v2)), (3, .int (gI v3)), (4, .int (gI v4))]) [1, 2, 3, 4, 5] rfl ?_
      exact zb_X1_refine_1_139 hr92 e
    · refine gy_icmp_eq (tgt := 139) (gi_rgS g22) (gi_rgS g23) dX1_refine_124 (by decide) (fun z => absurd z c24) (fun _ => ?_)
      refine gx_aload_n dX1_refine_127 rfl 1 rfl ?_
      refine gx_iload dX1_refine_128 5 rfl ?_
      refine gx_iload_n dX1_refine_130 rfl 2 rfl ?_
      refine gx_iload_n dX1_refine_131 rfl 3 rfl ?_
      refine gx_iload dX1_refine_132 0 rfl ?_
      refine gx_bE e (fun _ hu26 e => ?_)
      refine gx_bE e (fun q27 hq27 e => ?_)
      refine gx_callU (n := 4) (st := []) (As := [.int (gI v4), .int (gI v1), .int (gI v2), .int (gI q19)]) (b := v0) dX1_refine_134 (z_X1_setWhole_1 hq27) rfl ⟨rfl, gw_cw_X1_setWhole, gw_11, gp_X1_setWhole, ⟨Nat.le_of_ble_eq_true rfl, Nat.le_of_ble_eq_true rfl⟩⟩ (gi_isS hu26) (by decide) (x := ⟨"Grammarsmith$Chart", "setWhole", "(IIII)V"⟩) (owner := "Grammarsmith$Chart") gw_539 gw_1333 gz_0_setWhole gw_541 rfl (by decide +kernel) ⟨Nat.le_of_ble_eq_true rfl, Nat.le_of_ble_eq_true rfl⟩ (Nat.le_of_ble_eq_true rfl) (gy_k0 (kc2 := 0) (ks2 := 0) ⟨rfl, rfl⟩ ?_) gy_kn
      refine gy_iconst dX1_refine_137 ?_
      refine gx_istore_n (ls2 := [(3, .int (gI (1 : Int))), (5, .int (gI q19)), (0, .ref v0), (1, .int (gI v1)), (2, .int (gI v2)), (4, .int (gI v4))]) dX1_refine_138 rfl (Nat.le_of_ble_eq_true rfl) rfl ?_
      refine gx_sub (ls2 := [(0, .ref v0), (1, .int (gI v1)), (2, .int (gI v2)), (3, .int (gI (1 : Int))), (4, .int (gI v4))]) [2, 3, 4, 0, 5] rfl ?_
      exact zb_X1_refine_1_139 hr92 e
def l_X1_refine_1_92 (n : Nat)  : Nat → Nat → Int → Int → Int → Int → gi_H → Option (Int × gi_H)
  | 0, _, _, _, _, _, _ => none
  | k + 1, v0, v1, v2, v3, v4, h => b_X1_refine_1_92 n  (l_X1_refine_1_92 n  k) v0 v1 v2 v3 v4 h
theorem zl_X1_refine_1_92 {al : Bool} {n : Nat}  {res : Int} {h1 : gi_H}  : ∀ (k : Nat) (v0 : Nat) (v1 : Int) (v2 : Int) (v3 : Int) (v4 : Int) (h : gi_H), l_X1_refine_1_92 n  k v0 v1 v2 v3 v4 h = some (res, h1) → gx_Z mX1_refine al al 0 0 92 [(0, .ref v0), (1, .int (gI v1)), (2, .int (gI v2)), (3, .int (gI v3)), (4, .int (gI v4))] [] (gi_cv h) (.inl (some (.int (gI res)))) (gi_cv h1)
  | 0, _, _, _, _, _, _, e => gx_0E e
  | k + 1, _, _, _, _, _, _, e => zb_X1_refine_1_92 (n := n)  (zl_X1_refine_1_92  k) e
set_option maxRecDepth 100000 in
def b_X1_refine_1_87 (n : Nat)  (v0 : Nat) (v1 : Int) (v2 : Int)  (h : gi_H) : Option (Int × gi_H) :=
  l_X1_refine_1_92 n  n v0 v1 v2 (0 : Int) (0 : Int) h
set_option maxRecDepth 100000 in
theorem zb_X1_refine_1_87 {al : Bool} {n : Nat}  {res : Int} {h1 : gi_H}  {v0 : Nat} {v1 : Int} {v2 : Int}  {h : gi_H} (e : b_X1_refine_1_87 n v0 v1 v2 h = some (res, h1)) : gx_Z mX1_refine al al 0 0 87 [(0, .ref v0), (1, .int (gI v1)), (2, .int (gI v2))] [] (gi_cv h) (.inl (some (.int (gI res)))) (gi_cv h1) := by
  refine gy_iconst dX1_refine_87 ?_
  refine gx_istore_n (ls2 := [(3, .int (gI (0 : Int))), (0, .ref v0), (1, .int (gI v1)), (2, .int (gI v2))]) dX1_refine_88 rfl (Nat.le_of_ble_eq_true rfl) rfl ?_
  refine gy_iconst dX1_refine_89 ?_
  refine gx_istore (ls2 := [(4, .int (gI (0 : Int))), (3, .int (gI (0 : Int))), (0, .ref v0), (1, .int (gI v1)), (2, .int (gI v2))]) dX1_refine_90 (Nat.le_of_ble_eq_true rfl) rfl ?_
  refine gx_sub (ls2 := [(0, .ref v0), (1, .int (gI v1)), (2, .int (gI v2)), (3, .int (gI (0 : Int))), (4, .int (gI (0 : Int)))]) [2, 3, 4, 1, 0] rfl ?_
  exact zl_X1_refine_1_92  n _ _ _ _ _ _ e
set_option maxRecDepth 100000 in
def b_X1_refine_1_81 (n : Nat) (r13 : Nat → Int → Int → Int → gi_H → Option (Int × gi_H)) (v0 : Nat) (v1 : Int) (v2 : Int) (v3 : Int)  (h : gi_H) : Option (Int × gi_H) :=
  gx_nm (v3 + (1 : Int)) fun t37 => r13 v0 v1 v2 t37 h
set_option maxRecDepth 100000 in
theorem zb_X1_refine_1_81 {al : Bool} {n : Nat} {r13 : Nat → Int → Int → Int → gi_H → Option (Int × gi_H)} {res : Int} {h1 : gi_H} (hr13 : ∀ (x0 : Nat) (x1 : Int) (x2 : Int) (x3 : Int) (hh : gi_H), r13 x0 x1 x2 x3 hh = some (res, h1) → gx_Z mX1_refine al al 0 0 13 [(0, .ref x0), (1, .int (gI x1)), (2, .int (gI x2)), (3, .int (gI x3))] [] (gi_cv hh) (.inl (some (.int (gI res)))) (gi_cv h1)) {v0 : Nat} {v1 : Int} {v2 : Int} {v3 : Int}  {h : gi_H} (e : b_X1_refine_1_81 n r13 v0 v1 v2 v3 h = some (res, h1)) : gx_Z mX1_refine al al 0 0 81 [(0, .ref v0), (1, .int (gI v1)), (2, .int (gI v2)), (3, .int (gI v3))] [] (gi_cv h) (.inl (some (.int (gI res)))) (gi_cv h1) := by
  refine gx_nE e (fun t37 ht37 e => ?_)
  refine gy_iinc (v := t37) (ls2 := [(3, .int (gI t37)), (0, .ref v0), (1, .int (gI v1)), (2, .int (gI v2))]) dX1_refine_81 3 rfl ht37 (Nat.le_of_ble_eq_true rfl) rfl ?_
  refine gx_goto (tgt := 13) dX1_refine_84 (by decide) ?_
  refine gx_sub (ls2 := [(0, .ref v0), (1, .int (gI v1)), (2, .int (gI v2)), (3, .int (gI t37))]) [1, 2, 3, 0] rfl ?_
  exact hr13 _ _ _ _ _ e
set_option maxRecDepth 100000 in
def b_X1_refine_1_13 (n : Nat) (r13 : Nat → Int → Int → Int → gi_H → Option (Int × gi_H)) (v0 : Nat) (v1 : Int) (v2 : Int) (v3 : Int)  (h : gi_H) : Option (Int × gi_H) :=
  Option.bind (gi_gR h v0 1 0) fun t5 => Option.bind (gi_is h t5 2) fun _ => Option.bind (f_X3_grammar t5 h) fun q7 => Option.bind (gi_is h q7 3) fun _ => Option.bind (f_X4_count q7 h) fun q9 => Option.bind (gi_rg v3) fun _ => Option.bind (gi_rg q9) fun _ => if q9 ≤ v3 then (b_X1_refine_1_87 n  v0 v1 v2 h) else (Option.bind (gi_gR h v0 1 0) fun t28 => Option.bind (gi_is h t28 2) fun _ => Option.bind (f_X3_grammar t28 h) fun q30 => Option.bind (gi_is h q30 3) fun _ => Option.bind (f_X4_owner q30 v3 h) fun q32 => Option.bind (gi_is h v0 1) fun _ => Option.bind (f_X1_ofProduction_1 n v0 v3 v1 v2 h) fun q34 => Option.bind (gi_rg q32) fun _ => if q32 < 0 then (b_X1_refine_1_81 n r13 v0 v1 v2 v3 q34.2) else (if (16 : Int) ≤ q32 then (b_X1_refine_1_81 n r13 v0 v1 v2 v3 q34.2) else (Option.bind (gi_gR q34.2 v0 1 4) fun t39 => Option.bind (gi_gR q34.2 v0 1 4) fun t40 => Option.bind (gi_aI q34.2 1 t40 q32) fun t41 => Option.bind (gi_is q34.2 v0 1) fun _ => Option.bind (f_X2_either v0 t41 q34.1 q34.2) fun q43 => Option.bind (gi_s1 q34.2 t39 q32 q43) fun h44 => b_X1_refine_1_81 n r13 v0 v1 v2 v3 h44)))
set_option maxRecDepth 100000 in
theorem zb_X1_refine_1_13 {al : Bool} {n : Nat} {r13 : Nat → Int → Int → Int → gi_H → Option (Int × gi_H)} {res : Int} {h1 : gi_H} (hr13 : ∀ (x0 : Nat) (x1 : Int) (x2 : Int) (x3 : Int) (hh : gi_H), r13 x0 x1 x2 x3 hh = some (res, h1) → gx_Z mX1_refine al al 0 0 13 [(0, .ref x0), (1, .int (gI x1)), (2, .int (gI x2)), (3, .int (gI x3))] [] (gi_cv hh) (.inl (some (.int (gI res)))) (gi_cv h1)) {v0 : Nat} {v1 : Int} {v2 : Int} {v3 : Int}  {h : gi_H} (e : b_X1_refine_1_13 n r13 v0 v1 v2 v3 h = some (res, h1)) : gx_Z mX1_refine al al 0 0 13 [(0, .ref v0), (1, .int (gI v1)), (2, .int (gI v2)), (3, .int (gI v3))] [] (gi_cv h) (.inl (some (.int (gI res)))) (gi_cv h1) := by
  refine gx_iload_n dX1_refine_13 rfl 3 rfl ?_
  refine gx_aload_n dX1_refine_14 rfl 0 rfl ?_
  refine gx_bE e (fun t5 ht5 e => ?_)
  refine gy_fR ht5 dX1_refine_15 gf_RX1_15_1_0 (by decide) gkN_1_0 gkR_1_0 ?_
  refine gx_bE e (fun _ hu6 e => ?_)
  refine gx_bE e (fun q7 hq7 e => ?_)
  refine gx_callV (n := 0) (st := [.int (gI v3)]) (As := []) (b := t5) dX1_refine_18 (z_X3_grammar hq7) rfl ⟨rfl, gw_cw_X3_grammar, gw_6, gp_X3_grammar, ⟨Nat.le_of_ble_eq_true rfl, Nat.le_of_ble_eq_true rfl⟩⟩ (gi_isS hu6) (by decide) gw_552 gw_553 gw_554 rfl ⟨Nat.le_of_ble_eq_true rfl, Nat.le_of_ble_eq_true rfl⟩ (Nat.le_of_ble_eq_true rfl) (gy_k1 (x := .ref q7) (kc2 := 0) (ks2 := 0) ⟨rfl, rfl⟩ ?_) gy_kn
  refine gx_bE e (fun _ hu8 e => ?_)
  refine gx_bE e (fun q9 hq9 e => ?_)
  refine gx_callV (n := 0) (st := [.int (gI v3)]) (As := []) (b := q7) dX1_refine_21 (z_X4_count hq9) rfl ⟨rfl, gw_cw_X4_count, gw_3, gp_X4_count, ⟨Nat.le_of_ble_eq_true rfl, Nat.le_of_ble_eq_true rfl⟩⟩ (gi_isS hu8) (by decide) gw_556 gw_384 gw_385 rfl ⟨Nat.le_of_ble_eq_true rfl, Nat.le_of_ble_eq_true rfl⟩ (Nat.le_of_ble_eq_true rfl) (gy_k1 (x := .int (gI q9)) (kc2 := 0) (ks2 := 0) ⟨rfl, rfl⟩ ?_) gy_kn
  refine gx_bE e (fun _ g10 e => ?_)
  refine gx_bE e (fun _ g11 e => ?_)
  refine gx_iE e (fun c12 e => ?_) (fun c12 e => ?_)
  · refine gy_icmp_ge (tgt := 87) (gi_rgS g10) (gi_rgS g11) dX1_refine_24 (by decide) (fun _ => ?_) (fun z => absurd c12 z)
    refine gx_sub (ls2 := [(0, .ref v0), (1, .int (gI v1)), (2, .int (gI v2))]) [0, 1, 2] rfl ?_
    exact zb_X1_refine_1_87  e
  · refine gy_icmp_ge (tgt := 87) (gi_rgS g10) (gi_rgS g11) dX1_refine_24 (by decide) (fun z => absurd z c12) (fun _ => ?_)
    refine gx_aload_n dX1_refine_27 rfl 0 rfl ?_
    refine gx_bE e (fun t28 ht28 e => ?_)
    refine gy_fR ht28 dX1_refine_28 gf_RX1_15_1_0 (by decide) gkN_1_0 gkR_1_0 ?_
    refine gx_bE e (fun _ hu29 e => ?_)
    refine gx_bE e (fun q30 hq30 e => ?_)
    refine gx_callV (n := 0) (st := []) (As := []) (b := t28) dX1_refine_31 (z_X3_grammar hq30) rfl ⟨rfl, gw_cw_X3_grammar, gw_6, gp_X3_grammar, ⟨Nat.le_of_ble_eq_true rfl, Nat.le_of_ble_eq_true rfl⟩⟩ (gi_isS hu29) (by decide) gw_552 gw_553 gw_554 rfl ⟨Nat.le_of_ble_eq_true rfl, Nat.le_of_ble_eq_true rfl⟩ (Nat.le_of_ble_eq_true rfl) (gy_k1 (x := .ref q30) (kc2 := 0) (ks2 := 0) ⟨rfl, rfl⟩ ?_) gy_kn
    refine gx_iload_n dX1_refine_34 rfl 3 rfl ?_
    refine gx_bE e (fun _ hu31 e => ?_)
    refine gx_bE e (fun q32 hq32 e => ?_)
    refine gx_callV (n := 1) (st := []) (As := [.int (gI v3)]) (b := q30) dX1_refine_35 (z_X4_owner hq32) rfl ⟨rfl, gw_cw_X4_owner, gw_3, gp_X4_owner, ⟨Nat.le_of_ble_eq_true rfl, Nat.le_of_ble_eq_true rfl⟩⟩ (gi_isS hu31) (by decide) gw_557 gw_403 gw_404 rfl ⟨Nat.le_of_ble_eq_true rfl, Nat.le_of_ble_eq_true rfl⟩ (Nat.le_of_ble_eq_true rfl) (gy_k1 (x := .int (gI q32)) (kc2 := 0) (ks2 := 0) ⟨rfl, rfl⟩ ?_) gy_kn
    refine gx_istore (ls2 := [(4, .int (gI q32)), (0, .ref v0), (1, .int (gI v1)), (2, .int (gI v2)), (3, .int (gI v3))]) dX1_refine_38 (Nat.le_of_ble_eq_true rfl) rfl ?_
    refine gx_aload_n dX1_refine_40 rfl 1 rfl ?_
    refine gx_iload_n dX1_refine_41 rfl 4 rfl ?_
    refine gx_iload_n dX1_refine_42 rfl 2 rfl ?_
    refine gx_iload_n dX1_refine_43 rfl 3 rfl ?_
    refine gx_bE e (fun _ hu33 e => ?_)
    refine gx_bE e (fun q34 hq34 e => ?_)
    refine gx_callU (n := 3) (st := []) (As := [.int (gI v3), .int (gI v1), .int (gI v2)]) (b := v0) dX1_refine_44 (z_X1_ofProduction_1 hq34) rfl ⟨rfl, gw_cw_X1_ofProduction, gw_11, gp_X1_ofProduction, ⟨Nat.le_of_ble_eq_true rfl, Nat.le_of_ble_eq_true rfl⟩⟩ (gi_isS hu33) (by decide) (x := ⟨"Grammarsmith$Chart", "ofProduction", "(III)I"⟩) (owner := "Grammarsmith$Chart") gw_558 gw_1335 gz_0_ofProduction gw_560 rfl (by decide +kernel) ⟨Nat.le_of_ble_eq_true rfl, Nat.le_of_ble_eq_true rfl⟩ (Nat.le_of_ble_eq_true rfl) (gy_k1 (x := .int (gI q34.1)) (kc2 := 0) (ks2 := 0) ⟨rfl, rfl⟩ ?_) gy_kn
    refine gx_istore (ls2 := [(5, .int (gI q34.1)), (4, .int (gI q32)), (0, .ref v0), (1, .int (gI v1)), (2, .int (gI v2)), (3, .int (gI v3))]) dX1_refine_47 (Nat.le_of_ble_eq_true rfl) rfl ?_
    refine gx_iload dX1_refine_49 1 rfl ?_
    refine gx_bE e (fun _ g35 e => ?_)
    refine gx_iE e (fun c36 e => ?_) (fun c36 e => ?_)
    · refine gy_if_lt (tgt := 81) (gi_rgS g35) dX1_refine_51 (by decide) (fun _ => ?_) (fun z => absurd c36 z)
      refine gx_sub (ls2 := [(0, .ref v0), (1, .int (gI v1)), (2, .int (gI v2)), (3, .int (gI v3))]) [2, 3, 4, 5] rfl ?_
      exact zb_X1_refine_1_81 hr13 e
    · refine gy_if_lt (tgt := 81) (gi_rgS g35) dX1_refine_51 (by decide) (fun z => absurd z c36) (fun _ => ?_)
      refine gx_iload dX1_refine_54 1 rfl ?_
      refine gy_bipush dX1_refine_56 gcb_16 ?_
      refine gx_iE e (fun c38 e => ?_) (fun c38 e => ?_)
      · refine gy_icmp_ge (tgt := 81) (gi_rgS g35) (by decide) dX1_refine_58 (by decide) (fun _ => ?_) (fun z => absurd c38 z)
        refine gx_sub (ls2 := [(0, .ref v0), (1, .int (gI v1)), (2, .int (gI v2)), (3, .int (gI v3))]) [2, 3, 4, 5] rfl ?_
        exact zb_X1_refine_1_81 hr13 e
      · refine gy_icmp_ge (tgt := 81) (gi_rgS g35) (by decide) dX1_refine_58 (by decide) (fun z => absurd z c38) (fun _ => ?_)
        refine gx_aload_n dX1_refine_61 rfl 2 rfl ?_
        refine gx_bE e (fun t39 ht39 e => ?_)
        refine gy_fR ht39 dX1_refine_62 gf_RX1_9_1_4 (by decide) gkN_1_4 gkR_1_4 ?_
        refine gx_iload dX1_refine_65 1 rfl ?_
        refine gx_aload_n dX1_refine_67 rfl 2 rfl ?_
        refine gx_aload_n dX1_refine_68 rfl 2 rfl ?_
        refine gx_bE e (fun t40 ht40 e => ?_)
        refine gy_fR ht40 dX1_refine_69 gf_RX1_9_1_4 (by decide) gkN_1_4 gkR_1_4 ?_
        refine gx_iload dX1_refine_72 1 rfl ?_
        refine gx_bE e (fun t41 ht41 e => ?_)
        refine gy_l1 ht41 dX1_refine_74 ?_
        refine gx_iload dX1_refine_75 0 rfl ?_
        refine gx_bE e (fun _ hu42 e => ?_)
        refine gx_bE e (fun q43 hq43 e => ?_)
        refine gx_callA (n := 2) (st := [.int (gI q32), .ref t39]) (As := [.int (gI t41), .int (gI q34.1)]) (b := v0) dX1_refine_77 (z_X2_either hq43) rfl ⟨rfl, gw_cw_X2_either, gw_12, gp_X2_either, ⟨Nat.le_of_ble_eq_true rfl, Nat.le_of_ble_eq_true rfl⟩⟩ (gi_isS hu42) (by decide) (x := ⟨"Grammarsmith$Chart", "either", "(II)I"⟩) (owner := "Grammarsmith$Chart") gw_617 gw_619 gw_620 gw_621 (by decide +kernel) (by decide +kernel) ⟨Nat.le_of_ble_eq_true rfl, Nat.le_of_ble_eq_true rfl⟩ (Nat.le_of_ble_eq_true rfl) (gy_k1 (x := .int (gI q43)) (kc2 := 0) (ks2 := 0) ⟨rfl, rfl⟩ ?_) gy_kn
        refine gx_bE e (fun h44 hh44 e => ?_)
        refine gy_t1 hh44 dX1_refine_80 ?_
        refine gx_sub (ls2 := [(0, .ref v0), (1, .int (gI v1)), (2, .int (gI v2)), (3, .int (gI v3))]) [2, 3, 4, 5] rfl ?_
        exact zb_X1_refine_1_81 hr13 e
def l_X1_refine_1_13 (n : Nat)  : Nat → Nat → Int → Int → Int → gi_H → Option (Int × gi_H)
  | 0, _, _, _, _, _ => none
  | k + 1, v0, v1, v2, v3, h => b_X1_refine_1_13 n  (l_X1_refine_1_13 n  k) v0 v1 v2 v3 h
theorem zl_X1_refine_1_13 {al : Bool} {n : Nat}  {res : Int} {h1 : gi_H}  : ∀ (k : Nat) (v0 : Nat) (v1 : Int) (v2 : Int) (v3 : Int) (h : gi_H), l_X1_refine_1_13 n  k v0 v1 v2 v3 h = some (res, h1) → gx_Z mX1_refine al al 0 0 13 [(0, .ref v0), (1, .int (gI v1)), (2, .int (gI v2)), (3, .int (gI v3))] [] (gi_cv h) (.inl (some (.int (gI res)))) (gi_cv h1)
  | 0, _, _, _, _, _, e => gx_0E e
  | k + 1, _, _, _, _, _, e => zb_X1_refine_1_13 (n := n)  (zl_X1_refine_1_13  k) e
set_option maxRecDepth 100000 in
def f_X1_refine_1 (n : Nat) (v0 : Nat) (v1 : Int) (v2 : Int) (h : gi_H) : Option (Int × gi_H) :=
  Option.bind (gi_gR h v0 1 4) fun t1 => Option.bind (gi_is h v0 1) fun _ => Option.bind (f_X2_none v0 h) fun q3 => Option.bind (f_J7_fill_53178 n t1 q3 h) fun q4 => l_X1_refine_1_13 n  n v0 v1 v2 (0 : Int) q4
set_option maxRecDepth 100000 in
theorem z_X1_refine_1 {al : Bool} {n : Nat} {v0 : Nat} {v1 : Int} {v2 : Int} {h : gi_H} {res : Int} {h1 : gi_H} (e : f_X1_refine_1 n v0 v1 v2 h = some (res, h1)) : gx_Cw mX1_refine al [.ref v0, .int (gI v1), .int (gI v2)] (gi_cv h) (.inl (some (.int (gI res)))) (gi_cv h1) := by
  refine gx_enter (by decide +kernel) rfl (Nat.le_of_ble_eq_true rfl) ?_
  show gx_Z mX1_refine al al 0 0 0 [(0, .ref v0), (1, .int (gI v1)), (2, .int (gI v2))] [] (gi_cv h) (.inl (some (.int (gI res)))) (gi_cv h1)
  refine gx_aload_n dX1_refine_0 rfl 0 rfl ?_
  refine gx_bE e (fun t1 ht1 e => ?_)
  refine gy_fR ht1 dX1_refine_1 gf_RX1_9_1_4 (by decide) gkN_1_4 gkR_1_4 ?_
  refine gx_aload_n dX1_refine_4 rfl 0 rfl ?_
  refine gx_bE e (fun _ hu2 e => ?_)
  refine gx_bE e (fun q3 hq3 e => ?_)
  refine gx_callA (n := 0) (st := [.ref t1]) (As := []) (b := v0) dX1_refine_5 (z_X2_none hq3) rfl ⟨rfl, gw_cw_X2_none, gw_12, gp_X2_none, ⟨Nat.le_of_ble_eq_true rfl, Nat.le_of_ble_eq_true rfl⟩⟩ (gi_isS hu2) (by decide) (x := ⟨"Grammarsmith$Chart", "none", "()I"⟩) (owner := "Grammarsmith$Chart") gw_530 gw_532 gw_533 gw_534 (by decide +kernel) (by decide +kernel) ⟨Nat.le_of_ble_eq_true rfl, Nat.le_of_ble_eq_true rfl⟩ (Nat.le_of_ble_eq_true rfl) (gy_k1 (x := .int (gI q3)) (kc2 := 0) (ks2 := 0) ⟨rfl, rfl⟩ ?_) gy_kn
  refine gx_bE e (fun q4 hq4 e => ?_)
  refine gx_callS (n := 2) (st := []) (As := [.ref t1, .int (gI q3)]) dX1_refine_8 (z_J7_fill_53178 hq4) rfl ⟨rfl, gw_cw_J7_fill_53178, gw_5, gp_J7_fill_53178, ⟨Nat.le_of_ble_eq_true rfl, Nat.le_of_ble_eq_true rfl⟩⟩ gw_551 gw_98 ⟨Nat.le_of_ble_eq_true rfl, Nat.le_of_ble_eq_true rfl⟩ (Nat.le_of_ble_eq_true rfl) (gy_k0 (kc2 := 0) (ks2 := 0) ⟨rfl, rfl⟩ ?_) gy_kn
  refine gy_iconst dX1_refine_11 ?_
  refine gx_istore_n (ls2 := [(3, .int (gI (0 : Int))), (0, .ref v0), (1, .int (gI v1)), (2, .int (gI v2))]) dX1_refine_12 rfl (Nat.le_of_ble_eq_true rfl) rfl ?_
  refine gx_sub (ls2 := [(0, .ref v0), (1, .int (gI v1)), (2, .int (gI v2)), (3, .int (gI (0 : Int)))]) [1, 2, 3, 0] rfl ?_
  exact zl_X1_refine_1_13  n _ _ _ _ _ e
/-! X1_fill 1 -/
set_option maxRecDepth 100000 in
def b_X1_fill_1_30 (n : Nat) (r30 : Nat → Int → Int → Int → Int → gi_H → Option (gi_H)) (v0 : Nat) (v1 : Int) (v2 : Int) (v3 : Int) (v4 : Int)  (h : gi_H) : Option (gi_H) :=
  Option.bind (gi_rg v4) fun _ => if (1000000 : Int) ≤ v4 then (some h) else (Option.bind (gi_rg v3) fun _ => if v3 = 0 then (some h) else (Option.bind (gi_is h v0 1) fun _ => Option.bind (f_X1_refine_1 n v0 v1 v2 h) fun q8 => gx_nm (v4 + (1 : Int)) fun t9 => r30 v0 v1 v2 q8.1 t9 q8.2))
set_option maxRecDepth 100000 in
theorem zb_X1_fill_1_30 {al : Bool} {n : Nat} {r30 : Nat → Int → Int → Int → Int → gi_H → Option (gi_H)} {h1 : gi_H} (hr30 : ∀ (x0 : Nat) (x1 : Int) (x2 : Int) (x3 : Int) (x4 : Int) (hh : gi_H), r30 x0 x1 x2 x3 x4 hh = some h1 → gx_Z mX1_fill al al 0 0 30 [(0, .ref x0), (1, .int (gI x1)), (2, .int (gI x2)), (3, .int (gI x3)), (4, .int (gI x4))] [] (gi_cv hh) (.inl none) (gi_cv h1)) {v0 : Nat} {v1 : Int} {v2 : Int} {v3 : Int} {v4 : Int}  {h : gi_H} (e : b_X1_fill_1_30 n r30 v0 v1 v2 v3 v4 h = some h1) : gx_Z mX1_fill al al 0 0 30 [(0, .ref v0), (1, .int (gI v1)), (2, .int (gI v2)), (3, .int (gI v3)), (4, .int (gI v4))] [] (gi_cv h) (.inl none) (gi_cv h1) := by
  refine gx_iload dX1_fill_30 4 rfl ?_
  refine gy_ldc (n := 1000000) dX1_fill_32 gw_546 (by decide +kernel) ?_
  refine gx_bE e (fun _ g3 e => ?_)
  refine gx_iE e (fun c4 e => ?_) (fun c4 e => ?_)
  · refine gy_icmp_ge (tgt := 54) (gi_rgS g3) (by decide) dX1_fill_34 (by decide) (fun _ => ?_) (fun z => absurd c4 z)
    cases e
    exact gx_vret dX1_fill_54 rfl ⟨Nat.le_of_ble_eq_true rfl, Nat.le_of_ble_eq_true rfl⟩ (fun z => z)
  · refine gy_icmp_ge (tgt := 54) (gi_rgS g3) (by decide) dX1_fill_34 (by decide) (fun z => absurd z c4) (fun _ => ?_)
    refine gx_iload_n dX1_fill_37 rfl 3 rfl ?_
    refine gx_bE e (fun _ g5 e => ?_)
    refine gx_iE e (fun c6 e => ?_) (fun c6 e => ?_)
    · refine gy_if_eq (tgt := 54) (gi_rgS g5) dX1_fill_38 (by decide) (fun _ => ?_) (fun z => absurd c6 z)
      cases e
      exact gx_vret dX1_fill_54 rfl ⟨Nat.le_of_ble_eq_true rfl, Nat.le_of_ble_eq_true rfl⟩ (fun z => z)
    · refine gy_if_eq (tgt := 54) (gi_rgS g5) dX1_fill_38 (by decide) (fun z => absurd z c6) (fun _ => ?_)
      refine gx_aload_n dX1_fill_41 rfl 0 rfl ?_
      refine gx_iload_n dX1_fill_42 rfl 1 rfl ?_
      refine gx_iload_n dX1_fill_43 rfl 2 rfl ?_
      refine gx_bE e (fun _ hu7 e => ?_)
      refine gx_bE e (fun q8 hq8 e => ?_)
      refine gx_callU (n := 2) (st := []) (As := [.int (gI v1), .int (gI v2)]) (b := v0) dX1_fill_44 (z_X1_refine_1 hq8) rfl ⟨rfl, gw_cw_X1_refine, gw_11, gp_X1_refine, ⟨Nat.le_of_ble_eq_true rfl, Nat.le_of_ble_eq_true rfl⟩⟩ (gi_isS hu7) (by decide) (x := ⟨"Grammarsmith$Chart", "refine", "(II)Z"⟩) (owner := "Grammarsmith$Chart") gw_547 gw_1334 gz_0_refine gw_549 rfl (by decide +kernel) ⟨Nat.le_of_ble_eq_true rfl, Nat.le_of_ble_eq_true rfl⟩ (Nat.le_of_ble_eq_true rfl) (gy_k1 (x := .int (gI q8.1)) (kc2 := 0) (ks2 := 0) ⟨rfl, rfl⟩ ?_) gy_kn
      refine gx_istore_n (ls2 := [(3, .int (gI q8.1)), (0, .ref v0), (1, .int (gI v1)), (2, .int (gI v2)), (4, .int (gI v4))]) dX1_fill_47 rfl (Nat.le_of_ble_eq_true rfl) rfl ?_
      refine gx_nE e (fun t9 ht9 e => ?_)
      refine gy_iinc (v := t9) (ls2 := [(4, .int (gI t9)), (3, .int (gI q8.1)), (0, .ref v0), (1, .int (gI v1)), (2, .int (gI v2))]) dX1_fill_48 4 rfl ht9 (Nat.le_of_ble_eq_true rfl) rfl ?_
      refine gx_goto (tgt := 30) dX1_fill_51 (by decide) ?_
      refine gx_sub (ls2 := [(0, .ref v0), (1, .int (gI v1)), (2, .int (gI v2)), (3, .int (gI q8.1)), (4, .int (gI t9))]) [2, 3, 4, 1, 0] rfl ?_
      exact hr30 _ _ _ _ _ _ e
def l_X1_fill_1_30 (n : Nat)  : Nat → Nat → Int → Int → Int → Int → gi_H → Option (gi_H)
  | 0, _, _, _, _, _, _ => none
  | k + 1, v0, v1, v2, v3, v4, h => b_X1_fill_1_30 n  (l_X1_fill_1_30 n  k) v0 v1 v2 v3 v4 h
theorem zl_X1_fill_1_30 {al : Bool} {n : Nat}  {h1 : gi_H}  : ∀ (k : Nat) (v0 : Nat) (v1 : Int) (v2 : Int) (v3 : Int) (v4 : Int) (h : gi_H), l_X1_fill_1_30 n  k v0 v1 v2 v3 v4 h = some h1 → gx_Z mX1_fill al al 0 0 30 [(0, .ref v0), (1, .int (gI v1)), (2, .int (gI v2)), (3, .int (gI v3)), (4, .int (gI v4))] [] (gi_cv h) (.inl none) (gi_cv h1)
  | 0, _, _, _, _, _, _, e => gx_0E e
  | k + 1, _, _, _, _, _, _, e => zb_X1_fill_1_30 (n := n)  (zl_X1_fill_1_30  k) e
set_option maxRecDepth 100000 in
def b_X1_fill_1_25 (n : Nat)  (v0 : Nat) (v1 : Int) (v2 : Int)  (h : gi_H) : Option (gi_H) :=
  l_X1_fill_1_30 n  n v0 v1 v2 (1 : Int) (0 : Int) h
set_option maxRecDepth 100000 in
theorem zb_X1_fill_1_25 {al : Bool} {n : Nat}  {h1 : gi_H}  {v0 : Nat} {v1 : Int} {v2 : Int}  {h : gi_H} (e : b_X1_fill_1_25 n v0 v1 v2 h = some h1) : gx_Z mX1_fill al al 0 0 25 [(0, .ref v0), (1, .int (gI v1)), (2, .int (gI v2))] [] (gi_cv h) (.inl none) (gi_cv h1) := by
  refine gy_iconst dX1_fill_25 ?_
  refine gx_istore_n (ls2 := [(3, .int (gI (1 : Int))), (0, .ref v0), (1, .int (gI v1)), (2, .int (gI v2))]) dX1_fill_26 rfl (Nat.le_of_ble_eq_true rfl) rfl ?_
  refine gy_iconst dX1_fill_27 ?_
  refine gx_istore (ls2 := [(4, .int (gI (0 : Int))), (3, .int (gI (1 : Int))), (0, .ref v0), (1, .int (gI v1)), (2, .int (gI v2))]) dX1_fill_28 (Nat.le_of_ble_eq_true rfl) rfl ?_
  refine gx_sub (ls2 := [(0, .ref v0), (1, .int (gI v1)), (2, .int (gI v2)), (3, .int (gI (1 : Int))), (4, .int (gI (0 : Int)))]) [2, 3, 4, 1, 0] rfl ?_
  exact zl_X1_fill_1_30  n _ _ _ _ _ _ e
set_option maxRecDepth 100000 in
def b_X1_fill_1_2 (n : Nat) (r2 : Nat → Int → Int → Int → gi_H → Option (gi_H)) (v0 : Nat) (v1 : Int) (v2 : Int) (v3 : Int)  (h : gi_H) : Option (gi_H) :=
  Option.bind (gi_rg v3) fun _ => if (16 : Int) ≤ v3 then (b_X1_fill_1_25 n  v0 v1 v2 h) else (Option.bind (gi_is h v0 1) fun _ => Option.bind (f_X2_none v0 h) fun q11 => Option.bind (gi_is h v0 1) fun _ => Option.bind (f_X1_setWhole_1 v0 v3 v1 v2 q11 h) fun q13 => gx_nm (v3 + (1 : Int)) fun t14 => r2 v0 v1 v2 t14 q13)
set_option maxRecDepth 100000 in
theorem zb_X1_fill_1_2 {al : Bool} {n : Nat} {r2 : Nat → Int → Int → Int → gi_H → Option (gi_H)} {h1 : gi_H} (hr2 : ∀ (x0 : Nat) (x1 : Int) (x2 : Int) (x3 : Int) (hh : gi_H), r2 x0 x1 x2 x3 hh = some h1 → gx_Z mX1_fill al al 0 0 2 [(0, .ref x0), (1, .int (gI x1)), (2, .int (gI x2)), (3, .int (gI x3))] [] (gi_cv hh) (.inl none) (gi_cv h1)) {v0 : Nat} {v1 : Int} {v2 : Int} {v3 : Int}  {h : gi_H} (e : b_X1_fill_1_2 n r2 v0 v1 v2 v3 h = some h1) : gx_Z mX1_fill al al 0 0 2 [(0, .ref v0), (1, .int (gI v1)), (2, .int (gI v2)), (3, .int (gI v3))] [] (gi_cv h) (.inl none) (gi_cv h1) := by
  refine gx_iload_n dX1_fill_2 rfl 3 rfl ?_
  refine gy_bipush dX1_fill_3 gcb_16 ?_
  refine gx_bE e (fun _ g1 e => ?_)
  refine gx_iE e (fun c2 e => ?_) (fun c2 e => ?_)
  · refine gy_icmp_ge (tgt := 25) (gi_rgS g1) (by decide) dX1_fill_5 (by decide) (fun _ => ?_) (fun z => absurd c2 z)
    refine gx_sub (ls2 := [(0, .ref v0), (1, .int (gI v1)), (2, .int (gI v2))]) [0, 1, 2] rfl ?_
    exact zb_X1_fill_1_25  e
  · refine gy_icmp_ge (tgt := 25) (gi_rgS g1) (by decide) dX1_fill_5 (by decide) (fun z => absurd z c2) (fun _ => ?_)
    refine gx_aload_n dX1_fill_8 rfl 0 rfl ?_
    refine gx_iload_n dX1_fill_9 rfl 3 rfl ?_
    refine gx_iload_n dX1_fill_10 rfl 1 rfl ?_
    refine gx_iload_n dX1_fill_11 rfl 2 rfl ?_
    refine gx_aload_n dX1_fill_12 rfl 0 rfl ?_
    refine gx_bE e (fun _ hu10 e => ?_)
    refine gx_bE e (fun q11 hq11 e => ?_)
    refine gx_callA (n := 0) (st := [.int (gI v2), .int (gI v1), .int (gI v3), .ref v0]) (As := []) (b := v0) dX1_fill_13 (z_X2_none hq11) rfl ⟨rfl, gw_cw_X2_none, gw_12, gp_X2_none, ⟨Nat.le_of_ble_eq_true rfl, Nat.le_of_ble_eq_true rfl⟩⟩ (gi_isS hu10) (by decide) (x := ⟨"Grammarsmith$Chart", "none", "()I"⟩) (owner := "Grammarsmith$Chart") gw_530 gw_532 gw_533 gw_534 (by decide +kernel) (by decide +kernel) ⟨Nat.le_of_ble_eq_true rfl, Nat.le_of_ble_eq_true rfl⟩ (Nat.le_of_ble_eq_true rfl) (gy_k1 (x := .int (gI q11)) (kc2 := 0) (ks2 := 0) ⟨rfl, rfl⟩ ?_) gy_kn
    refine gx_bE e (fun _ hu12 e => ?_)
    refine gx_bE e (fun q13 hq13 e => ?_)
    refine gx_callU (n := 4) (st := []) (As := [.int (gI v3), .int (gI v1), .int (gI v2), .int (gI q11)]) (b := v0) dX1_fill_16 (z_X1_setWhole_1 hq13) rfl ⟨rfl, gw_cw_X1_setWhole, gw_11, gp_X1_setWhole, ⟨Nat.le_of_ble_eq_true rfl, Nat.le_of_ble_eq_true rfl⟩⟩ (gi_isS hu12) (by decide) (x := ⟨"Grammarsmith$Chart", "setWhole", "(IIII)V"⟩) (owner := "Grammarsmith$Chart") gw_539 gw_1333 gz_0_setWhole gw_541 rfl (by decide +kernel) ⟨Nat.le_of_ble_eq_true rfl, Nat.le_of_ble_eq_true rfl⟩ (Nat.le_of_ble_eq_true rfl) (gy_k0 (kc2 := 0) (ks2 := 0) ⟨rfl, rfl⟩ ?_) gy_kn
    refine gx_nE e (fun t14 ht14 e => ?_)
    refine gy_iinc (v := t14) (ls2 := [(3, .int (gI t14)), (0, .ref v0), (1, .int (gI v1)), (2, .int (gI v2))]) dX1_fill_19 3 rfl ht14 (Nat.le_of_ble_eq_true rfl) rfl ?_
    refine gx_goto (tgt := 2) dX1_fill_22 (by decide) ?_
    refine gx_sub (ls2 := [(0, .ref v0), (1, .int (gI v1)), (2, .int (gI v2)), (3, .int (gI t14))]) [1, 2, 3, 0] rfl ?_
    exact hr2 _ _ _ _ _ e
def l_X1_fill_1_2 (n : Nat)  : Nat → Nat → Int → Int → Int → gi_H → Option (gi_H)
  | 0, _, _, _, _, _ => none
  | k + 1, v0, v1, v2, v3, h => b_X1_fill_1_2 n  (l_X1_fill_1_2 n  k) v0 v1 v2 v3 h
theorem zl_X1_fill_1_2 {al : Bool} {n : Nat}  {h1 : gi_H}  : ∀ (k : Nat) (v0 : Nat) (v1 : Int) (v2 : Int) (v3 : Int) (h : gi_H), l_X1_fill_1_2 n  k v0 v1 v2 v3 h = some h1 → gx_Z mX1_fill al al 0 0 2 [(0, .ref v0), (1, .int (gI v1)), (2, .int (gI v2)), (3, .int (gI v3))] [] (gi_cv h) (.inl none) (gi_cv h1)
  | 0, _, _, _, _, _, e => gx_0E e
  | k + 1, _, _, _, _, _, e => zb_X1_fill_1_2 (n := n)  (zl_X1_fill_1_2  k) e
set_option maxRecDepth 100000 in
def f_X1_fill_1 (n : Nat) (v0 : Nat) (v1 : Int) (v2 : Int) (h : gi_H) : Option (gi_H) :=
  l_X1_fill_1_2 n  n v0 v1 v2 (0 : Int) h
set_option maxRecDepth 100000 in
theorem z_X1_fill_1 {al : Bool} {n : Nat} {v0 : Nat} {v1 : Int} {v2 : Int} {h : gi_H} {h1 : gi_H} (e : f_X1_fill_1 n v0 v1 v2 h = some h1) : gx_Cw mX1_fill al [.ref v0, .int (gI v1), .int (gI v2)] (gi_cv h) (.inl none) (gi_cv h1) := by
  refine gx_enter (by decide +kernel) rfl (Nat.le_of_ble_eq_true rfl) ?_
  show gx_Z mX1_fill al al 0 0 0 [(0, .ref v0), (1, .int (gI v1)), (2, .int (gI v2))] [] (gi_cv h) (.inl none) (gi_cv h1)
  refine gy_iconst dX1_fill_0 ?_
  refine gx_istore_n (ls2 := [(3, .int (gI (0 : Int))), (0, .ref v0), (1, .int (gI v1)), (2, .int (gI v2))]) dX1_fill_1 rfl (Nat.le_of_ble_eq_true rfl) rfl ?_
  refine gx_sub (ls2 := [(0, .ref v0), (1, .int (gI v1)), (2, .int (gI v2)), (3, .int (gI (0 : Int)))]) [1, 2, 3, 0] rfl ?_
  exact zl_X1_fill_1_2  n _ _ _ _ _ e
/-! X1_measure 1 -/
set_option maxRecDepth 100000 in
def b_X1_measure_1_47 (n : Nat)  (v0 : Nat) (v2 : Int)  (h : gi_H) : Option (Int × gi_H) :=
  Option.bind (gi_gR h v0 1 0) fun t6 => Option.bind (gi_is h t6 2) fun _ => Option.bind (f_X3_grammar t6 h) fun q8 => Option.bind (gi_is h q8 3) fun _ => Option.bind (f_X4_top q8 h) fun q10 => Option.bind (gi_is h v0 1) fun _ => Option.bind (f_X1_whole_1 v0 q10 (0 : Int) v2 h) fun q12 => some (q12, h)
set_option maxRecDepth 100000 in
theorem zb_X1_measure_1_47 {al : Bool} {n : Nat}  {res : Int} {h1 : gi_H}  {v0 : Nat} {v2 : Int}  {h : gi_H} (e : b_X1_measure_1_47 n v0 v2 h = some (res, h1)) : gx_Z mX1_measure al al 0 0 47 [(0, .ref v0), (2, .int (gI v2))] [] (gi_cv h) (.inl (some (.int (gI res)))) (gi_cv h1) := by
  refine gx_aload_n dX1_measure_47 rfl 0 rfl ?_
  refine gx_aload_n dX1_measure_48 rfl 0 rfl ?_
  refine gx_bE e (fun t6 ht6 e => ?_)
  refine gy_fR ht6 dX1_measure_49 gf_RX1_15_1_0 (by decide) gkN_1_0 gkR_1_0 ?_
  refine gx_bE e (fun _ hu7 e => ?_)
  refine gx_bE e (fun q8 hq8 e => ?_)
  refine gx_callV (n := 0) (st := [.ref v0]) (As := []) (b := t6) dX1_measure_52 (z_X3_grammar hq8) rfl ⟨rfl, gw_cw_X3_grammar, gw_6, gp_X3_grammar, ⟨Nat.le_of_ble_eq_true rfl, Nat.le_of_ble_eq_true rfl⟩⟩ (gi_isS hu7) (by decide) gw_552 gw_553 gw_554 rfl ⟨Nat.le_of_ble_eq_true rfl, Nat.le_of_ble_eq_true rfl⟩ (Nat.le_of_ble_eq_true rfl) (gy_k1 (x := .ref q8) (kc2 := 0) (ks2 := 0) ⟨rfl, rfl⟩ ?_) gy_kn
  refine gx_bE e (fun _ hu9 e => ?_)
  refine gx_bE e (fun q10 hq10 e => ?_)
  refine gx_callV (n := 0) (st := [.ref v0]) (As := []) (b := q8) dX1_measure_55 (z_X4_top hq10) rfl ⟨rfl, gw_cw_X4_top, gw_3, gp_X4_top, ⟨Nat.le_of_ble_eq_true rfl, Nat.le_of_ble_eq_true rfl⟩⟩ (gi_isS hu9) (by decide) gw_645 gw_430 gw_431 rfl ⟨Nat.le_of_ble_eq_true rfl, Nat.le_of_ble_eq_true rfl⟩ (Nat.le_of_ble_eq_true rfl) (gy_k1 (x := .int (gI q10)) (kc2 := 0) (ks2 := 0) ⟨rfl, rfl⟩ ?_) gy_kn
  refine gy_iconst dX1_measure_58 ?_
  refine gx_iload_n dX1_measure_59 rfl 1 rfl ?_
  refine gx_bE e (fun _ hu11 e => ?_)
  refine gx_bE e (fun q12 hq12 e => ?_)
  refine gx_callU (n := 3) (st := []) (As := [.int (gI q10), .int (gI (0 : Int)), .int (gI v2)]) (b := v0) dX1_measure_60 (z_X1_whole_1 hq12) rfl ⟨rfl, gw_cw_X1_whole, gw_11, gp_X1_whole, ⟨Nat.le_of_ble_eq_true rfl, Nat.le_of_ble_eq_true rfl⟩⟩ (gi_isS hu11) (by decide) (x := ⟨"Grammarsmith$Chart", "whole", "(III)I"⟩) (owner := "Grammarsmith$Chart") gw_602 gw_1338 gz_0_whole gw_604 rfl (by decide +kernel) ⟨Nat.le_of_ble_eq_true rfl, Nat.le_of_ble_eq_true rfl⟩ (Nat.le_of_ble_eq_true rfl) (gy_k1 (x := .int (gI q12)) (kc2 := 0) (ks2 := 0) ⟨rfl, rfl⟩ ?_) gy_kn
  cases e
  exact gx_iret dX1_measure_63 rfl ⟨Nat.le_of_ble_eq_true rfl, Nat.le_of_ble_eq_true rfl⟩ (fun z => z)
set_option maxRecDepth 100000 in
def b_X1_measure_1_41 (n : Nat) (r9 : Nat → Int → Int → gi_H → Option (Int × gi_H)) (v0 : Nat) (v2 : Int) (v3 : Int)  (h : gi_H) : Option (Int × gi_H) :=
  gx_nm (v3 + (1 : Int)) fun t16 => r9 v0 v2 t16 h
set_option maxRecDepth 100000 in
theorem zb_X1_measure_1_41 {al : Bool} {n : Nat} {r9 : Nat → Int → Int → gi_H → Option (Int × gi_H)} {res : Int} {h1 : gi_H} (hr9 : ∀ (x0 : Nat) (x2 : Int) (x3 : Int) (hh : gi_H), r9 x0 x2 x3 hh = some (res, h1) → gx_Z mX1_measure al al 0 0 9 [(0, .ref x0), (2, .int (gI x2)), (3, .int (gI x3))] [] (gi_cv hh) (.inl (some (.int (gI res)))) (gi_cv h1)) {v0 : Nat} {v2 : Int} {v3 : Int}  {h : gi_H} (e : b_X1_measure_1_41 n r9 v0 v2 v3 h = some (res, h1)) : gx_Z mX1_measure al al 0 0 41 [(0, .ref v0), (2, .int (gI v2)), (3, .int (gI v3))] [] (gi_cv h) (.inl (some (.int (gI res)))) (gi_cv h1) := by
  refine gx_nE e (fun t16 ht16 e => ?_)
  refine gy_iinc (v := t16) (ls2 := [(3, .int (gI t16)), (0, .ref v0), (2, .int (gI v2))]) dX1_measure_41 2 rfl ht16 (Nat.le_of_ble_eq_true rfl) rfl ?_
  refine gx_goto (tgt := 9) dX1_measure_44 (by decide) ?_
  refine gx_sub (ls2 := [(0, .ref v0), (2, .int (gI v2)), (3, .int (gI t16))]) [1, 2, 0] rfl ?_
  exact hr9 _ _ _ _ e
set_option maxRecDepth 100000 in
def b_X1_measure_1_17 (n : Nat) (r9 : Nat → Int → Int → gi_H → Option (Int × gi_H)) (r17 : Nat → Int → Int → Int → gi_H → Option (Int × gi_H)) (v0 : Nat) (v2 : Int) (v3 : Int) (v4 : Int)  (h : gi_H) : Option (Int × gi_H) :=
  Option.bind (gi_rg (v4 + v3)) fun _ => Option.bind (gi_rg v2) fun _ => if v2 < (v4 + v3) then (b_X1_measure_1_41 n r9 v0 v2 v3 h) else (Option.bind (gi_is h v0 1) fun _ => Option.bind (f_X1_fill_1 n v0 v4 (v4 + v3) h) fun q18 => gx_nm (v4 + (1 : Int)) fun t19 => r17 v0 v2 v3 t19 q18)
set_option maxRecDepth 100000 in
theorem zb_X1_measure_1_17 {al : Bool} {n : Nat} {r9 : Nat → Int → Int → gi_H → Option (Int × gi_H)} {r17 : Nat → Int → Int → Int → gi_H → Option (Int × gi_H)} {res : Int} {h1 : gi_H} (hr9 : ∀ (x0 : Nat) (x2 : Int) (x3 : Int) (hh : gi_H), r9 x0 x2 x3 hh = some (res, h1) → gx_Z mX1_measure al al 0 0 9 [(0, .ref x0), (2, .int (gI x2)), (3, .int (gI x3))] [] (gi_cv hh) (.inl (some (.int (gI res)))) (gi_cv h1)) (hr17 : ∀ (x0 : Nat) (x2 : Int) (x3 : Int) (x4 : Int) (hh : gi_H), r17 x0 x2 x3 x4 hh = some (res, h1) → gx_Z mX1_measure al al 0 0 17 [(0, .ref x0), (2, .int (gI x2)), (3, .int (gI x3)), (4, .int (gI x4))] [] (gi_cv hh) (.inl (some (.int (gI res)))) (gi_cv h1)) {v0 : Nat} {v2 : Int} {v3 : Int} {v4 : Int}  {h : gi_H} (e : b_X1_measure_1_17 n r9 r17 v0 v2 v3 v4 h = some (res, h1)) : gx_Z mX1_measure al al 0 0 17 [(0, .ref v0), (2, .int (gI v2)), (3, .int (gI v3)), (4, .int (gI v4))] [] (gi_cv h) (.inl (some (.int (gI res)))) (gi_cv h1) := by
  refine gx_iload dX1_measure_17 3 rfl ?_
  refine gx_iload_n dX1_measure_19 rfl 2 rfl ?_
  refine gy_iadd dX1_measure_20 ?_
  refine gx_iload_n dX1_measure_21 rfl 1 rfl ?_
  refine gx_bE e (fun _ g13 e => ?_)
  refine gx_bE e (fun _ g14 e => ?_)
  refine gx_iE e (fun c15 e => ?_) (fun c15 e => ?_)
  · refine gy_icmp_gt (tgt := 41) (gi_rgS g13) (gi_rgS g14) dX1_measure_22 (by decide) (fun _ => ?_) (fun z => absurd c15 z)
    refine gx_sub (ls2 := [(0, .ref v0), (2, .int (gI v2)), (3, .int (gI v3))]) [0, 1, 2] rfl ?_
    exact zb_X1_measure_1_41 hr9 e
  · refine gy_icmp_gt (tgt := 41) (gi_rgS g13) (gi_rgS g14) dX1_measure_22 (by decide) (fun z => absurd z c15) (fun _ => ?_)
    refine gx_aload_n dX1_measure_25 rfl 0 rfl ?_
    refine gx_iload dX1_measure_26 3 rfl ?_
    refine gx_iload dX1_measure_28 3 rfl ?_
    refine gx_iload_n dX1_measure_30 rfl 2 rfl ?_
    refine gy_iadd dX1_measure_31 ?_
    refine gx_bE e (fun _ hu17 e => ?_)
    refine gx_bE e (fun q18 hq18 e => ?_)
    refine gx_callU (n := 2) (st := []) (As := [.int (gI v4), .int (gI (v4 + v3))]) (b := v0) dX1_measure_32 (z_X1_fill_1 hq18) rfl ⟨rfl, gw_cw_X1_fill, gw_11, gp_X1_fill, ⟨Nat.le_of_ble_eq_true rfl, Nat.le_of_ble_eq_true rfl⟩⟩ (gi_isS hu17) (by decide) (x := ⟨"Grammarsmith$Chart", "fill", "(II)V"⟩) (owner := "Grammarsmith$Chart") gw_526 gw_1332 gz_0_fill gw_528 rfl (by decide +kernel) ⟨Nat.le_of_ble_eq_true rfl, Nat.le_of_ble_eq_true rfl⟩ (Nat.le_of_ble_eq_true rfl) (gy_k0 (kc2 := 0) (ks2 := 0) ⟨rfl, rfl⟩ ?_) gy_kn
    refine gx_nE e (fun t19 ht19 e => ?_)
    refine gy_iinc (v := t19) (ls2 := [(4, .int (gI t19)), (0, .ref v0), (2, .int (gI v2)), (3, .int (gI v3))]) dX1_measure_35 3 rfl ht19 (Nat.le_of_ble_eq_true rfl) rfl ?_
    refine gx_goto (tgt := 17) dX1_measure_38 (by decide) ?_
    refine gx_sub (ls2 := [(0, .ref v0), (2, .int (gI v2)), (3, .int (gI v3)), (4, .int (gI t19))]) [1, 2, 3, 0] rfl ?_
    exact hr17 _ _ _ _ _ e
def l_X1_measure_1_17 (n : Nat) (r9 : Nat → Int → Int → gi_H → Option (Int × gi_H)) : Nat → Nat → Int → Int → Int → gi_H → Option (Int × gi_H)
  | 0, _, _, _, _, _ => none
  | k + 1, v0, v2, v3, v4, h => b_X1_measure_1_17 n r9 (l_X1_measure_1_17 n r9 k) v0 v2 v3 v4 h
theorem zl_X1_measure_1_17 {al : Bool} {n : Nat} {r9 : Nat → Int → Int → gi_H → Option (Int × gi_H)} {res : Int} {h1 : gi_H} (hr9 : ∀ (x0 : Nat) (x2 : Int) (x3 : Int) (hh : gi_H), r9 x0 x2 x3 hh = some (res, h1) → gx_Z mX1_measure al al 0 0 9 [(0, .ref x0), (2, .int (gI x2)), (3, .int (gI x3))] [] (gi_cv hh) (.inl (some (.int (gI res)))) (gi_cv h1)) : ∀ (k : Nat) (v0 : Nat) (v2 : Int) (v3 : Int) (v4 : Int) (h : gi_H), l_X1_measure_1_17 n r9 k v0 v2 v3 v4 h = some (res, h1) → gx_Z mX1_measure al al 0 0 17 [(0, .ref v0), (2, .int (gI v2)), (3, .int (gI v3)), (4, .int (gI v4))] [] (gi_cv h) (.inl (some (.int (gI res)))) (gi_cv h1)
  | 0, _, _, _, _, _, e => gx_0E e
  | k + 1, _, _, _, _, _, e => zb_X1_measure_1_17 (n := n) hr9 (zl_X1_measure_1_17 hr9 k) e
set_option maxRecDepth 100000 in
def b_X1_measure_1_9 (n : Nat) (r9 : Nat → Int → Int → gi_H → Option (Int × gi_H)) (v0 : Nat) (v2 : Int) (v3 : Int)  (h : gi_H) : Option (Int × gi_H) :=
  Option.bind (gi_rg v3) fun _ => Option.bind (gi_rg v2) fun _ => if v2 < v3 then (b_X1_measure_1_47 n  v0 v2 h) else (l_X1_measure_1_17 n r9 n v0 v2 v3 (0 : Int) h)
set_option maxRecDepth 100000 in
theorem zb_X1_measure_1_9 {al : Bool} {n : Nat} {r9 : Nat → Int → Int → gi_H → Option (Int × gi_H)} {res : Int} {h1 : gi_H} (hr9 : ∀ (x0 : Nat) (x2 : Int) (x3 : Int) (hh : gi_H), r9 x0 x2 x3 hh = some (res, h1) → gx_Z mX1_measure al al 0 0 9 [(0, .ref x0), (2, .int (gI x2)), (3, .int (gI x3))] [] (gi_cv hh) (.inl (some (.int (gI res)))) (gi_cv h1)) {v0 : Nat} {v2 : Int} {v3 : Int}  {h : gi_H} (e : b_X1_measure_1_9 n r9 v0 v2 v3 h = some (res, h1)) : gx_Z mX1_measure al al 0 0 9 [(0, .ref v0), (2, .int (gI v2)), (3, .int (gI v3))] [] (gi_cv h) (.inl (some (.int (gI res)))) (gi_cv h1) := by
  refine gx_iload_n dX1_measure_9 rfl 2 rfl ?_
  refine gx_iload_n dX1_measure_10 rfl 1 rfl ?_
  refine gx_bE e (fun _ g3 e => ?_)
  refine gx_bE e (fun _ g4 e => ?_)
  refine gx_iE e (fun c5 e => ?_) (fun c5 e => ?_)
  · refine gy_icmp_gt (tgt := 47) (gi_rgS g3) (gi_rgS g4) dX1_measure_11 (by decide) (fun _ => ?_) (fun z => absurd c5 z)
    refine gx_sub (ls2 := [(0, .ref v0), (2, .int (gI v2))]) [0, 1] rfl ?_
    exact zb_X1_measure_1_47  e
  · refine gy_icmp_gt (tgt := 47) (gi_rgS g3) (gi_rgS g4) dX1_measure_11 (by decide) (fun z => absurd z c5) (fun _ => ?_)
    refine gy_iconst dX1_measure_14 ?_
    refine gx_istore (ls2 := [(4, .int (gI (0 : Int))), (0, .ref v0), (2, .int (gI v2)), (3, .int (gI v3))]) dX1_measure_15 (Nat.le_of_ble_eq_true rfl) rfl ?_
    refine gx_sub (ls2 := [(0, .ref v0), (2, .int (gI v2)), (3, .int (gI v3)), (4, .int (gI (0 : Int)))]) [1, 2, 3, 0] rfl ?_
    exact zl_X1_measure_1_17 hr9 n _ _ _ _ _ e
def l_X1_measure_1_9 (n : Nat)  : Nat → Nat → Int → Int → gi_H → Option (Int × gi_H)
  | 0, _, _, _, _ => none
  | k + 1, v0, v2, v3, h => b_X1_measure_1_9 n  (l_X1_measure_1_9 n  k) v0 v2 v3 h
theorem zl_X1_measure_1_9 {al : Bool} {n : Nat}  {res : Int} {h1 : gi_H}  : ∀ (k : Nat) (v0 : Nat) (v2 : Int) (v3 : Int) (h : gi_H), l_X1_measure_1_9 n  k v0 v2 v3 h = some (res, h1) → gx_Z mX1_measure al al 0 0 9 [(0, .ref v0), (2, .int (gI v2)), (3, .int (gI v3))] [] (gi_cv h) (.inl (some (.int (gI res)))) (gi_cv h1)
  | 0, _, _, _, _, e => gx_0E e
  | k + 1, _, _, _, _, e => zb_X1_measure_1_9 (n := n)  (zl_X1_measure_1_9  k) e
set_option maxRecDepth 100000 in
def f_X1_measure_1 (n : Nat) (v0 : Nat) (v1 : Int) (h : gi_H) : Option (Int × gi_H) :=
  Option.bind (gi_rg v1) fun _ => gx_nm (gi_min v1 (12 : Int)) fun t2 => l_X1_measure_1_9 n  n v0 t2 (0 : Int) h
set_option maxRecDepth 100000 in
theorem z_X1_measure_1 {al : Bool} {n : Nat} {v0 : Nat} {v1 : Int} {h : gi_H} {res : Int} {h1 : gi_H} (e : f_X1_measure_1 n v0 v1 h = some (res, h1)) : gx_Cw mX1_measure al [.ref v0, .int (gI v1)] (gi_cv h) (.inl (some (.int (gI res)))) (gi_cv h1) := by
  refine gx_enter (by decide +kernel) rfl (Nat.le_of_ble_eq_true rfl) ?_
  show gx_Z mX1_measure al al 0 0 0 [(0, .ref v0), (1, .int (gI v1))] [] (gi_cv h) (.inl (some (.int (gI res)))) (gi_cv h1)
  refine gx_iload_n dX1_measure_0 rfl 1 rfl ?_
  refine gy_bipush dX1_measure_1 gcb_12 ?_
  refine gx_bE e (fun _ g1 e => ?_)
  refine gy_mmin (gi_rgS g1) (by decide) dX1_measure_3 gw_525 (Nat.le_of_ble_eq_true rfl) (Nat.le_of_ble_eq_true rfl) ⟨Nat.le_of_ble_eq_true rfl, Nat.le_of_ble_eq_true rfl⟩ ?_
  refine gx_nE e (fun t2 ht2 e => ?_)
  rw [ht2]
  refine gx_istore_n (ls2 := [(2, .int (gI t2)), (0, .ref v0), (1, .int (gI v1))]) dX1_measure_6 rfl (Nat.le_of_ble_eq_true rfl) rfl ?_
  refine gy_iconst dX1_measure_7 ?_
  refine gx_istore_n (ls2 := [(3, .int (gI (0 : Int))), (2, .int (gI t2)), (0, .ref v0), (1, .int (gI v1))]) dX1_measure_8 rfl (Nat.le_of_ble_eq_true rfl) rfl ?_
  refine gx_sub (ls2 := [(0, .ref v0), (2, .int (gI t2)), (3, .int (gI (0 : Int)))]) [2, 1, 0] rfl ?_
  exact zl_X1_measure_1_9  n _ _ _ _ e
/-! X6_none  -/
set_option maxRecDepth 100000 in
def f_X6_none (v0 : Nat) (h : gi_H) : Option (Int) :=
  some (1000 : Int)
set_option maxRecDepth 100000 in
theorem z_X6_none {al : Bool} {v0 : Nat} {h : gi_H} {res : Int} (e : f_X6_none v0 h = some res) : gx_Cw mX6_none al [.ref v0] (gi_cv h) (.inl (some (.int (gI res)))) (gi_cv h) := by
  refine gx_enter (by decide +kernel) rfl (Nat.le_of_ble_eq_true rfl) ?_
  show gx_Z mX6_none al al 0 0 0 [(0, .ref v0)] [] (gi_cv h) (.inl (some (.int (gI res)))) (gi_cv h)
  refine gy_sipush dX6_none_0 gcs_1000 ?_
  cases e
  exact gx_iret dX6_none_3 rfl ⟨Nat.le_of_ble_eq_true rfl, Nat.le_of_ble_eq_true rfl⟩ (fun z => z)
/-! X1_cell 5 -/
set_option maxRecDepth 100000 in
def f_X1_cell_5 (v0 : Int) (v1 : Int) (v2 : Int) (h : gi_H) : Option (Int) :=
  some (((v0 * (169 : Int)) + (v1 * (13 : Int))) + v2)
set_option maxRecDepth 100000 in
theorem z_X1_cell_5 {al : Bool} {v0 : Int} {v1 : Int} {v2 : Int} {h : gi_H} {res : Int} (e : f_X1_cell_5 v0 v1 v2 h = some res) : gx_Cw mX1_cell al [.int (gI v0), .int (gI v1), .int (gI v2)] (gi_cv h) (.inl (some (.int (gI res)))) (gi_cv h) := by
  refine gx_enter (by decide +kernel) rfl (Nat.le_of_ble_eq_true rfl) ?_
  show gx_Z mX1_cell al al 0 0 0 [(0, .int (gI v0)), (1, .int (gI v1)), (2, .int (gI v2))] [] (gi_cv h) (.inl (some (.int (gI res)))) (gi_cv h)
  refine gx_iload_n dX1_cell_0 rfl 0 rfl ?_
  refine gy_sipush dX1_cell_1 gcs_169 ?_
  refine gy_imul dX1_cell_4 ?_
  refine gx_iload_n dX1_cell_5 rfl 1 rfl ?_
  refine gy_bipush dX1_cell_6 gcb_13 ?_
  refine gy_imul dX1_cell_8 ?_
  refine gy_iadd dX1_cell_9 ?_
  refine gx_iload_n dX1_cell_10 rfl 2 rfl ?_
  refine gy_iadd dX1_cell_11 ?_
  cases e
  exact gx_iret dX1_cell_12 rfl ⟨Nat.le_of_ble_eq_true rfl, Nat.le_of_ble_eq_true rfl⟩ (fun z => z)
/-! X1_setWhole 5 -/
set_option maxRecDepth 100000 in
def f_X1_setWhole_5 (v0 : Nat) (v1 : Int) (v2 : Int) (v3 : Int) (v4 : Int) (h : gi_H) : Option (gi_H) :=
  Option.bind (f_X1_cell_5 v1 v2 v3 h) fun q1 => Option.bind (gi_rg q1) fun _ => if q1 < 0 then (some h) else (Option.bind (gi_gR h v0 5 2) fun t4 => Option.bind (gi_ln h t4) fun t5 => Option.bind (gi_rg t5) fun _ => if t5 ≤ q1 then (some h) else (Option.bind (gi_gR h v0 5 2) fun t8 => Option.bind (gi_s1 h t8 q1 v4) fun h9 => some h9))
set_option maxRecDepth 100000 in
theorem z_X1_setWhole_5 {al : Bool} {v0 : Nat} {v1 : Int} {v2 : Int} {v3 : Int} {v4 : Int} {h : gi_H} {h1 : gi_H} (e : f_X1_setWhole_5 v0 v1 v2 v3 v4 h = some h1) : gx_Cw mX1_setWhole al [.ref v0, .int (gI v1), .int (gI v2), .int (gI v3), .int (gI v4)] (gi_cv h) (.inl none) (gi_cv h1) := by
  refine gx_enter (by decide +kernel) rfl (Nat.le_of_ble_eq_true rfl) ?_
  show gx_Z mX1_setWhole al al 0 0 0 [(0, .ref v0), (1, .int (gI v1)), (2, .int (gI v2)), (3, .int (gI v3)), (4, .int (gI v4))] [] (gi_cv h) (.inl none) (gi_cv h1)
  refine gx_iload_n dX1_setWhole_0 rfl 1 rfl ?_
  refine gx_iload_n dX1_setWhole_1 rfl 2 rfl ?_
  refine gx_iload_n dX1_setWhole_2 rfl 3 rfl ?_
  refine gx_bE e (fun q1 hq1 e => ?_)
  refine gx_callS (n := 3) (st := []) (As := [.int (gI v1), .int (gI v2), .int (gI v3)]) dX1_setWhole_3 (z_X1_cell_5 hq1) rfl ⟨rfl, gw_cw_X1_cell, gw_11, gp_X1_cell, ⟨Nat.le_of_ble_eq_true rfl, Nat.le_of_ble_eq_true rfl⟩⟩ gw_543 gw_544 ⟨Nat.le_of_ble_eq_true rfl, Nat.le_of_ble_eq_true rfl⟩ (Nat.le_of_ble_eq_true rfl) (gy_k1 (x := .int (gI q1)) (kc2 := 0) (ks2 := 0) ⟨rfl, rfl⟩ ?_) gy_kn
  refine gx_istore (ls2 := [(5, .int (gI q1)), (0, .ref v0), (1, .int (gI v1)), (2, .int (gI v2)), (3, .int (gI v3)), (4, .int (gI v4))]) dX1_setWhole_6 (Nat.le_of_ble_eq_true rfl) rfl ?_
  refine gx_iload dX1_setWhole_8 0 rfl ?_
  refine gx_bE e (fun _ g2 e => ?_)
  refine gx_iE e (fun c3 e => ?_) (fun c3 e => ?_)
  · refine gy_if_lt (tgt := 32) (gi_rgS g2) dX1_setWhole_10 (by decide) (fun _ => ?_) (fun z => absurd c3 z)
    cases e
    exact gx_vret dX1_setWhole_32 rfl ⟨Nat.le_of_ble_eq_true rfl, Nat.le_of_ble_eq_true rfl⟩ (fun z => z)
  · refine gy_if_lt (tgt := 32) (gi_rgS g2) dX1_setWhole_10 (by decide) (fun z => absurd z c3) (fun _ => ?_)
    refine gx_iload dX1_setWhole_13 0 rfl ?_
    refine gx_aload_n dX1_setWhole_15 rfl 1 rfl ?_
    refine gx_bE e (fun t4 ht4 e => ?_)
    refine gy_fR ht4 dX1_setWhole_16 gf_RX1_22_5_2 (by decide) gkN_5_2 gkR_5_2 ?_
    refine gx_bE e (fun t5 ht5 e => ?_)
    refine gy_al0 ht5 dX1_setWhole_19 ?_
    refine gx_bE e (fun _ g6 e => ?_)
    refine gx_iE e (fun c7 e => ?_) (fun c7 e => ?_)
    · refine gy_icmp_ge (tgt := 32) (gi_rgS g2) (gi_rgS g6) dX1_setWhole_20 (by decide) (fun _ => ?_) (fun z => absurd c7 z)
      cases e
      exact gx_vret dX1_setWhole_32 rfl ⟨Nat.le_of_ble_eq_true rfl, Nat.le_of_ble_eq_true rfl⟩ (fun z => z)
    · refine gy_icmp_ge (tgt := 32) (gi_rgS g2) (gi_rgS g6) dX1_setWhole_20 (by decide) (fun z => absurd z c7) (fun _ => ?_)
      refine gx_aload_n dX1_setWhole_23 rfl 1 rfl ?_
      refine gx_bE e (fun t8 ht8 e => ?_)
      refine gy_fR ht8 dX1_setWhole_24 gf_RX1_22_5_2 (by decide) gkN_5_2 gkR_5_2 ?_
      refine gx_iload dX1_setWhole_27 0 rfl ?_
      refine gx_iload dX1_setWhole_29 5 rfl ?_
      refine gx_bE e (fun h9 hh9 e => ?_)
      refine gy_t1 hh9 dX1_setWhole_31 ?_
      cases e
      exact gx_vret dX1_setWhole_32 rfl ⟨Nat.le_of_ble_eq_true rfl, Nat.le_of_ble_eq_true rfl⟩ (fun z => z)
/-! X6_blank  -/
set_option maxRecDepth 100000 in
def f_X6_blank (v0 : Nat) (v1 : Int) (v2 : Int) (h : gi_H) : Option (Int) :=
  some (v2 - v1)
set_option maxRecDepth 100000 in
theorem z_X6_blank {al : Bool} {v0 : Nat} {v1 : Int} {v2 : Int} {h : gi_H} {res : Int} (e : f_X6_blank v0 v1 v2 h = some res) : gx_Cw mX6_blank al [.ref v0, .int (gI v1), .int (gI v2)] (gi_cv h) (.inl (some (.int (gI res)))) (gi_cv h) := by
  refine gx_enter (by decide +kernel) rfl (Nat.le_of_ble_eq_true rfl) ?_
  show gx_Z mX6_blank al al 0 0 0 [(0, .ref v0), (1, .int (gI v1)), (2, .int (gI v2))] [] (gi_cv h) (.inl (some (.int (gI res)))) (gi_cv h)
  refine gx_iload_n dX6_blank_0 rfl 2 rfl ?_
  refine gx_iload_n dX6_blank_1 rfl 1 rfl ?_
  refine gy_isub dX6_blank_2 ?_
  cases e
  exact gx_iret dX6_blank_3 rfl ⟨Nat.le_of_ble_eq_true rfl, Nat.le_of_ble_eq_true rfl⟩ (fun z => z)
/-! X1_setPart 5 -/
set_option maxRecDepth 100000 in
def f_X1_setPart_5 (v0 : Nat) (v1 : Int) (v2 : Int) (v3 : Int) (v4 : Int) (h : gi_H) : Option (gi_H) :=
  Option.bind (f_X1_cell_5 v1 v2 v3 h) fun q1 => Option.bind (gi_rg q1) fun _ => if q1 < 0 then (some h) else (Option.bind (gi_gR h v0 5 3) fun t4 => Option.bind (gi_ln h t4) fun t5 => Option.bind (gi_rg t5) fun _ => if t5 ≤ q1 then (some h) else (Option.bind (gi_gR h v0 5 3) fun t8 => Option.bind (gi_s1 h t8 q1 v4) fun h9 => some h9))
set_option maxRecDepth 100000 in
theorem z_X1_setPart_5 {al : Bool} {v0 : Nat} {v1 : Int} {v2 : Int} {v3 : Int} {v4 : Int} {h : gi_H} {h1 : gi_H} (e : f_X1_setPart_5 v0 v1 v2 v3 v4 h = some h1) : gx_Cw mX1_setPart al [.ref v0, .int (gI v1), .int (gI v2), .int (gI v3), .int (gI v4)] (gi_cv h) (.inl none) (gi_cv h1) := by
  refine gx_enter (by decide +kernel) rfl (Nat.le_of_ble_eq_true rfl) ?_
  show gx_Z mX1_setPart al al 0 0 0 [(0, .ref v0), (1, .int (gI v1)), (2, .int (gI v2)), (3, .int (gI v3)), (4, .int (gI v4))] [] (gi_cv h) (.inl none) (gi_cv h1)
  refine gx_iload_n dX1_setPart_0 rfl 1 rfl ?_
  refine gx_iload_n dX1_setPart_1 rfl 2 rfl ?_
  refine gx_iload_n dX1_setPart_2 rfl 3 rfl ?_
  refine gx_bE e (fun q1 hq1 e => ?_)
  refine gx_callS (n := 3) (st := []) (As := [.int (gI v1), .int (gI v2), .int (gI v3)]) dX1_setPart_3 (z_X1_cell_5 hq1) rfl ⟨rfl, gw_cw_X1_cell, gw_11, gp_X1_cell, ⟨Nat.le_of_ble_eq_true rfl, Nat.le_of_ble_eq_true rfl⟩⟩ gw_543 gw_544 ⟨Nat.le_of_ble_eq_true rfl, Nat.le_of_ble_eq_true rfl⟩ (Nat.le_of_ble_eq_true rfl) (gy_k1 (x := .int (gI q1)) (kc2 := 0) (ks2 := 0) ⟨rfl, rfl⟩ ?_) gy_kn
  refine gx_istore (ls2 := [(5, .int (gI q1)), (0, .ref v0), (1, .int (gI v1)), (2, .int (gI v2)), (3, .int (gI v3)), (4, .int (gI v4))]) dX1_setPart_6 (Nat.le_of_ble_eq_true rfl) rfl ?_
  refine gx_iload dX1_setPart_8 0 rfl ?_
  refine gx_bE e (fun _ g2 e => ?_)
  refine gx_iE e (fun c3 e => ?_) (fun c3 e => ?_)
  · refine gy_if_lt (tgt := 32) (gi_rgS g2) dX1_setPart_10 (by decide) (fun _ => ?_) (fun z => absurd c3 z)
    cases e
    exact gx_vret dX1_setPart_32 rfl ⟨Nat.le_of_ble_eq_true rfl, Nat.le_of_ble_eq_true rfl⟩ (fun z => z)
  · refine gy_if_lt (tgt := 32) (gi_rgS g2) dX1_setPart_10 (by decide) (fun z => absurd z c3) (fun _ => ?_)
    refine gx_iload dX1_setPart_13 0 rfl ?_
    refine gx_aload_n dX1_setPart_15 rfl 1 rfl ?_
    refine gx_bE e (fun t4 ht4 e => ?_)
    refine gy_fR ht4 dX1_setPart_16 gf_RX1_25_5_3 (by decide) gkN_5_3 gkR_5_3 ?_
    refine gx_bE e (fun t5 ht5 e => ?_)
    refine gy_al0 ht5 dX1_setPart_19 ?_
    refine gx_bE e (fun _ g6 e => ?_)
    refine gx_iE e (fun c7 e => ?_) (fun c7 e => ?_)
    · refine gy_icmp_ge (tgt := 32) (gi_rgS g2) (gi_rgS g6) dX1_setPart_20 (by decide) (fun _ => ?_) (fun z => absurd c7 z)
      cases e
      exact gx_vret dX1_setPart_32 rfl ⟨Nat.le_of_ble_eq_true rfl, Nat.le_of_ble_eq_true rfl⟩ (fun z => z)
    · refine gy_icmp_ge (tgt := 32) (gi_rgS g2) (gi_rgS g6) dX1_setPart_20 (by decide) (fun z => absurd z c7) (fun _ => ?_)
      refine gx_aload_n dX1_setPart_23 rfl 1 rfl ?_
      refine gx_bE e (fun t8 ht8 e => ?_)
      refine gy_fR ht8 dX1_setPart_24 gf_RX1_25_5_3 (by decide) gkN_5_3 gkR_5_3 ?_
      refine gx_iload dX1_setPart_27 0 rfl ?_
      refine gx_iload dX1_setPart_29 5 rfl ?_
      refine gx_bE e (fun h9 hh9 e => ?_)
      refine gy_t1 hh9 dX1_setPart_31 ?_
      cases e
      exact gx_vret dX1_setPart_32 rfl ⟨Nat.le_of_ble_eq_true rfl, Nat.le_of_ble_eq_true rfl⟩ (fun z => z)
/-! X1_part 5 -/
set_option maxRecDepth 100000 in
def b_X1_part_5_33  (v0 : Nat)  (h : gi_H) : Option (Int) :=
  Option.bind (gi_is h v0 5) fun _ => Option.bind (f_X6_none v0 h) fun q5 => some q5
set_option maxRecDepth 100000 in
theorem zb_X1_part_5_33 {al : Bool}  {res : Int}  {v0 : Nat}  {h : gi_H} (e : b_X1_part_5_33 v0 h = some res) : gx_Z mX1_part al al 0 0 33 [(0, .ref v0)] [] (gi_cv h) (.inl (some (.int (gI res)))) (gi_cv h) := by
  refine gx_aload_n dX1_part_33 rfl 0 rfl ?_
  refine gx_bE e (fun _ hu4 e => ?_)
  refine gx_bE e (fun q5 hq5 e => ?_)
  refine gx_callA (n := 0) (st := []) (As := []) (b := v0) dX1_part_34 (z_X6_none hq5) rfl ⟨rfl, gw_cw_X6_none, gw_13, gp_X6_none, ⟨Nat.le_of_ble_eq_true rfl, Nat.le_of_ble_eq_true rfl⟩⟩ (gi_isS hu4) (by decide) (x := ⟨"Grammarsmith$Chart", "none", "()I"⟩) (owner := "Grammarsmith$Chart") gw_530 gw_532 gw_536 gw_537 (by decide +kernel) (by decide +kernel) ⟨Nat.le_of_ble_eq_true rfl, Nat.le_of_ble_eq_true rfl⟩ (Nat.le_of_ble_eq_true rfl) (gy_k1 (x := .int (gI q5)) (kc2 := 0) (ks2 := 0) ⟨rfl, rfl⟩ ?_) gy_kn
  cases e
  exact gx_iret dX1_part_37 rfl ⟨Nat.le_of_ble_eq_true rfl, Nat.le_of_ble_eq_true rfl⟩ (fun z => z)
set_option maxRecDepth 100000 in
def f_X1_part_5 (v0 : Nat) (v1 : Int) (v2 : Int) (v3 : Int) (h : gi_H) : Option (Int) :=
  Option.bind (f_X1_cell_5 v1 v2 v3 h) fun q1 => Option.bind (gi_rg q1) fun _ => if q1 < 0 then (b_X1_part_5_33  v0 h) else (Option.bind (gi_gR h v0 5 3) fun t6 => Option.bind (gi_ln h t6) fun t7 => Option.bind (gi_rg t7) fun _ => if t7 ≤ q1 then (b_X1_part_5_33  v0 h) else (Option.bind (gi_gR h v0 5 3) fun t10 => Option.bind (gi_aI h 1 t10 q1) fun t11 => some t11))
set_option maxRecDepth 100000 in
theorem z_X1_part_5 {al : Bool} {v0 : Nat} {v1 : Int} {v2 : Int} {v3 : Int} {h : gi_H} {res : Int} (e : f_X1_part_5 v0 v1 v2 v3 h = some res) : gx_Cw mX1_part al [.ref v0, .int (gI v1), .int (gI v2), .int (gI v3)] (gi_cv h) (.inl (some (.int (gI res)))) (gi_cv h) := by
  refine gx_enter (by decide +kernel) rfl (Nat.le_of_ble_eq_true rfl) ?_
  show gx_Z mX1_part al al 0 0 0 [(0, .ref v0), (1, .int (gI v1)), (2, .int (gI v2)), (3, .int (gI v3))] [] (gi_cv h) (.inl (some (.int (gI res)))) (gi_cv h)
  refine gx_iload_n dX1_part_0 rfl 1 rfl ?_
  refine gx_iload_n dX1_part_1 rfl 2 rfl ?_
  refine gx_iload_n dX1_part_2 rfl 3 rfl ?_
  refine gx_bE e (fun q1 hq1 e => ?_)
  refine gx_callS (n := 3) (st := []) (As := [.int (gI v1), .int (gI v2), .int (gI v3)]) dX1_part_3 (z_X1_cell_5 hq1) rfl ⟨rfl, gw_cw_X1_cell, gw_11, gp_X1_cell, ⟨Nat.le_of_ble_eq_true rfl, Nat.le_of_ble_eq_true rfl⟩⟩ gw_543 gw_544 ⟨Nat.le_of_ble_eq_true rfl, Nat.le_of_ble_eq_true rfl⟩ (Nat.le_of_ble_eq_true rfl) (gy_k1 (x := .int (gI q1)) (kc2 := 0) (ks2 := 0) ⟨rfl, rfl⟩ ?_) gy_kn
  refine gx_istore (ls2 := [(4, .int (gI q1)), (0, .ref v0), (1, .int (gI v1)), (2, .int (gI v2)), (3, .int (gI v3))]) dX1_part_6 (Nat.le_of_ble_eq_true rfl) rfl ?_
  refine gx_iload dX1_part_8 0 rfl ?_
  refine gx_bE e (fun _ g2 e => ?_)
  refine gx_iE e (fun c3 e => ?_) (fun c3 e => ?_)
  · refine gy_if_lt (tgt := 33) (gi_rgS g2) dX1_part_10 (by decide) (fun _ => ?_) (fun z => absurd c3 z)
    refine gx_sub (ls2 := [(0, .ref v0)]) [1] rfl ?_
    exact zb_X1_part_5_33  e
  · refine gy_if_lt (tgt := 33) (gi_rgS g2) dX1_part_10 (by decide) (fun z => absurd z c3) (fun _ => ?_)
    refine gx_iload dX1_part_13 0 rfl ?_
    refine gx_aload_n dX1_part_15 rfl 1 rfl ?_
    refine gx_bE e (fun t6 ht6 e => ?_)
    refine gy_fR ht6 dX1_part_16 gf_RX1_25_5_3 (by decide) gkN_5_3 gkR_5_3 ?_
    refine gx_bE e (fun t7 ht7 e => ?_)
    refine gy_al0 ht7 dX1_part_19 ?_
    refine gx_bE e (fun _ g8 e => ?_)
    refine gx_iE e (fun c9 e => ?_) (fun c9 e => ?_)
    · refine gy_icmp_ge (tgt := 33) (gi_rgS g2) (gi_rgS g8) dX1_part_20 (by decide) (fun _ => ?_) (fun z => absurd c9 z)
      refine gx_sub (ls2 := [(0, .ref v0)]) [1] rfl ?_
      exact zb_X1_part_5_33  e
    · refine gy_icmp_ge (tgt := 33) (gi_rgS g2) (gi_rgS g8) dX1_part_20 (by decide) (fun z => absurd z c9) (fun _ => ?_)
      refine gx_aload_n dX1_part_23 rfl 1 rfl ?_
      refine gx_bE e (fun t10 ht10 e => ?_)
      refine gy_fR ht10 dX1_part_24 gf_RX1_25_5_3 (by decide) gkN_5_3 gkR_5_3 ?_
      refine gx_iload dX1_part_27 0 rfl ?_
      refine gx_bE e (fun t11 ht11 e => ?_)
      refine gy_l1 ht11 dX1_part_29 ?_
      refine gx_goto (tgt := 37) dX1_part_30 (by decide) ?_
      cases e
      exact gx_iret dX1_part_37 rfl ⟨Nat.le_of_ble_eq_true rfl, Nat.le_of_ble_eq_true rfl⟩ (fun z => z)
/-! X1_look 5 -/
set_option maxRecDepth 100000 in
def b_X1_look_5_22    (h : gi_H) : Option (Int) :=
  some (8 : Int)
set_option maxRecDepth 100000 in
theorem zb_X1_look_5_22 {al : Bool}  {res : Int}    {h : gi_H} (e : b_X1_look_5_22  h = some res) : gx_Z mX1_look al al 0 0 22 [] [] (gi_cv h) (.inl (some (.int (gI res)))) (gi_cv h) := by
  refine gy_bipush dX1_look_22 gcb_8 ?_
  cases e
  exact gx_iret dX1_look_24 rfl ⟨Nat.le_of_ble_eq_true rfl, Nat.le_of_ble_eq_true rfl⟩ (fun z => z)
set_option maxRecDepth 100000 in
def f_X1_look_5 (v0 : Nat) (v1 : Int) (h : gi_H) : Option (Int) :=
  Option.bind (gi_rg v1) fun _ => if v1 < 0 then (b_X1_look_5_22   h) else (Option.bind (gi_gR h v0 5 1) fun t3 => Option.bind (gi_ln h t3) fun t4 => Option.bind (gi_rg t4) fun _ => if t4 ≤ v1 then (b_X1_look_5_22   h) else (Option.bind (gi_gR h v0 5 1) fun t7 => Option.bind (gi_aI h 1 t7 v1) fun t8 => some t8))
set_option maxRecDepth 100000 in
theorem z_X1_look_5 {al : Bool} {v0 : Nat} {v1 : Int} {h : gi_H} {res : Int} (e : f_X1_look_5 v0 v1 h = some res) : gx_Cw mX1_look al [.ref v0, .int (gI v1)] (gi_cv h) (.inl (some (.int (gI res)))) (gi_cv h) := by
  refine gx_enter (by decide +kernel) rfl (Nat.le_of_ble_eq_true rfl) ?_
  show gx_Z mX1_look al al 0 0 0 [(0, .ref v0), (1, .int (gI v1))] [] (gi_cv h) (.inl (some (.int (gI res)))) (gi_cv h)
  refine gx_iload_n dX1_look_0 rfl 1 rfl ?_
  refine gx_bE e (fun _ g1 e => ?_)
  refine gx_iE e (fun c2 e => ?_) (fun c2 e => ?_)
  · refine gy_if_lt (tgt := 22) (gi_rgS g1) dX1_look_1 (by decide) (fun _ => ?_) (fun z => absurd c2 z)
    refine gx_sub (ls2 := []) [] rfl ?_
    exact zb_X1_look_5_22  e
  · refine gy_if_lt (tgt := 22) (gi_rgS g1) dX1_look_1 (by decide) (fun z => absurd z c2) (fun _ => ?_)
    refine gx_iload_n dX1_look_4 rfl 1 rfl ?_
    refine gx_aload_n dX1_look_5 rfl 0 rfl ?_
    refine gx_bE e (fun t3 ht3 e => ?_)
    refine gy_fR ht3 dX1_look_6 gf_RX1_19_5_1 (by decide) gkN_5_1 gkR_5_1 ?_
    refine gx_bE e (fun t4 ht4 e => ?_)
    refine gy_al0 ht4 dX1_look_9 ?_
    refine gx_bE e (fun _ g5 e => ?_)
    refine gx_iE e (fun c6 e => ?_) (fun c6 e => ?_)
    · refine gy_icmp_ge (tgt := 22) (gi_rgS g1) (gi_rgS g5) dX1_look_10 (by decide) (fun _ => ?_) (fun z => absurd c6 z)
      refine gx_sub (ls2 := []) [] rfl ?_
      exact zb_X1_look_5_22  e
    · refine gy_icmp_ge (tgt := 22) (gi_rgS g1) (gi_rgS g5) dX1_look_10 (by decide) (fun z => absurd z c6) (fun _ => ?_)
      refine gx_aload_n dX1_look_13 rfl 0 rfl ?_
      refine gx_bE e (fun t7 ht7 e => ?_)
      refine gy_fR ht7 dX1_look_14 gf_RX1_19_5_1 (by decide) gkN_5_1 gkR_5_1 ?_
      refine gx_iload_n dX1_look_17 rfl 1 rfl ?_
      refine gx_bE e (fun t8 ht8 e => ?_)
      refine gy_l1 ht8 dX1_look_18 ?_
      refine gx_goto (tgt := 24) dX1_look_19 (by decide) ?_
      cases e
      exact gx_iret dX1_look_24 rfl ⟨Nat.le_of_ble_eq_true rfl, Nat.le_of_ble_eq_true rfl⟩ (fun z => z)
/-! X6_ofTerminal  -/
set_option maxRecDepth 100000 in
def b_X6_ofTerminal_38 (n : Nat)  (v2 : Int) (v3 : Int)  (h : gi_H) : Option (Int) :=
  some (v3 - v2)
set_option maxRecDepth 100000 in
theorem zb_X6_ofTerminal_38 {al : Bool} {n : Nat}  {res : Int}  {v2 : Int} {v3 : Int}  {h : gi_H} (e : b_X6_ofTerminal_38 n v2 v3 h = some res) : gx_Z mX6_ofTerminal al al 0 0 38 [(2, .int (gI v2)), (3, .int (gI v3))] [] (gi_cv h) (.inl (some (.int (gI res)))) (gi_cv h) := by
  refine gx_iload_n dX6_ofTerminal_38 rfl 1 rfl ?_
  refine gx_iload_n dX6_ofTerminal_39 rfl 0 rfl ?_
  refine gy_isub dX6_ofTerminal_40 ?_
  cases e
  exact gx_iret dX6_ofTerminal_41 rfl ⟨Nat.le_of_ble_eq_true rfl, Nat.le_of_ble_eq_true rfl⟩ (fun z => z)
set_option maxRecDepth 100000 in
def b_X6_ofTerminal_26 (n : Nat)  (v2 : Int) (v3 : Int)  (h : gi_H) : Option (Int) :=
  some ((v3 - v2) - (1 : Int))
set_option maxRecDepth 100000 in
theorem zb_X6_ofTerminal_26 {al : Bool} {n : Nat}  {res : Int}  {v2 : Int} {v3 : Int}  {h : gi_H} (e : b_X6_ofTerminal_26 n v2 v3 h = some res) : gx_Z mX6_ofTerminal al al 0 0 26 [(2, .int (gI v2)), (3, .int (gI v3))] [] (gi_cv h) (.inl (some (.int (gI res)))) (gi_cv h) := by
  refine gx_iload_n dX6_ofTerminal_26 rfl 1 rfl ?_
  refine gx_iload_n dX6_ofTerminal_27 rfl 0 rfl ?_
  refine gy_isub dX6_ofTerminal_28 ?_
  refine gy_iconst dX6_ofTerminal_29 ?_
  refine gy_isub dX6_ofTerminal_30 ?_
  cases e
  exact gx_iret dX6_ofTerminal_31 rfl ⟨Nat.le_of_ble_eq_true rfl, Nat.le_of_ble_eq_true rfl⟩ (fun z => z)
set_option maxRecDepth 100000 in
def b_X6_ofTerminal_10 (n : Nat) (r10 : Nat → Int → Int → Int → Int → gi_H → Option (Int)) (v0 : Nat) (v1 : Int) (v2 : Int) (v3 : Int) (v4 : Int)  (h : gi_H) : Option (Int) :=
  Option.bind (gi_rg v4) fun _ => Option.bind (gi_rg v3) fun _ => if v3 ≤ v4 then (b_X6_ofTerminal_38 n  v2 v3 h) else (Option.bind (gi_is h v0 5) fun _ => Option.bind (f_X1_look_5 v0 v4 h) fun q8 => Option.bind (gi_rg q8) fun _ => Option.bind (gi_rg v1) fun _ => if q8 = v1 then (b_X6_ofTerminal_26 n  v2 v3 h) else (gx_nm (v4 + (1 : Int)) fun t12 => r10 v0 v1 v2 v3 t12 h))
set_option maxRecDepth 100000 in
theorem zb_X6_ofTerminal_10 {al : Bool} {n : Nat} {r10 : Nat → Int → Int → Int → Int → gi_H → Option (Int)} {res : Int} (hr10 : ∀ (x0 : Nat) (x1 : Int) (x2 : Int) (x3 : Int) (x4 : Int) (hh : gi_H), r10 x0 x1 x2 x3 x4 hh = some res → gx_Z mX6_ofTerminal al al 0 0 10 [(0, .ref x0), (1, .int (gI x1)), (2, .int (gI x2)), (3, .int (gI x3)), (4, .int (gI x4))] [] (gi_cv hh) (.inl (some (.int (gI res)))) (gi_cv hh)) {v0 : Nat} {v1 : Int} {v2 : Int} {v3 : Int} {v4 : Int}  {h : gi_H} (e : b_X6_ofTerminal_10 n r10 v0 v1 v2 v3 v4 h = some res) : gx_Z mX6_ofTerminal al al 0 0 10 [(0, .ref v0), (1, .int (gI v1)), (2, .int (gI v2)), (3, .int (gI v3)), (4, .int (gI v4))] [] (gi_cv h) (.inl (some (.int (gI res)))) (gi_cv h) := by
  refine gx_iload dX6_ofTerminal_10 4 rfl ?_
  refine gx_iload_n dX6_ofTerminal_12 rfl 3 rfl ?_
  refine gx_bE e (fun _ g4 e => ?_)
  refine gx_bE e (fun _ g5 e => ?_)
  refine gx_iE e (fun c6 e => ?_) (fun c6 e => ?_)
  · refine gy_icmp_ge (tgt := 38) (gi_rgS g4) (gi_rgS g5) dX6_ofTerminal_13 (by decide) (fun _ => ?_) (fun z => absurd c6 z)
    refine gx_sub (ls2 := [(2, .int (gI v2)), (3, .int (gI v3))]) [2, 3] rfl ?_
    exact zb_X6_ofTerminal_38  e
  · refine gy_icmp_ge (tgt := 38) (gi_rgS g4) (gi_rgS g5) dX6_ofTerminal_13 (by decide) (fun z => absurd z c6) (fun _ => ?_)
    refine gx_aload_n dX6_ofTerminal_16 rfl 0 rfl ?_
    refine gx_iload dX6_ofTerminal_17 4 rfl ?_
    refine gx_bE e (fun _ hu7 e => ?_)
    refine gx_bE e (fun q8 hq8 e => ?_)
    refine gx_callU (n := 1) (st := []) (As := [.int (gI v4)]) (b := v0) dX6_ofTerminal_19 (z_X1_look_5 hq8) rfl ⟨rfl, gw_cw_X1_look, gw_11, gp_X1_look, ⟨Nat.le_of_ble_eq_true rfl, Nat.le_of_ble_eq_true rfl⟩⟩ (gi_isS hu7) (by decide) (x := ⟨"Grammarsmith$RepairingChart", "look", "(I)I"⟩) (owner := "Grammarsmith$Chart") gw_599 gw_600 gw_601 gw_594 rfl (by decide +kernel) ⟨Nat.le_of_ble_eq_true rfl, Nat.le_of_ble_eq_true rfl⟩ (Nat.le_of_ble_eq_true rfl) (gy_k1 (x := .int (gI q8)) (kc2 := 0) (ks2 := 0) ⟨rfl, rfl⟩ ?_) gy_kn
    refine gx_iload_n dX6_ofTerminal_22 rfl 1 rfl ?_
    refine gx_bE e (fun _ g9 e => ?_)
    refine gx_bE e (fun _ g10 e => ?_)
    refine gx_iE e (fun c11 e => ?_) (fun c11 e => ?_)
    · refine gy_icmp_ne (tgt := 32) (gi_rgS g9) (gi_rgS g10) dX6_ofTerminal_23 (by decide) (fun z => absurd c11 z) (fun _ => ?_)
      refine gx_sub (ls2 := [(2, .int (gI v2)), (3, .int (gI v3))]) [2, 3] rfl ?_
      exact zb_X6_ofTerminal_26  e
    · refine gy_icmp_ne (tgt := 32) (gi_rgS g9) (gi_rgS g10) dX6_ofTerminal_23 (by decide) (fun _ => ?_) (fun z => absurd z c11)
      refine gx_nE e (fun t12 ht12 e => ?_)
      refine gy_iinc (v := t12) (ls2 := [(4, .int (gI t12)), (0, .ref v0), (1, .int (gI v1)), (2, .int (gI v2)), (3, .int (gI v3))]) dX6_ofTerminal_32 4 rfl ht12 (Nat.le_of_ble_eq_true rfl) rfl ?_
      refine gx_goto (tgt := 10) dX6_ofTerminal_35 (by decide) ?_
      refine gx_sub (ls2 := [(0, .ref v0), (1, .int (gI v1)), (2, .int (gI v2)), (3, .int (gI v3)), (4, .int (gI t12))]) [1, 2, 3, 4, 0] rfl ?_
      exact hr10 _ _ _ _ _ _ e
def l_X6_ofTerminal_10 (n : Nat)  : Nat → Nat → Int → Int → Int → Int → gi_H → Option (Int)
  | 0, _, _, _, _, _, _ => none
  | k + 1, v0, v1, v2, v3, v4, h => b_X6_ofTerminal_10 n  (l_X6_ofTerminal_10 n  k) v0 v1 v2 v3 v4 h
theorem zl_X6_ofTerminal_10 {al : Bool} {n : Nat}  {res : Int}  : ∀ (k : Nat) (v0 : Nat) (v1 : Int) (v2 : Int) (v3 : Int) (v4 : Int) (h : gi_H), l_X6_ofTerminal_10 n  k v0 v1 v2 v3 v4 h = some res → gx_Z mX6_ofTerminal al al 0 0 10 [(0, .ref v0), (1, .int (gI v1)), (2, .int (gI v2)), (3, .int (gI v3)), (4, .int (gI v4))] [] (gi_cv h) (.inl (some (.int (gI res)))) (gi_cv h)
  | 0, _, _, _, _, _, _, e => gx_0E e
  | k + 1, _, _, _, _, _, _, e => zb_X6_ofTerminal_10 (n := n)  (zl_X6_ofTerminal_10  k) e
set_option maxRecDepth 100000 in
def f_X6_ofTerminal (n : Nat) (v0 : Nat) (v1 : Int) (v2 : Int) (v3 : Int) (h : gi_H) : Option (Int) :=
  Option.bind (gi_rg v2) fun _ => Option.bind (gi_rg v3) fun _ => if v2 = v3 then (some (1 : Int)) else (l_X6_ofTerminal_10 n  n v0 v1 v2 v3 v2 h)
set_option maxRecDepth 100000 in
theorem z_X6_ofTerminal {al : Bool} {n : Nat} {v0 : Nat} {v1 : Int} {v2 : Int} {v3 : Int} {h : gi_H} {res : Int} (e : f_X6_ofTerminal n v0 v1 v2 v3 h = some res) : gx_Cw mX6_ofTerminal al [.ref v0, .int (gI v1), .int (gI v2), .int (gI v3)] (gi_cv h) (.inl (some (.int (gI res)))) (gi_cv h) := by
  refine gx_enter (by decide +kernel) rfl (Nat.le_of_ble_eq_true rfl) ?_
  show gx_Z mX6_ofTerminal al al 0 0 0 [(0, .ref v0), (1, .int (gI v1)), (2, .int (gI v2)), (3, .int (gI v3))] [] (gi_cv h) (.inl (some (.int (gI res)))) (gi_cv h)
  refine gx_iload_n dX6_ofTerminal_0 rfl 2 rfl ?_
  refine gx_iload_n dX6_ofTerminal_1 rfl 3 rfl ?_
  refine gx_bE e (fun _ g1 e => ?_)
  refine gx_bE e (fun _ g2 e => ?_)
  refine gx_iE e (fun c3 e => ?_) (fun c3 e => ?_)
  · refine gy_icmp_ne (tgt := 7) (gi_rgS g1) (gi_rgS g2) dX6_ofTerminal_2 (by decide) (fun z => absurd c3 z) (fun _ => ?_)
    refine gy_iconst dX6_ofTerminal_5 ?_
    cases e
    exact gx_iret dX6_ofTerminal_6 rfl ⟨Nat.le_of_ble_eq_true rfl, Nat.le_of_ble_eq_true rfl⟩ (fun z => z)
  · refine gy_icmp_ne (tgt := 7) (gi_rgS g1) (gi_rgS g2) dX6_ofTerminal_2 (by decide) (fun _ => ?_) (fun z => absurd z c3)
    refine gx_iload_n dX6_ofTerminal_7 rfl 2 rfl ?_
    refine gx_istore (ls2 := [(4, .int (gI v2)), (0, .ref v0), (1, .int (gI v1)), (2, .int (gI v2)), (3, .int (gI v3))]) dX6_ofTerminal_8 (Nat.le_of_ble_eq_true rfl) rfl ?_
    refine gx_sub (ls2 := [(0, .ref v0), (1, .int (gI v1)), (2, .int (gI v2)), (3, .int (gI v3)), (4, .int (gI v2))]) [1, 2, 3, 4, 0] rfl ?_
    exact zl_X6_ofTerminal_10  n _ _ _ _ _ _ e
/-! X1_whole 5 -/
set_option maxRecDepth 100000 in
def b_X1_whole_5_33  (v0 : Nat)  (h : gi_H) : Option (Int) :=
  Option.bind (gi_is h v0 5) fun _ => Option.bind (f_X6_none v0 h) fun q5 => some q5
set_option maxRecDepth 100000 in
theorem zb_X1_whole_5_33 {al : Bool}  {res : Int}  {v0 : Nat}  {h : gi_H} (e : b_X1_whole_5_33 v0 h = some res) : gx_Z mX1_whole al al 0 0 33 [(0, .ref v0)] [] (gi_cv h) (.inl (some (.int (gI res)))) (gi_cv h) := by
  refine gx_aload_n dX1_whole_33 rfl 0 rfl ?_
  refine gx_bE e (fun _ hu4 e => ?_)
  refine gx_bE e (fun q5 hq5 e => ?_)
  refine gx_callA (n := 0) (st := []) (As := []) (b := v0) dX1_whole_34 (z_X6_none hq5) rfl ⟨rfl, gw_cw_X6_none, gw_13, gp_X6_none, ⟨Nat.le_of_ble_eq_true rfl, Nat.le_of_ble_eq_true rfl⟩⟩ (gi_isS hu4) (by decide) (x := ⟨"Grammarsmith$Chart", "none", "()I"⟩) (owner := "Grammarsmith$Chart") gw_530 gw_532 gw_536 gw_537 (by decide +kernel) (by decide +kernel) ⟨Nat.le_of_ble_eq_true rfl, Nat.le_of_ble_eq_true rfl⟩ (Nat.le_of_ble_eq_true rfl) (gy_k1 (x := .int (gI q5)) (kc2 := 0) (ks2 := 0) ⟨rfl, rfl⟩ ?_) gy_kn
  cases e
  exact gx_iret dX1_whole_37 rfl ⟨Nat.le_of_ble_eq_true rfl, Nat.le_of_ble_eq_true rfl⟩ (fun z => z)
set_option maxRecDepth 100000 in
def f_X1_whole_5 (v0 : Nat) (v1 : Int) (v2 : Int) (v3 : Int) (h : gi_H) : Option (Int) :=
  Option.bind (f_X1_cell_5 v1 v2 v3 h) fun q1 => Option.bind (gi_rg q1) fun _ => if q1 < 0 then (b_X1_whole_5_33  v0 h) else (Option.bind (gi_gR h v0 5 2) fun t6 => Option.bind (gi_ln h t6) fun t7 => Option.bind (gi_rg t7) fun _ => if t7 ≤ q1 then (b_X1_whole_5_33  v0 h) else (Option.bind (gi_gR h v0 5 2) fun t10 => Option.bind (gi_aI h 1 t10 q1) fun t11 => some t11))
set_option maxRecDepth 100000 in
theorem z_X1_whole_5 {al : Bool} {v0 : Nat} {v1 : Int} {v2 : Int} {v3 : Int} {h : gi_H} {res : Int} (e : f_X1_whole_5 v0 v1 v2 v3 h = some res) : gx_Cw mX1_whole al [.ref v0, .int (gI v1), .int (gI v2), .int (gI v3)] (gi_cv h) (.inl (some (.int (gI res)))) (gi_cv h) := by
  refine gx_enter (by decide +kernel) rfl (Nat.le_of_ble_eq_true rfl) ?_
  show gx_Z mX1_whole al al 0 0 0 [(0, .ref v0), (1, .int (gI v1)), (2, .int (gI v2)), (3, .int (gI v3))] [] (gi_cv h) (.inl (some (.int (gI res)))) (gi_cv h)
  refine gx_iload_n dX1_whole_0 rfl 1 rfl ?_
  refine gx_iload_n dX1_whole_1 rfl 2 rfl ?_
  refine gx_iload_n dX1_whole_2 rfl 3 rfl ?_
  refine gx_bE e (fun q1 hq1 e => ?_)
  refine gx_callS (n := 3) (st := []) (As := [.int (gI v1), .int (gI v2), .int (gI v3)]) dX1_whole_3 (z_X1_cell_5 hq1) rfl ⟨rfl, gw_cw_X1_cell, gw_11, gp_X1_cell, ⟨Nat.le_of_ble_eq_true rfl, Nat.le_of_ble_eq_true rfl⟩⟩ gw_543 gw_544 ⟨Nat.le_of_ble_eq_true rfl, Nat.le_of_ble_eq_true rfl⟩ (Nat.le_of_ble_eq_true rfl) (gy_k1 (x := .int (gI q1)) (kc2 := 0) (ks2 := 0) ⟨rfl, rfl⟩ ?_) gy_kn
  refine gx_istore (ls2 := [(4, .int (gI q1)), (0, .ref v0), (1, .int (gI v1)), (2, .int (gI v2)), (3, .int (gI v3))]) dX1_whole_6 (Nat.le_of_ble_eq_true rfl) rfl ?_
  refine gx_iload dX1_whole_8 0 rfl ?_
  refine gx_bE e (fun _ g2 e => ?_)
  refine gx_iE e (fun c3 e => ?_) (fun c3 e => ?_)
  · refine gy_if_lt (tgt := 33) (gi_rgS g2) dX1_whole_10 (by decide) (fun _ => ?_) (fun z => absurd c3 z)
    refine gx_sub (ls2 := [(0, .ref v0)]) [1] rfl ?_
    exact zb_X1_whole_5_33  e
  · refine gy_if_lt (tgt := 33) (gi_rgS g2) dX1_whole_10 (by decide) (fun z => absurd z c3) (fun _ => ?_)
    refine gx_iload dX1_whole_13 0 rfl ?_
    refine gx_aload_n dX1_whole_15 rfl 1 rfl ?_
    refine gx_bE e (fun t6 ht6 e => ?_)
    refine gy_fR ht6 dX1_whole_16 gf_RX1_22_5_2 (by decide) gkN_5_2 gkR_5_2 ?_
    refine gx_bE e (fun t7 ht7 e => ?_)
    refine gy_al0 ht7 dX1_whole_19 ?_
    refine gx_bE e (fun _ g8 e => ?_)
    refine gx_iE e (fun c9 e => ?_) (fun c9 e => ?_)
    · refine gy_icmp_ge (tgt := 33) (gi_rgS g2) (gi_rgS g8) dX1_whole_20 (by decide) (fun _ => ?_) (fun z => absurd c9 z)
      refine gx_sub (ls2 := [(0, .ref v0)]) [1] rfl ?_
      exact zb_X1_whole_5_33  e
    · refine gy_icmp_ge (tgt := 33) (gi_rgS g2) (gi_rgS g8) dX1_whole_20 (by decide) (fun z => absurd z c9) (fun _ => ?_)
      refine gx_aload_n dX1_whole_23 rfl 1 rfl ?_
      refine gx_bE e (fun t10 ht10 e => ?_)
      refine gy_fR ht10 dX1_whole_24 gf_RX1_22_5_2 (by decide) gkN_5_2 gkR_5_2 ?_
      refine gx_iload dX1_whole_27 0 rfl ?_
      refine gx_bE e (fun t11 ht11 e => ?_)
      refine gy_l1 ht11 dX1_whole_29 ?_
      refine gx_goto (tgt := 37) dX1_whole_30 (by decide) ?_
      cases e
      exact gx_iret dX1_whole_37 rfl ⟨Nat.le_of_ble_eq_true rfl, Nat.le_of_ble_eq_true rfl⟩ (fun z => z)
/-! X6_both  -/
set_option maxRecDepth 100000 in
def b_X6_both_14    (h : gi_H) : Option (Int) :=
  some (1000 : Int)
set_option maxRecDepth 100000 in
theorem zb_X6_both_14 {al : Bool}  {res : Int}    {h : gi_H} (e : b_X6_both_14  h = some res) : gx_Z mX6_both al al 0 0 14 [] [] (gi_cv h) (.inl (some (.int (gI res)))) (gi_cv h) := by
  refine gy_sipush dX6_both_14 gcs_1000 ?_
  refine gx_goto (tgt := 28) dX6_both_17 (by decide) ?_
  cases e
  exact gx_iret dX6_both_28 rfl ⟨Nat.le_of_ble_eq_true rfl, Nat.le_of_ble_eq_true rfl⟩ (fun z => z)
set_option maxRecDepth 100000 in
def f_X6_both (v0 : Nat) (v1 : Int) (v2 : Int) (h : gi_H) : Option (Int) :=
  Option.bind (gi_rg v1) fun _ => if v1 = (1000 : Int) then (b_X6_both_14   h) else (Option.bind (gi_rg v2) fun _ => if v2 = (1000 : Int) then (b_X6_both_14   h) else (Option.bind (gi_rg (v1 + v2)) fun _ => some (gi_min (99 : Int) (v1 + v2))))
set_option maxRecDepth 100000 in
theorem z_X6_both {al : Bool} {v0 : Nat} {v1 : Int} {v2 : Int} {h : gi_H} {res : Int} (e : f_X6_both v0 v1 v2 h = some res) : gx_Cw mX6_both al [.ref v0, .int (gI v1), .int (gI v2)] (gi_cv h) (.inl (some (.int (gI res)))) (gi_cv h) := by
  refine gx_enter (by decide +kernel) rfl (Nat.le_of_ble_eq_true rfl) ?_
  show gx_Z mX6_both al al 0 0 0 [(0, .ref v0), (1, .int (gI v1)), (2, .int (gI v2))] [] (gi_cv h) (.inl (some (.int (gI res)))) (gi_cv h)
  refine gx_iload_n dX6_both_0 rfl 1 rfl ?_
  refine gy_sipush dX6_both_1 gcs_1000 ?_
  refine gx_bE e (fun _ g1 e => ?_)
  refine gx_iE e (fun c2 e => ?_) (fun c2 e => ?_)
  · refine gy_icmp_eq (tgt := 14) (gi_rgS g1) (by decide) dX6_both_4 (by decide) (fun _ => ?_) (fun z => absurd c2 z)
    refine gx_sub (ls2 := []) [] rfl ?_
    exact zb_X6_both_14  e
  · refine gy_icmp_eq (tgt := 14) (gi_rgS g1) (by decide) dX6_both_4 (by decide) (fun z => absurd z c2) (fun _ => ?_)
    refine gx_iload_n dX6_both_7 rfl 2 rfl ?_
    refine gy_sipush dX6_both_8 gcs_1000 ?_
    refine gx_bE e (fun _ g3 e => ?_)
    refine gx_iE e (fun c4 e => ?_) (fun c4 e => ?_)
    · refine gy_icmp_ne (tgt := 20) (gi_rgS g3) (by decide) dX6_both_11 (by decide) (fun z => absurd c4 z) (fun _ => ?_)
      refine gx_sub (ls2 := []) [] rfl ?_
      exact zb_X6_both_14  e
    · refine gy_icmp_ne (tgt := 20) (gi_rgS g3) (by decide) dX6_both_11 (by decide) (fun _ => ?_) (fun z => absurd z c4)
      refine gy_bipush dX6_both_20 gcb_99 ?_
      refine gx_iload_n dX6_both_22 rfl 1 rfl ?_
      refine gx_iload_n dX6_both_23 rfl 2 rfl ?_
      refine gy_iadd dX6_both_24 ?_
      refine gx_bE e (fun _ g5 e => ?_)
      refine gy_mmin (by decide) (gi_rgS g5) dX6_both_25 gw_616 (Nat.le_of_ble_eq_true rfl) (Nat.le_of_ble_eq_true rfl) ⟨Nat.le_of_ble_eq_true rfl, Nat.le_of_ble_eq_true rfl⟩ ?_
      cases e
      exact gx_iret dX6_both_28 rfl ⟨Nat.le_of_ble_eq_true rfl, Nat.le_of_ble_eq_true rfl⟩ (fun z => z)
/-! X6_either  -/
set_option maxRecDepth 100000 in
def f_X6_either (v0 : Nat) (v1 : Int) (v2 : Int) (h : gi_H) : Option (Int) :=
  Option.bind (gi_rg v1) fun _ => Option.bind (gi_rg v2) fun _ => some (gi_min v1 v2)
set_option maxRecDepth 100000 in
theorem z_X6_either {al : Bool} {v0 : Nat} {v1 : Int} {v2 : Int} {h : gi_H} {res : Int} (e : f_X6_either v0 v1 v2 h = some res) : gx_Cw mX6_either al [.ref v0, .int (gI v1), .int (gI v2)] (gi_cv h) (.inl (some (.int (gI res)))) (gi_cv h) := by
  refine gx_enter (by decide +kernel) rfl (Nat.le_of_ble_eq_true rfl) ?_
  show gx_Z mX6_either al al 0 0 0 [(0, .ref v0), (1, .int (gI v1)), (2, .int (gI v2))] [] (gi_cv h) (.inl (some (.int (gI res)))) (gi_cv h)
  refine gx_iload_n dX6_either_0 rfl 1 rfl ?_
  refine gx_iload_n dX6_either_1 rfl 2 rfl ?_
  refine gx_bE e (fun _ g1 e => ?_)
  refine gx_bE e (fun _ g2 e => ?_)
  refine gy_mmin (gi_rgS g1) (gi_rgS g2) dX6_either_2 gw_616 (Nat.le_of_ble_eq_true rfl) (Nat.le_of_ble_eq_true rfl) ⟨Nat.le_of_ble_eq_true rfl, Nat.le_of_ble_eq_true rfl⟩ ?_
  cases e
  exact gx_iret dX6_either_5 rfl ⟨Nat.le_of_ble_eq_true rfl, Nat.le_of_ble_eq_true rfl⟩ (fun z => z)
/-! X1_ofProduction 5 -/
set_option maxRecDepth 100000 in
def b_X1_ofProduction_5_147 (n : Nat) (r27 : Nat → Int → Int → Int → Int → Int → Int → gi_H → Option (Int × gi_H)) (v0 : Nat) (v1 : Int) (v2 : Int) (v3 : Int) (v4 : Int) (v5 : Int) (v6 : Int)  (h : gi_H) : Option (Int × gi_H) :=
  Option.bind (gi_is h v0 5) fun _ => Option.bind (f_X1_setPart_5 v0 ((v4 + v6) + (1 : Int)) v2 v3 v5 h) fun q25 => gx_nm (v6 + (1 : Int)) fun t26 => r27 v0 v1 v2 v3 v4 v5 t26 q25
set_option maxRecDepth 100000 in
theorem zb_X1_ofProduction_5_147 {al : Bool} {n : Nat} {r27 : Nat → Int → Int → Int → Int → Int → Int → gi_H → Option (Int × gi_H)} {res : Int} {h1 : gi_H} (hr27 : ∀ (x0 : Nat) (x1 : Int) (x2 : Int) (x3 : Int) (x4 : Int) (x5 : Int) (x6 : Int) (hh : gi_H), r27 x0 x1 x2 x3 x4 x5 x6 hh = some (res, h1) → gx_Z mX1_ofProduction al al 0 0 27 [(0, .ref x0), (1, .int (gI x1)), (2, .int (gI x2)), (3, .int (gI x3)), (4, .int (gI x4)), (5, .int (gI x5)), (6, .int (gI x6))] [] (gi_cv hh) (.inl (some (.int (gI res)))) (gi_cv h1)) {v0 : Nat} {v1 : Int} {v2 : Int} {v3 : Int} {v4 : Int} {v5 : Int} {v6 : Int}  {h : gi_H} (e : b_X1_ofProduction_5_147 n r27 v0 v1 v2 v3 v4 v5 v6 h = some (res, h1)) : gx_Z mX1_ofProduction al al 0 0 147 [(0, .ref v0), (1, .int (gI v1)), (2, .int (gI v2)), (3, .int (gI v3)), (4, .int (gI v4)), (5, .int (gI v5)), (6, .int (gI v6))] [] (gi_cv h) (.inl (some (.int (gI res)))) (gi_cv h1) := by
  refine gx_aload_n dX1_ofProduction_147 rfl 0 rfl ?_
  refine gx_iload dX1_ofProduction_148 4 rfl ?_
  refine gx_iload dX1_ofProduction_150 6 rfl ?_
  refine gy_iadd dX1_ofProduction_152 ?_
  refine gy_iconst dX1_ofProduction_153 ?_
  refine gy_iadd dX1_ofProduction_154 ?_
  refine gx_iload_n dX1_ofProduction_155 rfl 2 rfl ?_
  refine gx_iload_n dX1_ofProduction_156 rfl 3 rfl ?_
  refine gx_iload dX1_ofProduction_157 5 rfl ?_
  refine gx_bE e (fun _ hu24 e => ?_)
  refine gx_bE e (fun q25 hq25 e => ?_)
  refine gx_callU (n := 4) (st := []) (As := [.int (gI ((v4 + v6) + (1 : Int))), .int (gI v2), .int (gI v3), .int (gI v5)]) (b := v0) dX1_ofProduction_159 (z_X1_setPart_5 hq25) rfl ⟨rfl, gw_cw_X1_setPart, gw_11, gp_X1_setPart, ⟨Nat.le_of_ble_eq_true rfl, Nat.le_of_ble_eq_true rfl⟩⟩ (gi_isS hu24) (by decide) (x := ⟨"Grammarsmith$Chart", "setPart", "(IIII)V"⟩) (owner := "Grammarsmith$Chart") gw_571 gw_1336 gz_1_setPart gw_573 rfl (by decide +kernel) ⟨Nat.le_of_ble_eq_true rfl, Nat.le_of_ble_eq_true rfl⟩ (Nat.le_of_ble_eq_true rfl) (gy_k0 (kc2 := 0) (ks2 := 0) ⟨rfl, rfl⟩ ?_) gy_kn
  refine gx_nE e (fun t26 ht26 e => ?_)
  refine gy_iinc (v := t26) (ls2 := [(6, .int (gI t26)), (0, .ref v0), (1, .int (gI v1)), (2, .int (gI v2)), (3, .int (gI v3)), (4, .int (gI v4)), (5, .int (gI v5))]) dX1_ofProduction_162 6 rfl ht26 (Nat.le_of_ble_eq_true rfl) rfl ?_
  refine gx_goto (tgt := 27) dX1_ofProduction_165 (by decide) ?_
  refine gx_sub (ls2 := [(0, .ref v0), (1, .int (gI v1)), (2, .int (gI v2)), (3, .int (gI v3)), (4, .int (gI v4)), (5, .int (gI v5)), (6, .int (gI t26))]) [1, 2, 3, 4, 5, 6, 0] rfl ?_
  exact hr27 _ _ _ _ _ _ _ _ e
set_option maxRecDepth 100000 in
def b_X1_ofProduction_5_123 (n : Nat) (r27 : Nat → Int → Int → Int → Int → Int → Int → gi_H → Option (Int × gi_H)) (r67 : Nat → Int → Int → Int → Int → Int → Int → Int → Int → gi_H → Option (Int × gi_H)) (v0 : Nat) (v1 : Int) (v2 : Int) (v3 : Int) (v4 : Int) (v5 : Int) (v6 : Int) (v7 : Int) (v8 : Int) (v9 : Int) (s0 : Int) (h : gi_H) : Option (Int × gi_H) :=
  Option.bind (gi_is h v0 5) fun _ => Option.bind (f_X6_both v0 v9 s0 h) fun q35 => Option.bind (gi_is h v0 5) fun _ => Option.bind (f_X6_either v0 v5 q35 h) fun q37 => gx_nm (v8 + (1 : Int)) fun t38 => r67 v0 v1 v2 v3 v4 q37 v6 v7 t38 h
set_option maxRecDepth 100000 in
theorem zb_X1_ofProduction_5_123 {al : Bool} {n : Nat} {r27 : Nat → Int → Int → Int → Int → Int → Int → gi_H → Option (Int × gi_H)} {r67 : Nat → Int → Int → Int → Int → Int → Int → Int → Int → gi_H → Option (Int × gi_H)} {res : Int} {h1 : gi_H} (hr27 : ∀ (x0 : Nat) (x1 : Int) (x2 : Int) (x3 : Int) (x4 : Int) (x5 : Int) (x6 : Int) (hh : gi_H), r27 x0 x1 x2 x3 x4 x5 x6 hh = some (res, h1) → gx_Z mX1_ofProduction al al 0 0 27 [(0, .ref x0), (1, .int (gI x1)), (2, .int (gI x2)), (3, .int (gI x3)), (4, .int (gI x4)), (5, .int (gI x5)), (6, .int (gI x6))] [] (gi_cv hh) (.inl (some (.int (gI res)))) (gi_cv h1)) (hr67 : ∀ (x0 : Nat) (x1 : Int) (x2 : Int) (x3 : Int) (x4 : Int) (x5 : Int) (x6 : Int) (x7 : Int) (x8 : Int) (hh : gi_H), r67 x0 x1 x2 x3 x4 x5 x6 x7 x8 hh = some (res, h1) → gx_Z mX1_ofProduction al al 0 0 67 [(0, .ref x0), (1, .int (gI x1)), (2, .int (gI x2)), (3, .int (gI x3)), (4, .int (gI x4)), (5, .int (gI x5)), (6, .int (gI x6)), (7, .int (gI x7)), (8, .int (gI x8))] [] (gi_cv hh) (.inl (some (.int (gI res)))) (gi_cv h1)) {v0 : Nat} {v1 : Int} {v2 : Int} {v3 : Int} {v4 : Int} {v5 : Int} {v6 : Int} {v7 : Int} {v8 : Int} {v9 : Int} {s0 : Int} {h : gi_H} (e : b_X1_ofProduction_5_123 n r27 r67 v0 v1 v2 v3 v4 v5 v6 v7 v8 v9 s0 h = some (res, h1)) : gx_Z mX1_ofProduction al al 0 0 123 [(0, .ref v0), (1, .int (gI v1)), (2, .int (gI v2)), (3, .int (gI v3)), (4, .int (gI v4)), (5, .int (gI v5)), (6, .int (gI v6)), (7, .int (gI v7)), (8, .int (gI v8)), (9, .int (gI v9))] [.int (gI s0)] (gi_cv h) (.inl (some (.int (gI res)))) (gi_cv h1) := by
  refine gx_istore (ls2 := [(11, .int (gI s0)), (0, .ref v0), (1, .int (gI v1)), (2, .int (gI v2)), (3, .int (gI v3)), (4, .int (gI v4)), (5, .int (gI v5)), (6, .int (gI v6)), (7, .int (gI v7)), (8, .int (gI v8)), (9, .int (gI v9))]) dX1_ofProduction_123 (Nat.le_of_ble_eq_true rfl) rfl ?_
  refine gx_aload_n dX1_ofProduction_125 rfl 1 rfl ?_
  refine gx_iload dX1_ofProduction_126 6 rfl ?_
  refine gx_aload_n dX1_ofProduction_128 rfl 1 rfl ?_
  refine gx_iload dX1_ofProduction_129 10 rfl ?_
  refine gx_iload dX1_ofProduction_131 0 rfl ?_
  refine gx_bE e (fun _ hu34 e => ?_)
  refine gx_bE e (fun q35 hq35 e => ?_)
  refine gx_callA (n := 2) (st := [.int (gI v5), .ref v0]) (As := [.int (gI v9), .int (gI s0)]) (b := v0) dX1_ofProduction_133 (z_X6_both hq35) rfl ⟨rfl, gw_cw_X6_both, gw_13, gp_X6_both, ⟨Nat.le_of_ble_eq_true rfl, Nat.le_of_ble_eq_true rfl⟩⟩ (gi_isS hu34) (by decide) (x := ⟨"Grammarsmith$Chart", "both", "(II)I"⟩) (owner := "Grammarsmith$Chart") gw_606 gw_608 gw_613 gw_614 (by decide +kernel) (by decide +kernel) ⟨Nat.le_of_ble_eq_true rfl, Nat.le_of_ble_eq_true rfl⟩ (Nat.le_of_ble_eq_true rfl) (gy_k1 (x := .int (gI q35)) (kc2 := 0) (ks2 := 0) ⟨rfl, rfl⟩ ?_) gy_kn
  refine gx_bE e (fun _ hu36 e => ?_)
  refine gx_bE e (fun q37 hq37 e => ?_)
  refine gx_callA (n := 2) (st := []) (As := [.int (gI v5), .int (gI q35)]) (b := v0) dX1_ofProduction_136 (z_X6_either hq37) rfl ⟨rfl, gw_cw_X6_either, gw_13, gp_X6_either, ⟨Nat.le_of_ble_eq_true rfl, Nat.le_of_ble_eq_true rfl⟩⟩ (gi_isS hu36) (by decide) (x := ⟨"Grammarsmith$Chart", "either", "(II)I"⟩) (owner := "Grammarsmith$Chart") gw_617 gw_619 gw_623 gw_624 (by decide +kernel) (by decide +kernel) ⟨Nat.le_of_ble_eq_true rfl, Nat.le_of_ble_eq_true rfl⟩ (Nat.le_of_ble_eq_true rfl) (gy_k1 (x := .int (gI q37)) (kc2 := 0) (ks2 := 0) ⟨rfl, rfl⟩ ?_) gy_kn
  refine gx_istore (ls2 := [(5, .int (gI q37)), (11, .int (gI s0)), (0, .ref v0), (1, .int (gI v1)), (2, .int (gI v2)), (3, .int (gI v3)), (4, .int (gI v4)), (6, .int (gI v6)), (7, .int (gI v7)), (8, .int (gI v8)), (9, .int (gI v9))]) dX1_ofProduction_139 (Nat.le_of_ble_eq_true rfl) rfl ?_
  refine gx_nE e (fun t38 ht38 e => ?_)
  refine gy_iinc (v := t38) (ls2 := [(8, .int (gI t38)), (5, .int (gI q37)), (11, .int (gI s0)), (0, .ref v0), (1, .int (gI v1)), (2, .int (gI v2)), (3, .int (gI v3)), (4, .int (gI v4)), (6, .int (gI v6)), (7, .int (gI v7)), (9, .int (gI v9))]) dX1_ofProduction_141 9 rfl ht38 (Nat.le_of_ble_eq_true rfl) rfl ?_
  refine gx_goto (tgt := 67) dX1_ofProduction_144 (by decide) ?_
  refine gx_sub (ls2 := [(0, .ref v0), (1, .int (gI v1)), (2, .int (gI v2)), (3, .int (gI v3)), (4, .int (gI v4)), (5, .int (gI q37)), (6, .int (gI v6)), (7, .int (gI v7)), (8, .int (gI t38))]) [3, 4, 5, 6, 7, 1, 8, 9, 0] rfl ?_
  exact hr67 _ _ _ _ _ _ _ _ _ _ e
set_option maxRecDepth 100000 in
def b_X1_ofProduction_5_67 (n : Nat) (r27 : Nat → Int → Int → Int → Int → Int → Int → gi_H → Option (Int × gi_H)) (r67 : Nat → Int → Int → Int → Int → Int → Int → Int → Int → gi_H → Option (Int × gi_H)) (v0 : Nat) (v1 : Int) (v2 : Int) (v3 : Int) (v4 : Int) (v5 : Int) (v6 : Int) (v7 : Int) (v8 : Int)  (h : gi_H) : Option (Int × gi_H) :=
  Option.bind (gi_rg v8) fun _ => Option.bind (gi_rg v3) fun _ => if v3 < v8 then (b_X1_ofProduction_5_147 n r27 v0 v1 v2 v3 v4 v5 v6 h) else (Option.bind (gi_is h v0 5) fun _ => Option.bind (f_X1_part_5 v0 (v4 + v6) v2 v8 h) fun q28 => Option.bind (f_X11_isTerminal v7 h) fun q29 => Option.bind (gi_rg q29) fun _ => if q29 = 0 then (Option.bind (gi_is h v0 5) fun _ => Option.bind (f_X1_whole_5 v0 (v7 - (16 : Int)) v8 v3 h) fun q33 => b_X1_ofProduction_5_123 n r27 r67 v0 v1 v2 v3 v4 v5 v6 v7 v8 q28 q33 h) else (Option.bind (gi_is h v0 5) fun _ => Option.bind (f_X6_ofTerminal n v0 v7 v8 v3 h) fun q40 => b_X1_ofProduction_5_123 n r27 r67 v0 v1 v2 v3 v4 v5 v6 v7 v8 q28 q40 h))
set_option maxRecDepth 100000 in
theorem zb_X1_ofProduction_5_67 {al : Bool} {n : Nat} {r27 : Nat → Int → Int → Int → Int → Int → Int → gi_H → Option (Int × gi_H)} {r67 : Nat → Int → Int → Int → Int → Int → Int → Int → Int → gi_H → Option (Int × gi_H)} {res : Int} {h1 : gi_H} (hr27 : ∀ (x0 : Nat) (x1 : Int) (x2 : Int) (x3 : Int) (x4 : Int) (x5 : Int) (x6 : Int) (hh : gi_H), r27 x0 x1 x2 x3 x4 x5 x6 hh = some (res, h1) → gx_Z mX1_ofProduction al al 0 0 27 [(0, .ref x0), (1, .int (gI x1)), (2, .int (gI x2)), (3, .int (gI x3)), (4, .int (gI x4)), (5, .int (gI x5)), (6, .int (gI x6))] [] (gi_cv hh) (.inl (some (.int (gI res)))) (gi_cv h1)) (hr67 : ∀ (x0 : Nat) (x1 : Int) (x2 : Int) (x3 : Int) (x4 : Int) (x5 : Int) (x6 : Int) (x7 : Int) (x8 : Int) (hh : gi_H), r67 x0 x1 x2 x3 x4 x5 x6 x7 x8 hh = some (res, h1) → gx_Z mX1_ofProduction al al 0 0 67 [(0, .ref x0), (1, .int (gI x1)), (2, .int (gI x2)), (3, .int (gI x3)), (4, .int (gI x4)), (5, .int (gI x5)), (6, .int (gI x6)), (7, .int (gI x7)), (8, .int (gI x8))] [] (gi_cv hh) (.inl (some (.int (gI res)))) (gi_cv h1)) {v0 : Nat} {v1 : Int} {v2 : Int} {v3 : Int} {v4 : Int} {v5 : Int} {v6 : Int} {v7 : Int} {v8 : Int}  {h : gi_H} (e : b_X1_ofProduction_5_67 n r27 r67 v0 v1 v2 v3 v4 v5 v6 v7 v8 h = some (res, h1)) : gx_Z mX1_ofProduction al al 0 0 67 [(0, .ref v0), (1, .int (gI v1)), (2, .int (gI v2)), (3, .int (gI v3)), (4, .int (gI v4)), (5, .int (gI v5)), (6, .int (gI v6)), (7, .int (gI v7)), (8, .int (gI v8))] [] (gi_cv h) (.inl (some (.int (gI res)))) (gi_cv h1) := by
  refine gx_iload dX1_ofProduction_67 8 rfl ?_
  refine gx_iload_n dX1_ofProduction_69 rfl 3 rfl ?_
  refine gx_bE e (fun _ g21 e => ?_)
  refine gx_bE e (fun _ g22 e => ?_)
  refine gx_iE e (fun c23 e => ?_) (fun c23 e => ?_)
  · refine gy_icmp_gt (tgt := 147) (gi_rgS g21) (gi_rgS g22) dX1_ofProduction_70 (by decide) (fun _ => ?_) (fun z => absurd c23 z)
    refine gx_sub (ls2 := [(0, .ref v0), (1, .int (gI v1)), (2, .int (gI v2)), (3, .int (gI v3)), (4, .int (gI v4)), (5, .int (gI v5)), (6, .int (gI v6))]) [0, 1, 2, 3, 4, 5, 6] rfl ?_
    exact zb_X1_ofProduction_5_147 hr27 e
  · refine gy_icmp_gt (tgt := 147) (gi_rgS g21) (gi_rgS g22) dX1_ofProduction_70 (by decide) (fun z => absurd z c23) (fun _ => ?_)
    refine gx_aload_n dX1_ofProduction_73 rfl 0 rfl ?_
    refine gx_iload dX1_ofProduction_74 4 rfl ?_
    refine gx_iload dX1_ofProduction_76 6 rfl ?_
    refine gy_iadd dX1_ofProduction_78 ?_
    refine gx_iload_n dX1_ofProduction_79 rfl 2 rfl ?_
    refine gx_iload dX1_ofProduction_80 8 rfl ?_
    refine gx_bE e (fun _ hu27 e => ?_)
    refine gx_bE e (fun q28 hq28 e => ?_)
    refine gx_callU (n := 3) (st := []) (As := [.int (gI (v4 + v6)), .int (gI v2), .int (gI v8)]) (b := v0) dX1_ofProduction_82 (z_X1_part_5 hq28) rfl ⟨rfl, gw_cw_X1_part, gw_11, gp_X1_part, ⟨Nat.le_of_ble_eq_true rfl, Nat.le_of_ble_eq_true rfl⟩⟩ (gi_isS hu27) (by decide) (x := ⟨"Grammarsmith$Chart", "part", "(III)I"⟩) (owner := "Grammarsmith$Chart") gw_577 gw_1337 gz_1_part gw_579 rfl (by decide +kernel) ⟨Nat.le_of_ble_eq_true rfl, Nat.le_of_ble_eq_true rfl⟩ (Nat.le_of_ble_eq_true rfl) (gy_k1 (x := .int (gI q28)) (kc2 := 0) (ks2 := 0) ⟨rfl, rfl⟩ ?_) gy_kn
    refine gx_istore (ls2 := [(9, .int (gI q28)), (0, .ref v0), (1, .int (gI v1)), (2, .int (gI v2)), (3, .int (gI v3)), (4, .int (gI v4)), (5, .int (gI v5)), (6, .int (gI v6)), (7, .int (gI v7)), (8, .int (gI v8))]) dX1_ofProduction_85 (Nat.le_of_ble_eq_true rfl) rfl ?_
    refine gx_iload dX1_ofProduction_87 8 rfl ?_
    refine gx_bE e (fun q29 hq29 e => ?_)
    refine gx_callSN (n := 1) (st := []) (As := [.int (gI v7)]) dX1_ofProduction_89 (z_X11_isTerminal hq29) rfl ⟨rfl, gw_cw_X11_isTerminal, gw_1, gp_X11_isTerminal, ⟨Nat.le_of_ble_eq_true rfl, Nat.le_of_ble_eq_true rfl⟩⟩ (host := "Grammarsmith") (by decide +kernel) gw_582 ⟨Nat.le_of_ble_eq_true rfl, Nat.le_of_ble_eq_true rfl⟩ (Nat.le_of_ble_eq_true rfl) (gy_k1 (x := .int (gI q29)) (kc2 := 0) (ks2 := 0) ⟨rfl, rfl⟩ ?_) gy_kn
    refine gx_istore (ls2 := [(10, .int (gI q29)), (9, .int (gI q28)), (0, .ref v0), (1, .int (gI v1)), (2, .int (gI v2)), (3, .int (gI v3)), (4, .int (gI v4)), (5, .int (gI v5)), (6, .int (gI v6)), (7, .int (gI v7)), (8, .int (gI v8))]) dX1_ofProduction_92 (Nat.le_of_ble_eq_true rfl) rfl ?_
    refine gx_iload dX1_ofProduction_94 0 rfl ?_
    refine gx_bE e (fun _ g30 e => ?_)
    refine gx_iE e (fun c31 e => ?_) (fun c31 e => ?_)
    · refine gy_if_eq (tgt := 111) (gi_rgS g30) dX1_ofProduction_96 (by decide) (fun _ => ?_) (fun z => absurd c31 z)
      refine gx_aload_n dX1_ofProduction_111 rfl 2 rfl ?_
      refine gx_iload dX1_ofProduction_112 9 rfl ?_
      refine gy_bipush dX1_ofProduction_114 gcb_16 ?_
      refine gy_isub dX1_ofProduction_116 ?_
      refine gx_iload dX1_ofProduction_117 10 rfl ?_
      refine gx_iload_n dX1_ofProduction_119 rfl 5 rfl ?_
      refine gx_bE e (fun _ hu32 e => ?_)
      refine gx_bE e (fun q33 hq33 e => ?_)
      refine gx_callU (n := 3) (st := []) (As := [.int (gI (v7 - (16 : Int))), .int (gI v8), .int (gI v3)]) (b := v0) dX1_ofProduction_120 (z_X1_whole_5 hq33) rfl ⟨rfl, gw_cw_X1_whole, gw_11, gp_X1_whole, ⟨Nat.le_of_ble_eq_true rfl, Nat.le_of_ble_eq_true rfl⟩⟩ (gi_isS hu32) (by decide) (x := ⟨"Grammarsmith$Chart", "whole", "(III)I"⟩) (owner := "Grammarsmith$Chart") gw_602 gw_1338 gz_1_whole gw_604 rfl (by decide +kernel) ⟨Nat.le_of_ble_eq_true rfl, Nat.le_of_ble_eq_true rfl⟩ (Nat.le_of_ble_eq_true rfl) (gy_k1 (x := .int (gI q33)) (kc2 := 0) (ks2 := 0) ⟨rfl, rfl⟩ ?_) gy_kn
      refine gx_sub (ls2 := [(0, .ref v0), (1, .int (gI v1)), (2, .int (gI v2)), (3, .int (gI v3)), (4, .int (gI v4)), (5, .int (gI v5)), (6, .int (gI v6)), (7, .int (gI v7)), (8, .int (gI v8)), (9, .int (gI q28))]) [2, 3, 4, 5, 6, 7, 8, 9, 10, 1] rfl ?_
      exact zb_X1_ofProduction_5_123 hr27 hr67 e
    · refine gy_if_eq (tgt := 111) (gi_rgS g30) dX1_ofProduction_96 (by decide) (fun z => absurd z c31) (fun _ => ?_)
      refine gx_aload_n dX1_ofProduction_99 rfl 2 rfl ?_
      refine gx_iload dX1_ofProduction_100 9 rfl ?_
      refine gx_iload dX1_ofProduction_102 10 rfl ?_
      refine gx_iload_n dX1_ofProduction_104 rfl 5 rfl ?_
      refine gx_bE e (fun _ hu39 e => ?_)
      refine gx_bE e (fun q40 hq40 e => ?_)
      refine gx_callA (n := 3) (st := []) (As := [.int (gI v7), .int (gI v8), .int (gI v3)]) (b := v0) dX1_ofProduction_105 (z_X6_ofTerminal hq40) rfl ⟨rfl, gw_cw_X6_ofTerminal, gw_13, gp_X6_ofTerminal, ⟨Nat.le_of_ble_eq_true rfl, Nat.le_of_ble_eq_true rfl⟩⟩ (gi_isS hu39) (by decide) (x := ⟨"Grammarsmith$Chart", "ofTerminal", "(III)I"⟩) (owner := "Grammarsmith$Chart") gw_584 gw_586 gw_596 gw_597 (by decide +kernel) (by decide +kernel) ⟨Nat.le_of_ble_eq_true rfl, Nat.le_of_ble_eq_true rfl⟩ (Nat.le_of_ble_eq_true rfl) (gy_k1 (x := .int (gI q40)) (kc2 := 0) (ks2 := 0) ⟨rfl, rfl⟩ ?_) gy_kn
      refine gx_goto (tgt := 123) dX1_ofProduction_108 (by decide) ?_
      refine gx_sub (ls2 := [(0, .ref v0), (1, .int (gI v1)), (2, .int (gI v2)), (3, .int (gI v3)), (4, .int (gI v4)), (5, .int (gI v5)), (6, .int (gI v6)), (7, .int (gI v7)), (8, .int (gI v8)), (9, .int (gI q28))]) [2, 3, 4, 5, 6, 7, 8, 9, 10, 1] rfl ?_
      exact zb_X1_ofProduction_5_123 hr27 hr67 e
def l_X1_ofProduction_5_67 (n : Nat) (r27 : Nat → Int → Int → Int → Int → Int → Int → gi_H → Option (Int × gi_H)) : Nat → Nat → Int → Int → Int → Int → Int → Int → Int → Int → gi_H → Option (Int × gi_H)
  | 0, _, _, _, _, _, _, _, _, _, _ => none
  | k + 1, v0, v1, v2, v3, v4, v5, v6, v7, v8, h => b_X1_ofProduction_5_67 n r27 (l_X1_ofProduction_5_67 n r27 k) v0 v1 v2 v3 v4 v5 v6 v7 v8 h
theorem zl_X1_ofProduction_5_67 {al : Bool} {n : Nat} {r27 : Nat → Int → Int → Int → Int → Int → Int → gi_H → Option (Int × gi_H)} {res : Int} {h1 : gi_H} (hr27 : ∀ (x0 : Nat) (x1 : Int) (x2 : Int) (x3 : Int) (x4 : Int) (x5 : Int) (x6 : Int) (hh : gi_H), r27 x0 x1 x2 x3 x4 x5 x6 hh = some (res, h1) → gx_Z mX1_ofProduction al al 0 0 27 [(0, .ref x0), (1, .int (gI x1)), (2, .int (gI x2)), (3, .int (gI x3)), (4, .int (gI x4)), (5, .int (gI x5)), (6, .int (gI x6))] [] (gi_cv hh) (.inl (some (.int (gI res)))) (gi_cv h1)) : ∀ (k : Nat) (v0 : Nat) (v1 : Int) (v2 : Int) (v3 : Int) (v4 : Int) (v5 : Int) (v6 : Int) (v7 : Int) (v8 : Int) (h : gi_H), l_X1_ofProduction_5_67 n r27 k v0 v1 v2 v3 v4 v5 v6 v7 v8 h = some (res, h1) → gx_Z mX1_ofProduction al al 0 0 67 [(0, .ref v0), (1, .int (gI v1)), (2, .int (gI v2)), (3, .int (gI v3)), (4, .int (gI v4)), (5, .int (gI v5)), (6, .int (gI v6)), (7, .int (gI v7)), (8, .int (gI v8))] [] (gi_cv h) (.inl (some (.int (gI res)))) (gi_cv h1)
  | 0, _, _, _, _, _, _, _, _, _, _, e => gx_0E e
  | k + 1, _, _, _, _, _, _, _, _, _, _, e => zb_X1_ofProduction_5_67 (n := n) hr27 (zl_X1_ofProduction_5_67 hr27 k) e
set_option maxRecDepth 100000 in
def b_X1_ofProduction_5_27 (n : Nat) (r27 : Nat → Int → Int → Int → Int → Int → Int → gi_H → Option (Int × gi_H)) (v0 : Nat) (v1 : Int) (v2 : Int) (v3 : Int) (v4 : Int) (v5 : Int) (v6 : Int)  (h : gi_H) : Option (Int × gi_H) :=
  Option.bind (gi_gR h v0 5 0) fun t6 => Option.bind (gi_is h t6 2) fun _ => Option.bind (f_X3_grammar t6 h) fun q8 => Option.bind (gi_is h q8 3) fun _ => Option.bind (f_X4_length q8 v1 h) fun q10 => Option.bind (gi_rg v6) fun _ => Option.bind (gi_rg q10) fun _ => if q10 ≤ v6 then (some (v5, h)) else (Option.bind (gi_gR h v0 5 0) fun t14 => Option.bind (gi_is h t14 2) fun _ => Option.bind (f_X3_grammar t14 h) fun q16 => Option.bind (gi_is h q16 3) fun _ => Option.bind (f_X4_symbol q16 v1 v6 h) fun q18 => Option.bind (gi_is h v0 5) fun _ => Option.bind (f_X6_none v0 h) fun q20 => l_X1_ofProduction_5_67 n r27 n v0 v1 v2 v3 v4 q20 v6 q18 v2 h)
set_option maxRecDepth 100000 in
theorem zb_X1_ofProduction_5_27 {al : Bool} {n : Nat} {r27 : Nat → Int → Int → Int → Int → Int → Int → gi_H → Option (Int × gi_H)} {res : Int} {h1 : gi_H} (hr27 : ∀ (x0 : Nat) (x1 : Int) (x2 : Int) (x3 : Int) (x4 : Int) (x5 : Int) (x6 : Int) (hh : gi_H), r27 x0 x1 x2 x3 x4 x5 x6 hh = some (res, h1) → gx_Z mX1_ofProduction al al 0 0 27 [(0, .ref x0), (1, .int (gI x1)), (2, .int (gI x2)), (3, .int (gI x3)), (4, .int (gI x4)), (5, .int (gI x5)), (6, .int (gI x6))] [] (gi_cv hh) (.inl (some (.int (gI res)))) (gi_cv h1)) {v0 : Nat} {v1 : Int} {v2 : Int} {v3 : Int} {v4 : Int} {v5 : Int} {v6 : Int}  {h : gi_H} (e : b_X1_ofProduction_5_27 n r27 v0 v1 v2 v3 v4 v5 v6 h = some (res, h1)) : gx_Z mX1_ofProduction al al 0 0 27 [(0, .ref v0), (1, .int (gI v1)), (2, .int (gI v2)), (3, .int (gI v3)), (4, .int (gI v4)), (5, .int (gI v5)), (6, .int (gI v6))] [] (gi_cv h) (.inl (some (.int (gI res)))) (gi_cv h1) := by
  refine gx_iload dX1_ofProduction_27 6 rfl ?_
  refine gx_aload_n dX1_ofProduction_29 rfl 0 rfl ?_
  refine gx_bE e (fun t6 ht6 e => ?_)
  refine gy_fR ht6 dX1_ofProduction_30 gf_RX1_15_5_0 (by decide) gkN_5_0 gkR_5_0 ?_
  refine gx_bE e (fun _ hu7 e => ?_)
  refine gx_bE e (fun q8 hq8 e => ?_)
  refine gx_callV (n := 0) (st := [.int (gI v6)]) (As := []) (b := t6) dX1_ofProduction_33 (z_X3_grammar hq8) rfl ⟨rfl, gw_cw_X3_grammar, gw_6, gp_X3_grammar, ⟨Nat.le_of_ble_eq_true rfl, Nat.le_of_ble_eq_true rfl⟩⟩ (gi_isS hu7) (by decide) gw_552 gw_553 gw_554 rfl ⟨Nat.le_of_ble_eq_true rfl, Nat.le_of_ble_eq_true rfl⟩ (Nat.le_of_ble_eq_true rfl) (gy_k1 (x := .ref q8) (kc2 := 0) (ks2 := 0) ⟨rfl, rfl⟩ ?_) gy_kn
  refine gx_iload_n dX1_ofProduction_36 rfl 1 rfl ?_
  refine gx_bE e (fun _ hu9 e => ?_)
  refine gx_bE e (fun q10 hq10 e => ?_)
  refine gx_callV (n := 1) (st := [.int (gI v6)]) (As := [.int (gI v1)]) (b := q8) dX1_ofProduction_37 (z_X4_length hq10) rfl ⟨rfl, gw_cw_X4_length, gw_3, gp_X4_length, ⟨Nat.le_of_ble_eq_true rfl, Nat.le_of_ble_eq_true rfl⟩⟩ (gi_isS hu9) (by decide) gw_575 gw_411 gw_412 rfl ⟨Nat.le_of_ble_eq_true rfl, Nat.le_of_ble_eq_true rfl⟩ (Nat.le_of_ble_eq_true rfl) (gy_k1 (x := .int (gI q10)) (kc2 := 0) (ks2 := 0) ⟨rfl, rfl⟩ ?_) gy_kn
  refine gx_bE e (fun _ g11 e => ?_)
  refine gx_bE e (fun _ g12 e => ?_)
  refine gx_iE e (fun c13 e => ?_) (fun c13 e => ?_)
  · refine gy_icmp_ge (tgt := 168) (gi_rgS g11) (gi_rgS g12) dX1_ofProduction_40 (by decide) (fun _ => ?_) (fun z => absurd c13 z)
    refine gx_iload dX1_ofProduction_168 5 rfl ?_
    cases e
    exact gx_iret dX1_ofProduction_170 rfl ⟨Nat.le_of_ble_eq_true rfl, Nat.le_of_ble_eq_true rfl⟩ (fun z => z)
  · refine gy_icmp_ge (tgt := 168) (gi_rgS g11) (gi_rgS g12) dX1_ofProduction_40 (by decide) (fun z => absurd z c13) (fun _ => ?_)
    refine gx_aload_n dX1_ofProduction_43 rfl 0 rfl ?_
    refine gx_bE e (fun t14 ht14 e => ?_)
    refine gy_fR ht14 dX1_ofProduction_44 gf_RX1_15_5_0 (by decide) gkN_5_0 gkR_5_0 ?_
    refine gx_bE e (fun _ hu15 e => ?_)
    refine gx_bE e (fun q16 hq16 e => ?_)
    refine gx_callV (n := 0) (st := []) (As := []) (b := t14) dX1_ofProduction_47 (z_X3_grammar hq16) rfl ⟨rfl, gw_cw_X3_grammar, gw_6, gp_X3_grammar, ⟨Nat.le_of_ble_eq_true rfl, Nat.le_of_ble_eq_true rfl⟩⟩ (gi_isS hu15) (by decide) gw_552 gw_553 gw_554 rfl ⟨Nat.le_of_ble_eq_true rfl, Nat.le_of_ble_eq_true rfl⟩ (Nat.le_of_ble_eq_true rfl) (gy_k1 (x := .ref q16) (kc2 := 0) (ks2 := 0) ⟨rfl, rfl⟩ ?_) gy_kn
    refine gx_iload_n dX1_ofProduction_50 rfl 1 rfl ?_
    refine gx_iload dX1_ofProduction_51 6 rfl ?_
    refine gx_bE e (fun _ hu17 e => ?_)
    refine gx_bE e (fun q18 hq18 e => ?_)
    refine gx_callV (n := 2) (st := []) (As := [.int (gI v1), .int (gI v6)]) (b := q16) dX1_ofProduction_53 (z_X4_symbol hq18) rfl ⟨rfl, gw_cw_X4_symbol, gw_3, gp_X4_symbol, ⟨Nat.le_of_ble_eq_true rfl, Nat.le_of_ble_eq_true rfl⟩⟩ (gi_isS hu17) (by decide) gw_576 gw_415 gw_416 rfl ⟨Nat.le_of_ble_eq_true rfl, Nat.le_of_ble_eq_true rfl⟩ (Nat.le_of_ble_eq_true rfl) (gy_k1 (x := .int (gI q18)) (kc2 := 0) (ks2 := 0) ⟨rfl, rfl⟩ ?_) gy_kn
    refine gx_istore (ls2 := [(7, .int (gI q18)), (0, .ref v0), (1, .int (gI v1)), (2, .int (gI v2)), (3, .int (gI v3)), (4, .int (gI v4)), (5, .int (gI v5)), (6, .int (gI v6))]) dX1_ofProduction_56 (Nat.le_of_ble_eq_true rfl) rfl ?_
    refine gx_aload_n dX1_ofProduction_58 rfl 1 rfl ?_
    refine gx_bE e (fun _ hu19 e => ?_)
    refine gx_bE e (fun q20 hq20 e => ?_)
    refine gx_callA (n := 0) (st := []) (As := []) (b := v0) dX1_ofProduction_59 (z_X6_none hq20) rfl ⟨rfl, gw_cw_X6_none, gw_13, gp_X6_none, ⟨Nat.le_of_ble_eq_true rfl, Nat.le_of_ble_eq_true rfl⟩⟩ (gi_isS hu19) (by decide) (x := ⟨"Grammarsmith$Chart", "none", "()I"⟩) (owner := "Grammarsmith$Chart") gw_530 gw_532 gw_536 gw_537 (by decide +kernel) (by decide +kernel) ⟨Nat.le_of_ble_eq_true rfl, Nat.le_of_ble_eq_true rfl⟩ (Nat.le_of_ble_eq_true rfl) (gy_k1 (x := .int (gI q20)) (kc2 := 0) (ks2 := 0) ⟨rfl, rfl⟩ ?_) gy_kn
    refine gx_istore (ls2 := [(5, .int (gI q20)), (7, .int (gI q18)), (0, .ref v0), (1, .int (gI v1)), (2, .int (gI v2)), (3, .int (gI v3)), (4, .int (gI v4)), (6, .int (gI v6))]) dX1_ofProduction_62 (Nat.le_of_ble_eq_true rfl) rfl ?_
    refine gx_iload_n dX1_ofProduction_64 rfl 4 rfl ?_
    refine gx_istore (ls2 := [(8, .int (gI v2)), (5, .int (gI q20)), (7, .int (gI q18)), (0, .ref v0), (1, .int (gI v1)), (2, .int (gI v2)), (3, .int (gI v3)), (4, .int (gI v4)), (6, .int (gI v6))]) dX1_ofProduction_65 (Nat.le_of_ble_eq_true rfl) rfl ?_
    refine gx_sub (ls2 := [(0, .ref v0), (1, .int (gI v1)), (2, .int (gI v2)), (3, .int (gI v3)), (4, .int (gI v4)), (5, .int (gI q20)), (6, .int (gI v6)), (7, .int (gI q18)), (8, .int (gI v2))]) [3, 4, 5, 6, 7, 1, 8, 2, 0] rfl ?_
    exact zl_X1_ofProduction_5_67 hr27 n _ _ _ _ _ _ _ _ _ _ e
def l_X1_ofProduction_5_27 (n : Nat)  : Nat → Nat → Int → Int → Int → Int → Int → Int → gi_H → Option (Int × gi_H)
  | 0, _, _, _, _, _, _, _, _ => none
  | k + 1, v0, v1, v2, v3, v4, v5, v6, h => b_X1_ofProduction_5_27 n  (l_X1_ofProduction_5_27 n  k) v0 v1 v2 v3 v4 v5 v6 h
theorem zl_X1_ofProduction_5_27 {al : Bool} {n : Nat}  {res : Int} {h1 : gi_H}  : ∀ (k : Nat) (v0 : Nat) (v1 : Int) (v2 : Int) (v3 : Int) (v4 : Int) (v5 : Int) (v6 : Int) (h : gi_H), l_X1_ofProduction_5_27 n  k v0 v1 v2 v3 v4 v5 v6 h = some (res, h1) → gx_Z mX1_ofProduction al al 0 0 27 [(0, .ref v0), (1, .int (gI v1)), (2, .int (gI v2)), (3, .int (gI v3)), (4, .int (gI v4)), (5, .int (gI v5)), (6, .int (gI v6))] [] (gi_cv h) (.inl (some (.int (gI res)))) (gi_cv h1)
  | 0, _, _, _, _, _, _, _, _, e => gx_0E e
  | k + 1, _, _, _, _, _, _, _, _, e => zb_X1_ofProduction_5_27 (n := n)  (zl_X1_ofProduction_5_27  k) e
set_option maxRecDepth 100000 in
def f_X1_ofProduction_5 (n : Nat) (v0 : Nat) (v1 : Int) (v2 : Int) (v3 : Int) (h : gi_H) : Option (Int × gi_H) :=
  gx_nm (v1 * (6 : Int)) fun t1 => Option.bind (gi_is h v0 5) fun _ => Option.bind (f_X6_blank v0 v2 v3 h) fun q3 => Option.bind (gi_is h v0 5) fun _ => Option.bind (f_X1_setPart_5 v0 t1 v2 v3 q3 h) fun q5 => l_X1_ofProduction_5_27 n  n v0 v1 v2 v3 t1 q3 (0 : Int) q5
set_option maxRecDepth 100000 in
theorem z_X1_ofProduction_5 {al : Bool} {n : Nat} {v0 : Nat} {v1 : Int} {v2 : Int} {v3 : Int} {h : gi_H} {res : Int} {h1 : gi_H} (e : f_X1_ofProduction_5 n v0 v1 v2 v3 h = some (res, h1)) : gx_Cw mX1_ofProduction al [.ref v0, .int (gI v1), .int (gI v2), .int (gI v3)] (gi_cv h) (.inl (some (.int (gI res)))) (gi_cv h1) := by
  refine gx_enter (by decide +kernel) rfl (Nat.le_of_ble_eq_true rfl) ?_
  show gx_Z mX1_ofProduction al al 0 0 0 [(0, .ref v0), (1, .int (gI v1)), (2, .int (gI v2)), (3, .int (gI v3))] [] (gi_cv h) (.inl (some (.int (gI res)))) (gi_cv h1)
  refine gx_iload_n dX1_ofProduction_0 rfl 1 rfl ?_
  refine gy_bipush dX1_ofProduction_1 gcb_6 ?_
  refine gy_imul dX1_ofProduction_3 ?_
  refine gx_nE e (fun t1 ht1 e => ?_)
  rw [ht1]
  refine gx_istore (ls2 := [(4, .int (gI t1)), (0, .ref v0), (1, .int (gI v1)), (2, .int (gI v2)), (3, .int (gI v3))]) dX1_ofProduction_4 (Nat.le_of_ble_eq_true rfl) rfl ?_
  refine gx_aload_n dX1_ofProduction_6 rfl 1 rfl ?_
  refine gx_iload_n dX1_ofProduction_7 rfl 3 rfl ?_
  refine gx_iload_n dX1_ofProduction_8 rfl 4 rfl ?_
  refine gx_bE e (fun _ hu2 e => ?_)
  refine gx_bE e (fun q3 hq3 e => ?_)
  refine gx_callA (n := 2) (st := []) (As := [.int (gI v2), .int (gI v3)]) (b := v0) dX1_ofProduction_9 (z_X6_blank hq3) rfl ⟨rfl, gw_cw_X6_blank, gw_13, gp_X6_blank, ⟨Nat.le_of_ble_eq_true rfl, Nat.le_of_ble_eq_true rfl⟩⟩ (gi_isS hu2) (by decide) (x := ⟨"Grammarsmith$Chart", "blank", "(II)I"⟩) (owner := "Grammarsmith$Chart") gw_562 gw_564 gw_568 gw_569 (by decide +kernel) (by decide +kernel) ⟨Nat.le_of_ble_eq_true rfl, Nat.le_of_ble_eq_true rfl⟩ (Nat.le_of_ble_eq_true rfl) (gy_k1 (x := .int (gI q3)) (kc2 := 0) (ks2 := 0) ⟨rfl, rfl⟩ ?_) gy_kn
  refine gx_istore (ls2 := [(5, .int (gI q3)), (4, .int (gI t1)), (0, .ref v0), (1, .int (gI v1)), (2, .int (gI v2)), (3, .int (gI v3))]) dX1_ofProduction_12 (Nat.le_of_ble_eq_true rfl) rfl ?_
  refine gx_aload_n dX1_ofProduction_14 rfl 2 rfl ?_
  refine gx_iload dX1_ofProduction_15 1 rfl ?_
  refine gx_iload_n dX1_ofProduction_17 rfl 4 rfl ?_
  refine gx_iload_n dX1_ofProduction_18 rfl 5 rfl ?_
  refine gx_iload dX1_ofProduction_19 0 rfl ?_
  refine gx_bE e (fun _ hu4 e => ?_)
  refine gx_bE e (fun q5 hq5 e => ?_)
  refine gx_callU (n := 4) (st := []) (As := [.int (gI t1), .int (gI v2), .int (gI v3), .int (gI q3)]) (b := v0) dX1_ofProduction_21 (z_X1_setPart_5 hq5) rfl ⟨rfl, gw_cw_X1_setPart, gw_11, gp_X1_setPart, ⟨Nat.le_of_ble_eq_true rfl, Nat.le_of_ble_eq_true rfl⟩⟩ (gi_isS hu4) (by decide) (x := ⟨"Grammarsmith$Chart", "setPart", "(IIII)V"⟩) (owner := "Grammarsmith$Chart") gw_571 gw_1336 gz_1_setPart gw_573 rfl (by decide +kernel) ⟨Nat.le_of_ble_eq_true rfl, Nat.le_of_ble_eq_true rfl⟩ (Nat.le_of_ble_eq_true rfl) (gy_k0 (kc2 := 0) (ks2 := 0) ⟨rfl, rfl⟩ ?_) gy_kn
  refine gy_iconst dX1_ofProduction_24 ?_
  refine gx_istore (ls2 := [(6, .int (gI (0 : Int))), (5, .int (gI q3)), (4, .int (gI t1)), (0, .ref v0), (1, .int (gI v1)), (2, .int (gI v2)), (3, .int (gI v3))]) dX1_ofProduction_25 (Nat.le_of_ble_eq_true rfl) rfl ?_
  refine gx_sub (ls2 := [(0, .ref v0), (1, .int (gI v1)), (2, .int (gI v2)), (3, .int (gI v3)), (4, .int (gI t1)), (5, .int (gI q3)), (6, .int (gI (0 : Int)))]) [3, 4, 5, 6, 2, 1, 0] rfl ?_
  exact zl_X1_ofProduction_5_27  n _ _ _ _ _ _ _ _ e
/-! X6_ofNonterminal  -/
set_option maxRecDepth 100000 in
def f_X6_ofNonterminal (v0 : Nat) (v1 : Int) (v2 : Int) (h : gi_H) : Option (Int) :=
  some v2
set_option maxRecDepth 100000 in
theorem z_X6_ofNonterminal {al : Bool} {v0 : Nat} {v1 : Int} {v2 : Int} {h : gi_H} {res : Int} (e : f_X6_ofNonterminal v0 v1 v2 h = some res) : gx_Cw mX6_ofNonterminal al [.ref v0, .int (gI v1), .int (gI v2)] (gi_cv h) (.inl (some (.int (gI res)))) (gi_cv h) := by
  refine gx_enter (by decide +kernel) rfl (Nat.le_of_ble_eq_true rfl) ?_
  show gx_Z mX6_ofNonterminal al al 0 0 0 [(0, .ref v0), (1, .int (gI v1)), (2, .int (gI v2))] [] (gi_cv h) (.inl (some (.int (gI res)))) (gi_cv h)
  refine gx_iload_n dX6_ofNonterminal_0 rfl 2 rfl ?_
  cases e
  exact gx_iret dX6_ofNonterminal_1 rfl ⟨Nat.le_of_ble_eq_true rfl, Nat.le_of_ble_eq_true rfl⟩ (fun z => z)
