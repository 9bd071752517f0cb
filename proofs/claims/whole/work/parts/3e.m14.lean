/-! X1_part 5 -/
set_option maxRecDepth 100000 in
def b_X1_part_5_33  (v0 : Nat)  (h : gi_H) : Option (Int) :=
  Option.bind (gi_is h v0 5) fun _ => Option.bind (f_X6_none v0 h) fun q5 => some q5
set_option maxRecDepth 100000 in
theorem zb_X1_part_5_33 {al : Bool}  {res : Int}  {v0 : Nat}  {h : gi_H} (e : b_X1_part_5_33 v0 h = some res) : gx_Z mX1_part al al 0 0 33 [(0, .ref v0)] [] (gi_cv h) (.inl (some (.int (gI res)))) (gi_cv h) := by
  refine gx_aload_n dX1_part_33 rfl 0 rfl ?_
  refine gx_bE e (fun _ hu4 e => ?_)
  refine gx_bE e (fun q5 hq5 e => ?_)
  refine gx_callA (n := 0) (st := []) (As := []) (b := v0) dX1_part_34 (z_X6_none hq5) rfl ⟨rfl, gw_cw_X6_none, gw_13, gp_X6_none, ⟨Nat.le_of_ble_eq_true rfl, Nat.le_of_ble_eq_true rfl⟩⟩ (gi_isS hu4) (by decide) (x := ⟨"Grammarsmith$Chart", "none", "()I"⟩) (owner := "Grammarsmith$Chart") gw_709 gw_711 gw_715 gw_716 (by decide +kernel) (by decide +kernel) ⟨Nat.le_of_ble_eq_true rfl, Nat.le_of_ble_eq_true rfl⟩ (Nat.le_of_ble_eq_true rfl) (gy_k1 (x := .int (gI q5)) (kc2 := 0) (ks2 := 0) ⟨rfl, rfl⟩ ?_) gy_kn
  cases e
  exact gx_iret dX1_part_37 rfl ⟨Nat.le_of_ble_eq_true rfl, Nat.le_of_ble_eq_true rfl⟩ (fun z => z)
set_option maxRecDepth 100000 in
def f_X1_part_5 (v0 : Nat) (v1 : Int) (v2 : Int) (v3 : Int) (h : gi_H) : Option (Int) :=
  Option.bind (f_X1_cell_5 v1 v2 v3 h) fun q1 => Option.bind (gi_rg q1) fun _ => if q1 < 0 then (b_X1_part_5_33  v0 h) else (Option.bind (gi_gR h v0 5 3) fun t6 => Option.bind (gi_ln h t6) fun t7 => Option.bind (gi_rg t7) fun _ => if t7 ≤ q1 then (b_X1_part_5_33  v0 h) else (Option.bind (gi_gR h v0 5 3) fun t10 => Option.bind (gi_aI h 1 t10 q1) fun t11 => some t11))
set_option maxRecDepth 100000 in
theorem z_X1_part_5 {al : Bool} {v0 : Nat} {v1 : Int} {v2 : Int} {v3 : Int} {h : gi_H} {res : Int} (e : f_X1_part_5 v0 v1 v2 v3 h = some res) : gx_Cw mX1_part al [.ref v0, .int (gI v1), .int (gI v2), .int (gI v3)] (gi_cv h) (.inl (some (.int (gI res)))) (gi_cv h) := by
  refine gx_enter (by decide +kernel) rfl (Nat.le_of_ble_eq_true rfl) ?_
  show gx_Z mX1_part al al 0 0 0 [(0, .ref v0), (1, .int (gI v1)), (2, .int (gI v2)), (3, .int (gI v3))] [] (gi_cv h) (.inl (some (.int (gI res)))) (gi_cv h)
  refine gx_iload_n dX1_part_0 rfl 1 rfl ?_
  refine gx_iload_n dX1_part_1 rfl 2 rfl ?_
  refine gx_iload_n dX1_part_2 rfl 3 rfl ?_
  refine gx_bE e (fun q1 hq1 e => ?_)
  refine gx_callS (n := 3) (st := []) (As := [.int (gI v1), .int (gI v2), .int (gI v3)]) dX1_part_3 (z_X1_cell_5 hq1) rfl ⟨rfl, gw_cw_X1_cell, gw_11, gp_X1_cell, ⟨Nat.le_of_ble_eq_true rfl, Nat.le_of_ble_eq_true rfl⟩⟩ gw_722 gw_723 ⟨Nat.le_of_ble_eq_true rfl, Nat.le_of_ble_eq_true rfl⟩ (Nat.le_of_ble_eq_true rfl) (gy_k1 (x := .int (gI q1)) (kc2 := 0) (ks2 := 0) ⟨rfl, rfl⟩ ?_) gy_kn
  refine gx_istore (ls2 := [(4, .int (gI q1)), (0, .ref v0), (1, .int (gI v1)), (2, .int (gI v2)), (3, .int (gI v3))]) dX1_part_6 (Nat.le_of_ble_eq_true rfl) rfl ?_
  refine gx_iload dX1_part_8 0 rfl ?_
  refine gx_bE e (fun _ g2 e => ?_)
  refine gx_iE e (fun c3 e => ?_) (fun c3 e => ?_)
  · refine gy_if_lt (tgt := 33) (gi_rgS g2) dX1_part_10 (by decide) (fun _ => ?_) (fun z => absurd c3 z)
    refine gx_sub (ls2 := [(0, .ref v0)]) [1] rfl ?_
    exact zb_X1_part_5_33  e
  · refine gy_if_lt (tgt := 33) (gi_rgS g2) dX1_part_10 (by decide) (fun z => absurd z c3) (fun _ => ?_)
    refine gx_iload dX1_part_13 0 rfl ?_
    refine gx_aload_n dX1_part_15 rfl 1 rfl ?_
    refine gx_bE e (fun t6 ht6 e => ?_)
    refine gy_fR ht6 dX1_part_16 gf_RX1_25_5_3 (by decide) gkN_5_3 gkR_5_3 ?_
    refine gx_bE e (fun t7 ht7 e => ?_)
    refine gy_al0 ht7 dX1_part_19 ?_
    refine gx_bE e (fun _ g8 e => ?_)
    refine gx_iE e (fun c9 e => ?_) (fun c9 e => ?_)
    · refine gy_icmp_ge (tgt := 33) (gi_rgS g2) (gi_rgS g8) dX1_part_20 (by decide) (fun _ => ?_) (fun z => absurd c9 z)
      refine gx_sub (ls2 := [(0, .ref v0)]) [1] rfl ?_
      exact zb_X1_part_5_33  e
    · refine gy_icmp_ge (tgt := 33) (gi_rgS g2) (gi_rgS g8) dX1_part_20 (by decide) (fun z => absurd z c9) (fun _ => ?_)
      refine gx_aload_n dX1_part_23 rfl 1 rfl ?_
      refine gx_bE e (fun t10 ht10 e => ?_)
      refine gy_fR ht10 dX1_part_24 gf_RX1_25_5_3 (by decide) gkN_5_3 gkR_5_3 ?_
      refine gx_iload dX1_part_27 0 rfl ?_
      refine gx_bE e (fun t11 ht11 e => ?_)
      refine gy_l1 ht11 dX1_part_29 ?_
      refine gx_goto (tgt := 37) dX1_part_30 (by decide) ?_
      cases e
      exact gx_iret dX1_part_37 rfl ⟨Nat.le_of_ble_eq_true rfl, Nat.le_of_ble_eq_true rfl⟩ (fun z => z)
/-! X1_look 5 -/
set_option maxRecDepth 100000 in
def b_X1_look_5_22    (h : gi_H) : Option (Int) :=
  some (8 : Int)
set_option maxRecDepth 100000 in
theorem zb_X1_look_5_22 {al : Bool}  {res : Int}    {h : gi_H} (e : b_X1_look_5_22  h = some res) : gx_Z mX1_look al al 0 0 22 [] [] (gi_cv h) (.inl (some (.int (gI res)))) (gi_cv h) := by
  refine gy_bipush dX1_look_22 gcb_8 ?_
  cases e
  exact gx_iret dX1_look_24 rfl ⟨Nat.le_of_ble_eq_true rfl, Nat.le_of_ble_eq_true rfl⟩ (fun z => z)
set_option maxRecDepth 100000 in
def f_X1_look_5 (v0 : Nat) (v1 : Int) (h : gi_H) : Option (Int) :=
  Option.bind (gi_rg v1) fun _ => if v1 < 0 then (b_X1_look_5_22   h) else (Option.bind (gi_gR h v0 5 1) fun t3 => Option.bind (gi_ln h t3) fun t4 => Option.bind (gi_rg t4) fun _ => if t4 ≤ v1 then (b_X1_look_5_22   h) else (Option.bind (gi_gR h v0 5 1) fun t7 => Option.bind (gi_aI h 1 t7 v1) fun t8 => some t8))
set_option maxRecDepth 100000 in
theorem z_X1_look_5 {al : Bool} {v0 : Nat} {v1 : Int} {h : gi_H} {res : Int} (e : f_X1_look_5 v0 v1 h = some res) : gx_Cw mX1_look al [.ref v0, .int (gI v1)] (gi_cv h) (.inl (some (.int (gI res)))) (gi_cv h) := by
  refine gx_enter (by decide +kernel) rfl (Nat.le_of_ble_eq_true rfl) ?_
  show gx_Z mX1_look al al 0 0 0 [(0, .ref v0), (1, .int (gI v1))] [] (gi_cv h) (.inl (some (.int (gI res)))) (gi_cv h)
  refine gx_iload_n dX1_look_0 rfl 1 rfl ?_
  refine gx_bE e (fun _ g1 e => ?_)
  refine gx_iE e (fun c2 e => ?_) (fun c2 e => ?_)
  · refine gy_if_lt (tgt := 22) (gi_rgS g1) dX1_look_1 (by decide) (fun _ => ?_) (fun z => absurd c2 z)
    refine gx_sub (ls2 := []) [] rfl ?_
    exact zb_X1_look_5_22  e
  · refine gy_if_lt (tgt := 22) (gi_rgS g1) dX1_look_1 (by decide) (fun z => absurd z c2) (fun _ => ?_)
    refine gx_iload_n dX1_look_4 rfl 1 rfl ?_
    refine gx_aload_n dX1_look_5 rfl 0 rfl ?_
    refine gx_bE e (fun t3 ht3 e => ?_)
    refine gy_fR ht3 dX1_look_6 gf_RX1_19_5_1 (by decide) gkN_5_1 gkR_5_1 ?_
    refine gx_bE e (fun t4 ht4 e => ?_)
    refine gy_al0 ht4 dX1_look_9 ?_
    refine gx_bE e (fun _ g5 e => ?_)
    refine gx_iE e (fun c6 e => ?_) (fun c6 e => ?_)
    · refine gy_icmp_ge (tgt := 22) (gi_rgS g1) (gi_rgS g5) dX1_look_10 (by decide) (fun _ => ?_) (fun z => absurd c6 z)
      refine gx_sub (ls2 := []) [] rfl ?_
      exact zb_X1_look_5_22  e
    · refine gy_icmp_ge (tgt := 22) (gi_rgS g1) (gi_rgS g5) dX1_look_10 (by decide) (fun z => absurd z c6) (fun _ => ?_)
      refine gx_aload_n dX1_look_13 rfl 0 rfl ?_
      refine gx_bE e (fun t7 ht7 e => ?_)
      refine gy_fR ht7 dX1_look_14 gf_RX1_19_5_1 (by decide) gkN_5_1 gkR_5_1 ?_
      refine gx_iload_n dX1_look_17 rfl 1 rfl ?_
      refine gx_bE e (fun t8 ht8 e => ?_)
      refine gy_l1 ht8 dX1_look_18 ?_
      refine gx_goto (tgt := 24) dX1_look_19 (by decide) ?_
      cases e
      exact gx_iret dX1_look_24 rfl ⟨Nat.le_of_ble_eq_true rfl, Nat.le_of_ble_eq_true rfl⟩ (fun z => z)
/-! X6_ofTerminal  -/
set_option maxRecDepth 100000 in
def b_X6_ofTerminal_38 (n : Nat)  (v2 : Int) (v3 : Int)  (h : gi_H) : Option (Int) :=
  some (v3 - v2)
set_option maxRecDepth 100000 in
theorem zb_X6_ofTerminal_38 {al : Bool} {n : Nat}  {res : Int}  {v2 : Int} {v3 : Int}  {h : gi_H} (e : b_X6_ofTerminal_38 n v2 v3 h = some res) : gx_Z mX6_ofTerminal al al 0 0 38 [(2, .int (gI v2)), (3, .int (gI v3))] [] (gi_cv h) (.inl (some (.int (gI res)))) (gi_cv h) := by
  refine gx_iload_n dX6_ofTerminal_38 rfl 1 rfl ?_
  refine gx_iload_n dX6_ofTerminal_39 rfl 0 rfl ?_
  refine gy_isub dX6_ofTerminal_40 ?_
  cases e
  exact gx_iret dX6_ofTerminal_41 rfl ⟨Nat.le_of_ble_eq_true rfl, Nat.le_of_ble_eq_true rfl⟩ (fun z => z)
set_option maxRecDepth 100000 in
def b_X6_ofTerminal_26 (n : Nat)  (v2 : Int) (v3 : Int)  (h : gi_H) : Option (Int) :=
  some ((v3 - v2) - (1 : Int))
set_option maxRecDepth 100000 in
theorem zb_X6_ofTerminal_26 {al : Bool} {n : Nat}  {res : Int}  {v2 : Int} {v3 : Int}  {h : gi_H} (e : b_X6_ofTerminal_26 n v2 v3 h = some res) : gx_Z mX6_ofTerminal al al 0 0 26 [(2, .int (gI v2)), (3, .int (gI v3))] [] (gi_cv h) (.inl (some (.int (gI res)))) (gi_cv h) := by
  refine gx_iload_n dX6_ofTerminal_26 rfl 1 rfl ?_
  refine gx_iload_n dX6_ofTerminal_27 rfl 0 rfl ?_
  refine gy_isub dX6_ofTerminal_28 ?_
  refine gy_iconst dX6_ofTerminal_29 ?_
  refine gy_isub dX6_ofTerminal_30 ?_
  cases e
  exact gx_iret dX6_ofTerminal_31 rfl ⟨Nat.le_of_ble_eq_true rfl, Nat.le_of_ble_eq_true rfl⟩ (fun z => z)
set_option maxRecDepth 100000 in
def b_X6_ofTerminal_10 (n : Nat) (r10 : Nat → Int → Int → Int → Int → gi_H → Option (Int)) (v0 : Nat) (v1 : Int) (v2 : Int) (v3 : Int) (v4 : Int)  (h : gi_H) : Option (Int) :=
  Option.bind (gi_rg v4) fun _ => Option.bind (gi_rg v3) fun _ => if v3 ≤ v4 then (b_X6_ofTerminal_38 n  v2 v3 h) else (Option.bind (gi_is h v0 5) fun _ => Option.bind (f_X1_look_5 v0 v4 h) fun q8 => Option.bind (gi_rg q8) fun _ => Option.bind (gi_rg v1) fun _ => if q8 = v1 then (b_X6_ofTerminal_26 n  v2 v3 h) else (gx_nm (v4 + (1 : Int)) fun t12 => r10 v0 v1 v2 v3 t12 h))
set_option maxRecDepth 100000 in
theorem zb_X6_ofTerminal_10 {al : Bool} {n : Nat} {r10 : Nat → Int → Int → Int → Int → gi_H → Option (Int)} {res : Int} (hr10 : ∀ (x0 : Nat) (x1 : Int) (x2 : Int) (x3 : Int) (x4 : Int) (hh : gi_H), r10 x0 x1 x2 x3 x4 hh = some res → gx_Z mX6_ofTerminal al al 0 0 10 [(0, .ref x0), (1, .int (gI x1)), (2, .int (gI x2)), (3, .int (gI x3)), (4, .int (gI x4))] [] (gi_cv hh) (.inl (some (.int (gI res)))) (gi_cv hh)) {v0 : Nat} {v1 : Int} {v2 : Int} {v3 : Int} {v4 : Int}  {h : gi_H} (e : b_X6_ofTerminal_10 n r10 v0 v1 v2 v3 v4 h = some res) : gx_Z mX6_ofTerminal al al 0 0 10 [(0, .ref v0), (1, .int (gI v1)), (2, .int (gI v2)), (3, .int (gI v3)), (4, .int (gI v4))] [] (gi_cv h) (.inl (some (.int (gI res)))) (gi_cv h) := by
  refine gx_iload dX6_ofTerminal_10 4 rfl ?_
  refine gx_iload_n dX6_ofTerminal_12 rfl 3 rfl ?_
  refine gx_bE e (fun _ g4 e => ?_)
  refine gx_bE e (fun _ g5 e => ?_)
  refine gx_iE e (fun c6 e => ?_) (fun c6 e => ?_)
  · refine gy_icmp_ge (tgt := 38) (gi_rgS g4) (gi_rgS g5) dX6_ofTerminal_13 (by decide) (fun _ => ?_) (fun z => absurd c6 z)
    refine gx_sub (ls2 := [(2, .int (gI v2)), (3, .int (gI v3))]) [2, 3] rfl ?_
    exact zb_X6_ofTerminal_38  e
  · refine gy_icmp_ge (tgt := 38) (gi_rgS g4) (gi_rgS g5) dX6_ofTerminal_13 (by decide) (fun z => absurd z c6) (fun _ => ?_)
    refine gx_aload_n dX6_ofTerminal_16 rfl 0 rfl ?_
    refine gx_iload dX6_ofTerminal_17 4 rfl ?_
    refine gx_bE e (fun _ hu7 e => ?_)
    refine gx_bE e (fun q8 hq8 e => ?_)
    refine gx_callU (n := 1) (st := []) (As := [.int (gI v4)]) (b := v0) dX6_ofTerminal_19 (z_X1_look_5 hq8) rfl ⟨rfl, gw_cw_X1_look, gw_11, gp_X1_look, ⟨Nat.le_of_ble_eq_true rfl, Nat.le_of_ble_eq_true rfl⟩⟩ (gi_isS hu7) (by decide) (x := ⟨"Grammarsmith$RepairingChart", "look", "(I)I"⟩) (owner := "Grammarsmith$Chart") gw_773 gw_774 gw_775 gw_768 rfl (by decide +kernel) ⟨Nat.le_of_ble_eq_true rfl, Nat.le_of_ble_eq_true rfl⟩ (Nat.le_of_ble_eq_true rfl) (gy_k1 (x := .int (gI q8)) (kc2 := 0) (ks2 := 0) ⟨rfl, rfl⟩ ?_) gy_kn
    refine gx_iload_n dX6_ofTerminal_22 rfl 1 rfl ?_
    refine gx_bE e (fun _ g9 e => ?_)
    refine gx_bE e (fun _ g10 e => ?_)
    refine gx_iE e (fun c11 e => ?_) (fun c11 e => ?_)
    · refine gy_icmp_ne (tgt := 32) (gi_rgS g9) (gi_rgS g10) dX6_ofTerminal_23 (by decide) (fun z => absurd c11 z) (fun _ => ?_)
      refine gx_sub (ls2 := [(2, .int (gI v2)), (3, .int (gI v3))]) [2, 3] rfl ?_
      exact zb_X6_ofTerminal_26  e
    · refine gy_icmp_ne (tgt := 32) (gi_rgS g9) (gi_rgS g10) dX6_ofTerminal_23 (by decide) (fun _ => ?_) (fun z => absurd z c11)
      refine gx_nE e (fun t12 ht12 e => ?_)
      refine gy_iinc (v := t12) (ls2 := [(4, .int (gI t12)), (0, .ref v0), (1, .int (gI v1)), (2, .int (gI v2)), (3, .int (gI v3))]) dX6_ofTerminal_32 4 rfl ht12 (Nat.le_of_ble_eq_true rfl) rfl ?_
      refine gx_goto (tgt := 10) dX6_ofTerminal_35 (by decide) ?_
      refine gx_sub (ls2 := [(0, .ref v0), (1, .int (gI v1)), (2, .int (gI v2)), (3, .int (gI v3)), (4, .int (gI t12))]) [1, 2, 3, 4, 0] rfl ?_
      exact hr10 _ _ _ _ _ _ e
def l_X6_ofTerminal_10 (n : Nat)  : Nat → Nat → Int → Int → Int → Int → gi_H → Option (Int)
  | 0, _, _, _, _, _, _ => none
  | k + 1, v0, v1, v2, v3, v4, h => b_X6_ofTerminal_10 n  (l_X6_ofTerminal_10 n  k) v0 v1 v2 v3 v4 h
theorem zl_X6_ofTerminal_10 {al : Bool} {n : Nat}  {res : Int}  : ∀ (k : Nat) (v0 : Nat) (v1 : Int) (v2 : Int) (v3 : Int) (v4 : Int) (h : gi_H), l_X6_ofTerminal_10 n  k v0 v1 v2 v3 v4 h = some res → gx_Z mX6_ofTerminal al al 0 0 10 [(0, .ref v0), (1, .int (gI v1)), (2, .int (gI v2)), (3, .int (gI v3)), (4, .int (gI v4))] [] (gi_cv h) (.inl (some (.int (gI res)))) (gi_cv h)
  | 0, _, _, _, _, _, _, e => gx_0E e
  | k + 1, _, _, _, _, _, _, e => zb_X6_ofTerminal_10 (n := n)  (zl_X6_ofTerminal_10  k) e
set_option maxRecDepth 100000 in
def f_X6_ofTerminal (n : Nat) (v0 : Nat) (v1 : Int) (v2 : Int) (v3 : Int) (h : gi_H) : Option (Int) :=
  Option.bind (gi_rg v2) fun _ => Option.bind (gi_rg v3) fun _ => if v2 = v3 then (some (1 : Int)) else (l_X6_ofTerminal_10 n  n v0 v1 v2 v3 v2 h)
set_option maxRecDepth 100000 in
theorem z_X6_ofTerminal {al : Bool} {n : Nat} {v0 : Nat} {v1 : Int} {v2 : Int} {v3 : Int} {h : gi_H} {res : Int} (e : f_X6_ofTerminal n v0 v1 v2 v3 h = some res) : gx_Cw mX6_ofTerminal al [.ref v0, .int (gI v1), .int (gI v2), .int (gI v3)] (gi_cv h) (.inl (some (.int (gI res)))) (gi_cv h) := by
  refine gx_enter (by decide +kernel) rfl (Nat.le_of_ble_eq_true rfl) ?_
  show gx_Z mX6_ofTerminal al al 0 0 0 [(0, .ref v0), (1, .int (gI v1)), (2, .int (gI v2)), (3, .int (gI v3))] [] (gi_cv h) (.inl (some (.int (gI res)))) (gi_cv h)
  refine gx_iload_n dX6_ofTerminal_0 rfl 2 rfl ?_
  refine gx_iload_n dX6_ofTerminal_1 rfl 3 rfl ?_
  refine gx_bE e (fun _ g1 e => ?_)
  refine gx_bE e (fun _ g2 e => ?_)
  refine gx_iE e (fun c3 e => ?_) (fun c3 e => ?_)
  · refine gy_icmp_ne (tgt := 7) (gi_rgS g1) (gi_rgS g2) dX6_ofTerminal_2 (by decide) (fun z => absurd c3 z) (fun _ => ?_)
    refine gy_iconst dX6_ofTerminal_5 ?_
    cases e
    exact gx_iret dX6_ofTerminal_6 rfl ⟨Nat.le_of_ble_eq_true rfl, Nat.le_of_ble_eq_true rfl⟩ (fun z => z)
  · refine gy_icmp_ne (tgt := 7) (gi_rgS g1) (gi_rgS g2) dX6_ofTerminal_2 (by decide) (fun _ => ?_) (fun z => absurd z c3)
    refine gx_iload_n dX6_ofTerminal_7 rfl 2 rfl ?_
    refine gx_istore (ls2 := [(4, .int (gI v2)), (0, .ref v0), (1, .int (gI v1)), (2, .int (gI v2)), (3, .int (gI v3))]) dX6_ofTerminal_8 (Nat.le_of_ble_eq_true rfl) rfl ?_
    refine gx_sub (ls2 := [(0, .ref v0), (1, .int (gI v1)), (2, .int (gI v2)), (3, .int (gI v3)), (4, .int (gI v2))]) [1, 2, 3, 4, 0] rfl ?_
    exact zl_X6_ofTerminal_10  n _ _ _ _ _ _ e
/-! X1_whole 5 -/
set_option maxRecDepth 100000 in
def b_X1_whole_5_33  (v0 : Nat)  (h : gi_H) : Option (Int) :=
  Option.bind (gi_is h v0 5) fun _ => Option.bind (f_X6_none v0 h) fun q5 => some q5
set_option maxRecDepth 100000 in
theorem zb_X1_whole_5_33 {al : Bool}  {res : Int}  {v0 : Nat}  {h : gi_H} (e : b_X1_whole_5_33 v0 h = some res) : gx_Z mX1_whole al al 0 0 33 [(0, .ref v0)] [] (gi_cv h) (.inl (some (.int (gI res)))) (gi_cv h) := by
  refine gx_aload_n dX1_whole_33 rfl 0 rfl ?_
  refine gx_bE e (fun _ hu4 e => ?_)
  refine gx_bE e (fun q5 hq5 e => ?_)
  refine gx_callA (n := 0) (st := []) (As := []) (b := v0) dX1_whole_34 (z_X6_none hq5) rfl ⟨rfl, gw_cw_X6_none, gw_13, gp_X6_none, ⟨Nat.le_of_ble_eq_true rfl, Nat.le_of_ble_eq_true rfl⟩⟩ (gi_isS hu4) (by decide) (x := ⟨"Grammarsmith$Chart", "none", "()I"⟩) (owner := "Grammarsmith$Chart") gw_709 gw_711 gw_715 gw_716 (by decide +kernel) (by decide +kernel) ⟨Nat.le_of_ble_eq_true rfl, Nat.le_of_ble_eq_true rfl⟩ (Nat.le_of_ble_eq_true rfl) (gy_k1 (x := .int (gI q5)) (kc2 := 0) (ks2 := 0) ⟨rfl, rfl⟩ ?_) gy_kn
  cases e
  exact gx_iret dX1_whole_37 rfl ⟨Nat.le_of_ble_eq_true rfl, Nat.le_of_ble_eq_true rfl⟩ (fun z => z)
set_option maxRecDepth 100000 in
def f_X1_whole_5 (v0 : Nat) (v1 : Int) (v2 : Int) (v3 : Int) (h : gi_H) : Option (Int) :=
  Option.bind (f_X1_cell_5 v1 v2 v3 h) fun q1 => Option.bind (gi_rg q1) fun _ => if q1 < 0 then (b_X1_whole_5_33  v0 h) else (Option.bind (gi_gR h v0 5 2) fun t6 => Option.bind (gi_ln h t6) fun t7 => Option.bind (gi_rg t7) fun _ => if t7 ≤ q1 then (b_X1_whole_5_33  v0 h) else (Option.bind (gi_gR h v0 5 2) fun t10 => Option.bind (gi_aI h 1 t10 q1) fun t11 => some t11))
set_option maxRecDepth 100000 in
theorem z_X1_whole_5 {al : Bool} {v0 : Nat} {v1 : Int} {v2 : Int} {v3 : Int} {h : gi_H} {res : Int} (e : f_X1_whole_5 v0 v1 v2 v3 h = some res) : gx_Cw mX1_whole al [.ref v0, .int (gI v1), .int (gI v2), .int (gI v3)] (gi_cv h) (.inl (some (.int (gI res)))) (gi_cv h) := by
  refine gx_enter (by decide +kernel) rfl (Nat.le_of_ble_eq_true rfl) ?_
  show gx_Z mX1_whole al al 0 0 0 [(0, .ref v0), (1, .int (gI v1)), (2, .int (gI v2)), (3, .int (gI v3))] [] (gi_cv h) (.inl (some (.int (gI res)))) (gi_cv h)
  refine gx_iload_n dX1_whole_0 rfl 1 rfl ?_
  refine gx_iload_n dX1_whole_1 rfl 2 rfl ?_
  refine gx_iload_n dX1_whole_2 rfl 3 rfl ?_
  refine gx_bE e (fun q1 hq1 e => ?_)
  refine gx_callS (n := 3) (st := []) (As := [.int (gI v1), .int (gI v2), .int (gI v3)]) dX1_whole_3 (z_X1_cell_5 hq1) rfl ⟨rfl, gw_cw_X1_cell, gw_11, gp_X1_cell, ⟨Nat.le_of_ble_eq_true rfl, Nat.le_of_ble_eq_true rfl⟩⟩ gw_722 gw_723 ⟨Nat.le_of_ble_eq_true rfl, Nat.le_of_ble_eq_true rfl⟩ (Nat.le_of_ble_eq_true rfl) (gy_k1 (x := .int (gI q1)) (kc2 := 0) (ks2 := 0) ⟨rfl, rfl⟩ ?_) gy_kn
  refine gx_istore (ls2 := [(4, .int (gI q1)), (0, .ref v0), (1, .int (gI v1)), (2, .int (gI v2)), (3, .int (gI v3))]) dX1_whole_6 (Nat.le_of_ble_eq_true rfl) rfl ?_
  refine gx_iload dX1_whole_8 0 rfl ?_
  refine gx_bE e (fun _ g2 e => ?_)
  refine gx_iE e (fun c3 e => ?_) (fun c3 e => ?_)
  · refine gy_if_lt (tgt := 33) (gi_rgS g2) dX1_whole_10 (by decide) (fun _ => ?_) (fun z => absurd c3 z)
    refine gx_sub (ls2 := [(0, .ref v0)]) [1] rfl ?_
    exact zb_X1_whole_5_33  e
  · refine gy_if_lt (tgt := 33) (gi_rgS g2) dX1_whole_10 (by decide) (fun z => absurd z c3) (fun _ => ?_)
    refine gx_iload dX1_whole_13 0 rfl ?_
    refine gx_aload_n dX1_whole_15 rfl 1 rfl ?_
    refine gx_bE e (fun t6 ht6 e => ?_)
    refine gy_fR ht6 dX1_whole_16 gf_RX1_22_5_2 (by decide) gkN_5_2 gkR_5_2 ?_
    refine gx_bE e (fun t7 ht7 e => ?_)
    refine gy_al0 ht7 dX1_whole_19 ?_
    refine gx_bE e (fun _ g8 e => ?_)
    refine gx_iE e (fun c9 e => ?_) (fun c9 e => ?_)
    · refine gy_icmp_ge (tgt := 33) (gi_rgS g2) (gi_rgS g8) dX1_whole_20 (by decide) (fun _ => ?_) (fun z => absurd c9 z)
      refine gx_sub (ls2 := [(0, .ref v0)]) [1] rfl ?_
      exact zb_X1_whole_5_33  e
    · refine gy_icmp_ge (tgt := 33) (gi_rgS g2) (gi_rgS g8) dX1_whole_20 (by decide) (fun z => absurd z c9) (fun _ => ?_)
      refine gx_aload_n dX1_whole_23 rfl 1 rfl ?_
      refine gx_bE e (fun t10 ht10 e => ?_)
      refine gy_fR ht10 dX1_whole_24 gf_RX1_22_5_2 (by decide) gkN_5_2 gkR_5_2 ?_
      refine gx_iload dX1_whole_27 0 rfl ?_
      refine gx_bE e (fun t11 ht11 e => ?_)
      refine gy_l1 ht11 dX1_whole_29 ?_
      refine gx_goto (tgt := 37) dX1_whole_30 (by decide) ?_
      cases e
      exact gx_iret dX1_whole_37 rfl ⟨Nat.le_of_ble_eq_true rfl, Nat.le_of_ble_eq_true rfl⟩ (fun z => z)
/-! X6_both  -/
set_option maxRecDepth 100000 in
def b_X6_both_14    (h : gi_H) : Option (Int) :=
  some (1000 : Int)
set_option maxRecDepth 100000 in
theorem zb_X6_both_14 {al : Bool}  {res : Int}    {h : gi_H} (e : b_X6_both_14  h = some res) : gx_Z mX6_both al al 0 0 14 [] [] (gi_cv h) (.inl (some (.int (gI res)))) (gi_cv h) := by
  refine gy_sipush dX6_both_14 gcs_1000 ?_
  refine gx_goto (tgt := 28) dX6_both_17 (by decide) ?_
  cases e
  exact gx_iret dX6_both_28 rfl ⟨Nat.le_of_ble_eq_true rfl, Nat.le_of_ble_eq_true rfl⟩ (fun z => z)
set_option maxRecDepth 100000 in
def f_X6_both (v0 : Nat) (v1 : Int) (v2 : Int) (h : gi_H) : Option (Int) :=
  Option.bind (gi_rg v1) fun _ => if v1 = (1000 : Int) then (b_X6_both_14   h) else (Option.bind (gi_rg v2) fun _ => if v2 = (1000 : Int) then (b_X6_both_14   h) else (Option.bind (gi_rg (v1 + v2)) fun _ => some (gi_min (99 : Int) (v1 + v2))))
set_option maxRecDepth 100000 in
theorem z_X6_both {al : Bool} {v0 : Nat} {v1 : Int} {v2 : Int} {h : gi_H} {res : Int} (e : f_X6_both v0 v1 v2 h = some res) : gx_Cw mX6_both al [.ref v0, .int (gI v1), .int (gI v2)] (gi_cv h) (.inl (some (.int (gI res)))) (gi_cv h) := by
  refine gx_enter (by decide +kernel) rfl (Nat.le_of_ble_eq_true rfl) ?_
  show gx_Z mX6_both al al 0 0 0 [(0, .ref v0), (1, .int (gI v1)), (2, .int (gI v2))] [] (gi_cv h) (.inl (some (.int (gI res)))) (gi_cv h)
  refine gx_iload_n dX6_both_0 rfl 1 rfl ?_
  refine gy_sipush dX6_both_1 gcs_1000 ?_
  refine gx_bE e (fun _ g1 e => ?_)
  refine gx_iE e (fun c2 e => ?_) (fun c2 e => ?_)
  · refine gy_icmp_eq (tgt := 14) (gi_rgS g1) (by decide) dX6_both_4 (by decide) (fun _ => ?_) (fun z => absurd c2 z)
    refine gx_sub (ls2 := []) [] rfl ?_
    exact zb_X6_both_14  e
  · refine gy_icmp_eq (tgt := 14) (gi_rgS g1) (by decide) dX6_both_4 (by decide) (fun z => absurd z c2) (fun _ => ?_)
    refine gx_iload_n dX6_both_7 rfl 2 rfl ?_
    refine gy_sipush dX6_both_8 gcs_1000 ?_
    refine gx_bE e (fun _ g3 e => ?_)
    refine gx_iE e (fun c4 e => ?_) (fun c4 e => ?_)
    · refine gy_icmp_ne (tgt := 20) (gi_rgS g3) (by decide) dX6_both_11 (by decide) (fun z => absurd c4 z) (fun _ => ?_)
      refine gx_sub (ls2 := []) [] rfl ?_
      exact zb_X6_both_14  e
    · refine gy_icmp_ne (tgt := 20) (gi_rgS g3) (by decide) dX6_both_11 (by decide) (fun _ => ?_) (fun z => absurd z c4)
      refine gy_bipush dX6_both_20 gcb_99 ?_
      refine gx_iload_n dX6_both_22 rfl 1 rfl ?_
      refine gx_iload_n dX6_both_23 rfl 2 rfl ?_
      refine gy_iadd dX6_both_24 ?_
      refine gx_bE e (fun _ g5 e => ?_)
      refine gy_mmin (by decide) (gi_rgS g5) dX6_both_25 gw_790 (Nat.le_of_ble_eq_true rfl) (Nat.le_of_ble_eq_true rfl) ⟨Nat.le_of_ble_eq_true rfl, Nat.le_of_ble_eq_true rfl⟩ ?_
      cases e
      exact gx_iret dX6_both_28 rfl ⟨Nat.le_of_ble_eq_true rfl, Nat.le_of_ble_eq_true rfl⟩ (fun z => z)
/-! X6_either  -/
set_option maxRecDepth 100000 in
def f_X6_either (v0 : Nat) (v1 : Int) (v2 : Int) (h : gi_H) : Option (Int) :=
  Option.bind (gi_rg v1) fun _ => Option.bind (gi_rg v2) fun _ => some (gi_min v1 v2)
set_option maxRecDepth 100000 in
theorem z_X6_either {al : Bool} {v0 : Nat} {v1 : Int} {v2 : Int} {h : gi_H} {res : Int} (e : f_X6_either v0 v1 v2 h = some res) : gx_Cw mX6_either al [.ref v0, .int (gI v1), .int (gI v2)] (gi_cv h) (.inl (some (.int (gI res)))) (gi_cv h) := by
  refine gx_enter (by decide +kernel) rfl (Nat.le_of_ble_eq_true rfl) ?_
  show gx_Z mX6_either al al 0 0 0 [(0, .ref v0), (1, .int (gI v1)), (2, .int (gI v2))] [] (gi_cv h) (.inl (some (.int (gI res)))) (gi_cv h)
  refine gx_iload_n dX6_either_0 rfl 1 rfl ?_
  refine gx_iload_n dX6_either_1 rfl 2 rfl ?_
  refine gx_bE e (fun _ g1 e => ?_)
  refine gx_bE e (fun _ g2 e => ?_)
  refine gy_mmin (gi_rgS g1) (gi_rgS g2) dX6_either_2 gw_790 (Nat.le_of_ble_eq_true rfl) (Nat.le_of_ble_eq_true rfl) ⟨Nat.le_of_ble_eq_true rfl, Nat.le_of_ble_eq_true rfl⟩ ?_
  cases e
  exact gx_iret dX6_either_5 rfl ⟨Nat.le_of_ble_eq_true rfl, Nat.le_of_ble_eq_true rfl⟩ (fun z => z)
/-! X1_ofProduction 5 -/
set_option maxRecDepth 100000 in
def b_X1_ofProduction_5_147 (n : Nat) (r27 : Nat → Int → Int → Int → Int → Int → Int → gi_H → Option (Int × gi_H)) (v0 : Nat) (v1 : Int) (v2 : Int) (v3 : Int) (v4 : Int) (v5 : Int) (v6 : Int)  (h : gi_H) : Option (Int × gi_H) :=
  Option.bind (gi_is h v0 5) fun _ => Option.bind (f_X1_setPart_5 v0 ((v4 + v6) + (1 : Int)) v2 v3 v5 h) fun q25 => gx_nm (v6 + (1 : Int)) fun t26 => r27 v0 v1 v2 v3 v4 v5 t26 q25
set_option maxRecDepth 100000 in
theorem zb_X1_ofProduction_5_147 {al : Bool} {n : Nat} {r27 : Nat → Int → Int → Int → Int → Int → Int → gi_H → Option (Int × gi_H)} {res : Int} {h1 : gi_H} (hr27 : ∀ (x0 : Nat) (x1 : Int) (x2 : Int) (x3 : Int) (x4 : Int) (x5 : Int) (x6 : Int) (hh : gi_H), r27 x0 x1 x2 x3 x4 x5 x6 hh = some (res, h1) → gx_Z mX1_ofProduction al al 0 0 27 [(0, .ref x0), (1, .int (gI x1)), (2, .int (gI x2)), (3, .int (gI x3)), (4, .int (gI x4)), (5, .int (gI x5)), (6, .int (gI x6))] [] (gi_cv hh) (.inl (some (.int (gI res)))) (gi_cv h1)) {v0 : Nat} {v1 : Int} {v2 : Int} {v3 : Int} {v4 : Int} {v5 : Int} {v6 : Int}  {h : gi_H} (e : b_X1_ofProduction_5_147 n r27 v0 v1 v2 v3 v4 v5 v6 h = some (res, h1)) : gx_Z mX1_ofProduction al al 0 0 147 [(0, .ref v0), (1, .int (gI v1)), (2, .int (gI v2)), (3, .int (gI v3)), (4, .int (gI v4)), (5, .int (gI v5)), (6, .int (gI v6))] [] (gi_cv h) (.inl (some (.int (gI res)))) (gi_cv h1) := by
  refine gx_aload_n dX1_ofProduction_147 rfl 0 rfl ?_
  refine gx_iload dX1_ofProduction_148 4 rfl ?_
  refine gx_iload dX1_ofProduction_150 6 rfl ?_
  refine gy_iadd dX1_ofProduction_152 ?_
  refine gy_iconst dX1_ofProduction_153 ?_
  refine gy_iadd dX1_ofProduction_154 ?_
  refine gx_iload_n dX1_ofProduction_155 rfl 2 rfl ?_
  refine gx_iload_n dX1_ofProduction_156 rfl 3 rfl ?_
  refine gx_iload dX1_ofProduction_157 5 rfl ?_
  refine gx_bE e (fun _ hu24 e => ?_)
  refine gx_bE e (fun q25 hq25 e => ?_)
  refine gx_callU (n := 4) (st := []) (As := [.int (gI ((v4 + v6) + (1 : Int))), .int (gI v2), .int (gI v3), .int (gI v5)]) (b := v0) dX1_ofProduction_159 (z_X1_setPart_5 hq25) rfl ⟨rfl, gw_cw_X1_setPart, gw_11, gp_X1_setPart, ⟨Nat.le_of_ble_eq_true rfl, Nat.le_of_ble_eq_true rfl⟩⟩ (gi_isS hu24) (by decide) (x := ⟨"Grammarsmith$Chart", "setPart", "(IIII)V"⟩) (owner := "Grammarsmith$Chart") gw_747 gw_1818 gz_1_setPart gw_749 rfl (by decide +kernel) ⟨Nat.le_of_ble_eq_true rfl, Nat.le_of_ble_eq_true rfl⟩ (Nat.le_of_ble_eq_true rfl) (gy_k0 (kc2 := 0) (ks2 := 0) ⟨rfl, rfl⟩ ?_) gy_kn
  refine gx_nE e (fun t26 ht26 e => ?_)
  refine gy_iinc (v := t26) (ls2 := [(6, .int (gI t26)), (0, .ref v0), (1, .int (gI v1)), (2, .int (gI v2)), (3, .int (gI v3)), (4, .int (gI v4)), (5, .int (gI v5))]) dX1_ofProduction_162 6 rfl ht26 (Nat.le_of_ble_eq_true rfl) rfl ?_
  refine gx_goto (tgt := 27) dX1_ofProduction_165 (by decide) ?_
  refine gx_sub (ls2 := [(0, .ref v0), (1, .int (gI v1)), (2, .int (gI v2)), (3, .int (gI v3)), (4, .int (gI v4)), (5, .int (gI v5)), (6, .int (gI t26))]) [1, 2, 3, 4, 5, 6, 0] rfl ?_
  exact hr27 _ _ _ _ _ _ _ _ e
set_option maxRecDepth 100000 in
def b_X1_ofProduction_5_123 (n : Nat) (r27 : Nat → Int → Int → Int → Int → Int → Int → gi_H → Option (Int × gi_H)) (r67 : Nat → Int → Int → Int → Int → Int → Int → Int → Int → gi_H → Option (Int × gi_H)) (v0 : Nat) (v1 : Int) (v2 : Int) (v3 : Int) (v4 : Int) (v5 : Int) (v6 : Int) (v7 : Int) (v8 : Int) (v9 : Int) (s0 : Int) (h : gi_H) : Option (Int × gi_H) :=
  Option.bind (gi_is h v0 5) fun _ => Option.bind (f_X6_both v0 v9 s0 h) fun q35 => Option.bind (gi_is h v0 5) fun _ => Option.bind (f_X6_either v0 v5 q35 h) fun q37 => gx_nm (v8 + (1 : Int)) fun t38 => r67 v0 v1 v2 v3 v4 q37 v6 v7 t38 h
set_option maxRecDepth 100000 in
theorem zb_X1_ofProduction_5_123 {al : Bool} {n : Nat} {r27 : Nat → Int → Int → Int → Int → Int → Int → gi_H → Option (Int × gi_H)} {r67 : Nat → Int → Int → Int → Int → Int → Int → Int → Int → gi_H → Option (Int × gi_H)} {res : Int} {h1 : gi_H} (hr27 : ∀ (x0 : Nat) (x1 : Int) (x2 : Int) (x3 : Int) (x4 : Int) (x5 : Int) (x6 : Int) (hh : gi_H), r27 x0 x1 x2 x3 x4 x5 x6 hh = some (res, h1) → gx_Z mX1_ofProduction al al 0 0 27 [(0, .ref x0), (1, .int (gI x1)), (2, .int (gI x2)), (3, .int (gI x3)), (4, .int (gI x4)), (5, .int (gI x5)), (6, .int (gI x6))] [] (gi_cv hh) (.inl (some (.int (gI res)))) (gi_cv h1)) (hr67 : ∀ (x0 : Nat) (x1 : Int) (x2 : Int) (x3 : Int) (x4 : Int) (x5 : Int) (x6 : Int) (x7 : Int) (x8 : Int) (hh : gi_H), r67 x0 x1 x2 x3 x4 x5 x6 x7 x8 hh = some (res, h1) → gx_Z mX1_ofProduction al al 0 0 67 [(0, .ref x0), (1, .int (gI x1)), (2, .int (gI x2)), (3, .int (gI x3)), (4, .int (gI x4)), (5, .int (gI x5)), (6, .int (gI x6)), (7, .int (gI x7)), (8, .int (gI x8))] [] (gi_cv hh) (.inl (some (.int (gI res)))) (gi_cv h1)) {v0 : Nat} {v1 : Int} {v2 : Int} {v3 : Int} {v4 : Int} {v5 : Int} {v6 : Int} {v7 : Int} {v8 : Int} {v9 : Int} {s0 : Int} {h : gi_H} (e : b_X1_ofProduction_5_123 n r27 r67 v0 v1 v2 v3 v4 v5 v6 v7 v8 v9 s0 h = some (res, h1)) : gx_Z mX1_ofProduction al al 0 0 123 [(0, .ref v0), (1, .int (gI v1)), (2, .int (gI v2)), (3, .int (gI v3)), (4, .int (gI v4)), (5, .int (gI v5)), (6, .int (gI v6)), (7, .int (gI v7)), (8, .int (gI v8)), (9, .int (gI v9))] [.int (gI s0)] (gi_cv h) (.inl (some (.int (gI res)))) (gi_cv h1) := by
  refine gx_istore (ls2 := [(11, .int (gI s0)), (0, .ref v0), (1, .int (gI v1)), (2, .int (gI v2)), (3, .int (gI v3)), (4, .int (gI v4)), (5, .int (gI v5)), (6, .int (gI v6)), (7, .int (gI v7)), (8, .int (gI v8)), (9, .int (gI v9))]) dX1_ofProduction_123 (Nat.le_of_ble_eq_true rfl) rfl ?_
  refine gx_aload_n dX1_ofProduction_125 rfl 1 rfl ?_
  refine gx_iload dX1_ofProduction_126 6 rfl ?_
  refine gx_aload_n dX1_ofProduction_128 rfl 1 rfl ?_
  refine gx_iload dX1_ofProduction_129 10 rfl ?_
  refine gx_iload dX1_ofProduction_131 0 rfl ?_
  refine gx_bE e (fun _ hu34 e => ?_)
  refine gx_bE e (fun q35 hq35 e => ?_)
  refine gx_callA (n := 2) (st := [.int (gI v5), .ref v0]) (As := [.int (gI v9), .int (gI s0)]) (b := v0) dX1_ofProduction_133 (z_X6_both hq35) rfl ⟨rfl, gw_cw_X6_both, gw_13, gp_X6_both, ⟨Nat.le_of_ble_eq_true rfl, Nat.le_of_ble_eq_true rfl⟩⟩ (gi_isS hu34) (by decide) (x := ⟨"Grammarsmith$Chart", "both", "(II)I"⟩) (owner := "Grammarsmith$Chart") gw_780 gw_782 gw_787 gw_788 (by decide +kernel) (by decide +kernel) ⟨Nat.le_of_ble_eq_true rfl, Nat.le_of_ble_eq_true rfl⟩ (Nat.le_of_ble_eq_true rfl) (gy_k1 (x := .int (gI q35)) (kc2 := 0) (ks2 := 0) ⟨rfl, rfl⟩ ?_) gy_kn
  refine gx_bE e (fun _ hu36 e => ?_)
  refine gx_bE e (fun q37 hq37 e => ?_)
  refine gx_callA (n := 2) (st := []) (As := [.int (gI v5), .int (gI q35)]) (b := v0) dX1_ofProduction_136 (z_X6_either hq37) rfl ⟨rfl, gw_cw_X6_either, gw_13, gp_X6_either, ⟨Nat.le_of_ble_eq_true rfl, Nat.le_of_ble_eq_true rfl⟩⟩ (gi_isS hu36) (by decide) (x := ⟨"Grammarsmith$Chart", "either", "(II)I"⟩) (owner := "Grammarsmith$Chart") gw_791 gw_793 gw_797 gw_798 (by decide +kernel) (by decide +kernel) ⟨Nat.le_of_ble_eq_true rfl, Nat.le_of_ble_eq_true rfl⟩ (Nat.le_of_ble_eq_true rfl) (gy_k1 (x := .int (gI q37)) (kc2 := 0) (ks2 := 0) ⟨rfl, rfl⟩ ?_) gy_kn
  refine gx_istore (ls2 := [(5, .int (gI q37)), (11, .int (gI s0)), (0, .ref v0), (1, .int (gI v1)), (2, .int (gI v2)), (3, .int (gI v3)), (4, .int (gI v4)), (6, .int (gI v6)), (7, .int (gI v7)), (8, .int (gI v8)), (9, .int (gI v9))]) dX1_ofProduction_139 (Nat.le_of_ble_eq_true rfl) rfl ?_
  refine gx_nE e (fun t38 ht38 e => ?_)
  refine gy_iinc (v := t38) (ls2 := [(8, .int (gI t38)), (5, .int (gI q37)), (11, .int (gI s0)), (0, .ref v0), (1, .int (gI v1)), (2, .int (gI v2)), (3, .int (gI v3)), (4, .int (gI v4)), (6, .int (gI v6)), (7, .int (gI v7)), (9, .int (gI v9))]) dX1_ofProduction_141 9 rfl ht38 (Nat.le_of_ble_eq_true rfl) rfl ?_
  refine gx_goto (tgt := 67) dX1_ofProduction_144 (by decide) ?_
  refine gx_sub (ls2 := [(0, .ref v0), (1, .int (gI v1)), (2, .int (gI v2)), (3, .int (gI v3)), (4, .int (gI v4)), (5, .int (gI q37)), (6, .int (gI v6)), (7, .int (gI v7)), (8, .int (gI t38))]) [3, 4, 5, 6, 7, 1, 8, 9, 0] rfl ?_
  exact hr67 _ _ _ _ _ _ _ _ _ _ e
set_option maxRecDepth 100000 in
def b_X1_ofProduction_5_67 (n : Nat) (r27 : Nat → Int → Int → Int → Int → Int → Int → gi_H → Option (Int × gi_H)) (r67 : Nat → Int → Int → Int → Int → Int → Int → Int → Int → gi_H → Option (Int × gi_H)) (v0 : Nat) (v1 : Int) (v2 : Int) (v3 : Int) (v4 : Int) (v5 : Int) (v6 : Int) (v7 : Int) (v8 : Int)  (h : gi_H) : Option (Int × gi_H) :=
  Option.bind (gi_rg v8) fun _ => Option.bind (gi_rg v3) fun _ => if v3 < v8 then (b_X1_ofProduction_5_147 n r27 v0 v1 v2 v3 v4 v5 v6 h) else (Option.bind (gi_is h v0 5) fun _ => Option.bind (f_X1_part_5 v0 (v4 + v6) v2 v8 h) fun q28 => Option.bind (f_X11_isTerminal v7 h) fun q29 => Option.bind (gi_rg q29) fun _ => if q29 = 0 then (Option.bind (gi_is h v0 5) fun _ => Option.bind (f_X1_whole_5 v0 (v7 - (16 : Int)) v8 v3 h) fun q33 => b_X1_ofProduction_5_123 n r27 r67 v0 v1 v2 v3 v4 v5 v6 v7 v8 q28 q33 h) else (Option.bind (gi_is h v0 5) fun _ => Option.bind (f_X6_ofTerminal n v0 v7 v8 v3 h) fun q40 => b_X1_ofProduction_5_123 n r27 r67 v0 v1 v2 v3 v4 v5 v6 v7 v8 q28 q40 h))
set_option maxRecDepth 100000 in
theorem zb_X1_ofProduction_5_67 {al : Bool} {n : Nat} {r27 : Nat → Int → Int → Int → Int → Int → Int → gi_H → Option (Int × gi_H)} {r67 : Nat → Int → Int → Int → Int → Int → Int → Int → Int → gi_H → Option (Int × gi_H)} {res : Int} {h1 : gi_H} (hr27 : ∀ (x0 : Nat) (x1 : Int) (x2 : Int) (x3 : Int) (x4 : Int) (x5 : Int) (x6 : Int) (hh : gi_H), r27 x0 x1 x2 x3 x4 x5 x6 hh = some (res, h1) → gx_Z mX1_ofProduction al al 0 0 27 [(0, .ref x0), (1, .int (gI x1)), (2, .int (gI x2)), (3, .int (gI x3)), (4, .int (gI x4)), (5, .int (gI x5)), (6, .int (gI x6))] [] (gi_cv hh) (.inl (some (.int (gI res)))) (gi_cv h1)) (hr67 : ∀ (x0 : Nat) (x1 : Int) (x2 : Int) (x3 : Int) (x4 : Int) (x5 : Int) (x6 : Int) (x7 : Int) (x8 : Int) (hh : gi_H), r67 x0 x1 x2 x3 x4 x5 x6 x7 x8 hh = some (res, h1) → gx_Z mX1_ofProduction al al 0 0 67 [(0, .ref x0), (1, .int (gI x1)), (2, .int (gI x2)), (3, .int (gI x3)), (4, .int (gI x4)), (5, .int (gI x5)), (6, .int (gI x6)), (7, .int (gI x7)), (8, .int (gI x8))] [] (gi_cv hh) (.inl (some (.int (gI res)))) (gi_cv h1)) {v0 : Nat} {v1 : Int} {v2 : Int} {v3 : Int} {v4 : Int} {v5 : Int} {v6 : Int} {v7 : Int} {v8 : Int}  {h : gi_H} (e : b_X1_ofProduction_5_67 n r27 r67 v0 v1 v2 v3 v4 v5 v6 v7 v8 h = some (res, h1)) : gx_Z mX1_ofProduction al al 0 0 67 [(0, .ref v0), (1, .int (gI v1)), (2, .int (gI v2)), (3, .int (gI v3)), (4, .int (gI v4)), (5, .int (gI v5)), (6, .int (gI v6)), (7, .int (gI v7)), (8, .int (gI v8))] [] (gi_cv h) (.inl (some (.int (gI res)))) (gi_cv h1) := by
  refine gx_iload dX1_ofProduction_67 8 rfl ?_
  refine gx_iload_n dX1_ofProduction_69 rfl 3 rfl ?_
  refine gx_bE e (fun _ g21 e => ?_)
  refine gx_bE e (fun _ g22 e => ?_)
  refine gx_iE e (fun c23 e => ?_) (fun c23 e => ?_)
  · refine gy_icmp_gt (tgt := 147) (gi_rgS g21) (gi_rgS g22) dX1_ofProduction_70 (by decide) (fun _ => ?_) (fun z => absurd c23 z)
    refine gx_sub (ls2 := [(0, .ref v0), (1, .int (gI v1)), (2, .int (gI v2)), (3, .int (gI v3)), (4, .int (gI v4)), (5, .int (gI v5)), (6, .int (gI v6))]) [0, 1, 2, 3, 4, 5, 6] rfl ?_
    exact zb_X1_ofProduction_5_147 hr27 e
  · refine gy_icmp_gt (tgt := 147) (gi_rgS g21) (gi_rgS g22) dX1_ofProduction_70 (by decide) (fun z => absurd z c23) (fun _ => ?_)
    refine gx_aload_n dX1_ofProduction_73 rfl 0 rfl ?_
    refine gx_iload dX1_ofProduction_74 4 rfl ?_
    refine gx_iload dX1_ofProduction_76 6 rfl ?_
    refine gy_iadd dX1_ofProduction_78 ?_
    refine gx_iload_n dX1_ofProduction_79 rfl 2 rfl ?_
    refine gx_iload dX1_ofProduction_80 8 rfl ?_
    refine gx_bE e (fun _ hu27 e => ?_)
    refine gx_bE e (fun q28 hq28 e => ?_)
    refine gx_callU (n := 3) (st := []) (As := [.int (gI (v4 + v6)), .int (gI v2), .int (gI v8)]) (b := v0) dX1_ofProduction_82 (z_X1_part_5 hq28) rfl ⟨rfl, gw_cw_X1_part, gw_11, gp_X1_part, ⟨Nat.le_of_ble_eq_true rfl, Nat.le_of_ble_eq_true rfl⟩⟩ (gi_isS hu27) (by decide) (x := ⟨"Grammarsmith$Chart", "part", "(III)I"⟩) (owner := "Grammarsmith$Chart") gw_753 gw_1819 gz_1_part gw_755 rfl (by decide +kernel) ⟨Nat.le_of_ble_eq_true rfl, Nat.le_of_ble_eq_true rfl⟩ (Nat.le_of_ble_eq_true rfl) (gy_k1 (x := .int (gI q28)) (kc2 := 0) (ks2 := 0) ⟨rfl, rfl⟩ ?_) gy_kn
    refine gx_istore (ls2 := [(9, .int (gI q28)), (0, .ref v0), (1, .int (gI v1)), (2, .int (gI v2)), (3, .int (gI v3)), (4, .int (gI v4)), (5, .int (gI v5)), (6, .int (gI v6)), (7, .int (gI v7)), (8, .int (gI v8))]) dX1_ofProduction_85 (Nat.le_of_ble_eq_true rfl) rfl ?_
    refine gx_iload dX1_ofProduction_87 8 rfl ?_
    refine gx_bE e (fun q29 hq29 e => ?_)
    refine gx_callSN (n := 1) (st := []) (As := [.int (gI v7)]) dX1_ofProduction_89 (z_X11_isTerminal hq29) rfl ⟨rfl, gw_cw_X11_isTerminal, gw_1, gp_X11_isTerminal, ⟨Nat.le_of_ble_eq_true rfl, Nat.le_of_ble_eq_true rfl⟩⟩ (host := "Grammarsmith") (by decide +kernel) gw_646 ⟨Nat.le_of_ble_eq_true rfl, Nat.le_of_ble_eq_true rfl⟩ (Nat.le_of_ble_eq_true rfl) (gy_k1 (x := .int (gI q29)) (kc2 := 0) (ks2 := 0) ⟨rfl, rfl⟩ ?_) gy_kn
    refine gx_istore (ls2 := [(10, .int (gI q29)), (9, .int (gI q28)), (0, .ref v0), (1, .int (gI v1)), (2, .int (gI v2)), (3, .int (gI v3)), (4, .int (gI v4)), (5, .int (gI v5)), (6, .int (gI v6)), (7, .int (gI v7)), (8, .int (gI v8))]) dX1_ofProduction_92 (Nat.le_of_ble_eq_true rfl) rfl ?_
    refine gx_iload dX1_ofProduction_94 0 rfl ?_
    refine gx_bE e (fun _ g30 e => ?_)
    refine gx_iE e (fun c31 e => ?_) (fun c31 e => ?_)
    · refine gy_if_eq (tgt := 111) (gi_rgS g30) dX1_ofProduction_96 (by decide) (fun _ => ?_) (fun z => absurd c31 z)
      refine gx_aload_n dX1_ofProduction_111 rfl 2 rfl ?_
      refine gx_iload dX1_ofProduction_112 9 rfl ?_
      refine gy_bipush dX1_ofProduction_114 gcb_16 ?_
      refine gy_isub dX1_ofProduction_116 ?_
      refine gx_iload dX1_ofProduction_117 10 rfl ?_
      refine gx_iload_n dX1_ofProduction_119 rfl 5 rfl ?_
      refine gx_bE e (fun _ hu32 e => ?_)
      refine gx_bE e (fun q33 hq33 e => ?_)
      refine gx_callU (n := 3) (st := []) (As := [.int (gI (v7 - (16 : Int))), .int (gI v8), .int (gI v3)]) (b := v0) dX1_ofProduction_120 (z_X1_whole_5 hq33) rfl ⟨rfl, gw_cw_X1_whole, gw_11, gp_X1_whole, ⟨Nat.le_of_ble_eq_true rfl, Nat.le_of_ble_eq_true rfl⟩⟩ (gi_isS hu32) (by decide) (x := ⟨"Grammarsmith$Chart", "whole", "(III)I"⟩) (owner := "Grammarsmith$Chart") gw_776 gw_1820 gz_1_whole gw_778 rfl (by decide +kernel) ⟨Nat.le_of_ble_eq_true rfl, Nat.le_of_ble_eq_true rfl⟩ (Nat.le_of_ble_eq_true rfl) (gy_k1 (x := .int (gI q33)) (kc2 := 0) (ks2 := 0) ⟨rfl, rfl⟩ ?_) gy_kn
      refine gx_sub (ls2 := [(0, .ref v0), (1, .int (gI v1)), (2, .int (gI v2)), (3, .int (gI v3)), (4, .int (gI v4)), (5, .int (gI v5)), (6, .int (gI v6)), (7, .int (gI v7)), (8, .int (gI v8)), (9, .int (gI q28))]) [2, 3, 4, 5, 6, 7, 8, 9, 10, 1] rfl ?_
      exact zb_X1_ofProduction_5_123 hr27 hr67 e
    · refine gy_if_eq (tgt := 111) (gi_rgS g30) dX1_ofProduction_96 (by decide) (fun z => absurd z c31) (fun _ => ?_)
      refine gx_aload_n dX1_ofProduction_99 rfl 2 rfl ?_
      refine gx_iload dX1_ofProduction_100 9 rfl ?_
      refine gx_iload dX1_ofProduction_102 10 rfl ?_
      refine gx_iload_n dX1_ofProduction_104 rfl 5 rfl ?_
      refine gx_bE e (fun _ hu39 e => ?_)
      refine gx_bE e (fun q40 hq40 e => ?_)
      refine gx_callA (n := 3) (st := []) (As := [.int (gI v7), .int (gI v8), .int (gI v3)]) (b := v0) dX1_ofProduction_105 (z_X6_ofTerminal hq40) rfl ⟨rfl, gw_cw_X6_ofTerminal, gw_13, gp_X6_ofTerminal, ⟨Nat.le_of_ble_eq_true rfl, Nat.le_of_ble_eq_true rfl⟩⟩ (gi_isS hu39) (by decide) (x := ⟨"Grammarsmith$Chart", "ofTerminal", "(III)I"⟩) (owner := "Grammarsmith$Chart") gw_758 gw_760 gw_770 gw_771 (by decide +kernel) (by decide +kernel) ⟨Nat.le_of_ble_eq_true rfl, Nat.le_of_ble_eq_true rfl⟩ (Nat.le_of_ble_eq_true rfl) (gy_k1 (x := .int (gI q40)) (kc2 := 0) (ks2 := 0) ⟨rfl, rfl⟩ ?_) gy_kn
      refine gx_goto (tgt := 123) dX1_ofProduction_108 (by decide) ?_
      refine gx_sub (ls2 := [(0, .ref v0), (1, .int (gI v1)), (2, .int (gI v2)), (3, .int (gI v3)), (4, .int (gI v4)), (5, .int (gI v5)), (6, .int (gI v6)), (7, .int (gI v7)), (8, .int (gI v8)), (9, .int (gI q28))]) [2, 3, 4, 5, 6, 7, 8, 9, 10, 1] rfl ?_
      exact zb_X1_ofProduction_5_123 hr27 hr67 e
def l_X1_ofProduction_5_67 (n : Nat) (r27 : Nat → Int → Int → Int → Int → Int → Int → gi_H → Option (Int × gi_H)) : Nat → Nat → Int → Int → Int → Int → Int → Int → Int → Int → gi_H → Option (Int × gi_H)
  | 0, _, _, _, _, _, _, _, _, _, _ => none
  | k + 1, v0, v1, v2, v3, v4, v5, v6, v7, v8, h => b_X1_ofProduction_5_67 n r27 (l_X1_ofProduction_5_67 n r27 k) v0 v1 v2 v3 v4 v5 v6 v7 v8 h
theorem zl_X1_ofProduction_5_67 {al : Bool} {n : Nat} {r27 : Nat → Int → Int → Int → Int → Int → Int → gi_H → Option (Int × gi_H)} {res : Int} {h1 : gi_H} (hr27 : ∀ (x0 : Nat) (x1 : Int) (x2 : Int) (x3 : Int) (x4 : Int) (x5 : Int) (x6 : Int) (hh : gi_H), r27 x0 x1 x2 x3 x4 x5 x6 hh = some (res, h1) → gx_Z mX1_ofProduction al al 0 0 27 [(0, .ref x0), (1, .int (gI x1)), (2, .int (gI x2)), (3, .int (gI x3)), (4, .int (gI x4)), (5, .int (gI x5)), (6, .int (gI x6))] [] (gi_cv hh) (.inl (some (.int (gI res)))) (gi_cv h1)) : ∀ (k : Nat) (v0 : Nat) (v1 : Int) (v2 : Int) (v3 : Int) (v4 : Int) (v5 : Int) (v6 : Int) (v7 : Int) (v8 : Int) (h : gi_H), l_X1_ofProduction_5_67 n r27 k v0 v1 v2 v3 v4 v5 v6 v7 v8 h = some (res, h1) → gx_Z mX1_ofProduction al al 0 0 67 [(0, .ref v0), (1, .int (gI v1)), (2, .int (gI v2)), (3, .int (gI v3)), (4, .int (gI v4)), (5, .int (gI v5)), (6, .int (gI v6)), (7, .int (gI v7)), (8, .int (gI v8))] [] (gi_cv h) (.inl (some (.int (gI res)))) (gi_cv h1)
  | 0, _, _, _, _, _, _, _, _, _, _, e => gx_0E e
  | k + 1, _, _, _, _, _, _, _, _, _, _, e => zb_X1_ofProduction_5_67 (n := n) hr27 (zl_X1_ofProduction_5_67 hr27 k) e
set_option maxRecDepth 100000 in
def b_X1_ofProduction_5_27 (n : Nat) (r27 : Nat → Int → Int → Int → Int → Int → Int → gi_H → Option (Int × gi_H)) (v0 : Nat) (v1 : Int) (v2 : Int) (v3 : Int) (v4 : Int) (v5 : Int) (v6 : Int)  (h : gi_H) : Option (Int × gi_H) :=
  Option.bind (gi_gR h v0 5 0) fun t6 => Option.bind (gi_is h t6 2) fun _ => Option.bind (f_X3_grammar t6 h) fun q8 => Option.bind (gi_is h q8 3) fun _ => Option.bind (f_X4_length q8 v1 h) fun q10 => Option.bind (gi_rg v6) fun _ => Option.bind (gi_rg q10) fun _ => if q10 ≤ v6 then (some (v5, h)) else (Option.bind (gi_gR h v0 5 0) fun t14 => Option.bind (gi_is h t14 2) fun _ => Option.bind (f_X3_grammar t14 h) fun q16 => Option.bind (gi_is h q16 3) fun _ => Option.bind (f_X4_symbol q16 v1 v6 h) fun q18 => Option.bind (gi_is h v0 5) fun _ => Option.bind (f_X6_none v0 h) fun q20 => l_X1_ofProduction_5_67 n r27 n v0 v1 v2 v3 v4 q20 v6 q18 v2 h)
set_option maxRecDepth 100000 in
theorem zb_X1_ofProduction_5_27 {al : Bool} {n : Nat} {r27 : Nat → Int → Int → Int → Int → Int → Int → gi_H → Option (Int × gi_H)} {res : Int} {h1 : gi_H} (hr27 : ∀ (x0 : Nat) (x1 : Int) (x2 : Int) (x3 : Int) (x4 : Int) (x5 : Int) (x6 : Int) (hh : gi_H), r27 x0 x1 x2 x3 x4 x5 x6 hh = some (res, h1) → gx_Z mX1_ofProduction al al 0 0 27 [(0, .ref x0), (1, .int (gI x1)), (2, .int (gI x2)), (3, .int (gI x3)), (4, .int (gI x4)), (5, .int (gI x5)), (6, .int (gI x6))] [] (gi_cv hh) (.inl (some (.int (gI res)))) (gi_cv h1)) {v0 : Nat} {v1 : Int} {v2 : Int} {v3 : Int} {v4 : Int} {v5 : Int} {v6 : Int}  {h : gi_H} (e : b_X1_ofProduction_5_27 n r27 v0 v1 v2 v3 v4 v5 v6 h = some (res, h1)) : gx_Z mX1_ofProduction al al 0 0 27 [(0, .ref v0), (1, .int (gI v1)), (2, .int (gI v2)), (3, .int (gI v3)), (4, .int (gI v4)), (5, .int (gI v5)), (6, .int (gI v6))] [] (gi_cv h) (.inl (some (.int (gI res)))) (gi_cv h1) := by
  refine gx_iload dX1_ofProduction_27 6 rfl ?_
  refine gx_aload_n dX1_ofProduction_29 rfl 0 rfl ?_
  refine gx_bE e (fun t6 ht6 e => ?_)
  refine gy_fR ht6 dX1_ofProduction_30 gf_RX1_15_5_0 (by decide) gkN_5_0 gkR_5_0 ?_
  refine gx_bE e (fun _ hu7 e => ?_)
  refine gx_bE e (fun q8 hq8 e => ?_)
  refine gx_callV (n := 0) (st := [.int (gI v6)]) (As := []) (b := t6) dX1_ofProduction_33 (z_X3_grammar hq8) rfl ⟨rfl, gw_cw_X3_grammar, gw_6, gp_X3_grammar, ⟨Nat.le_of_ble_eq_true rfl, Nat.le_of_ble_eq_true rfl⟩⟩ (gi_isS hu7) (by decide) gw_731 gw_556 gw_557 rfl ⟨Nat.le_of_ble_eq_true rfl, Nat.le_of_ble_eq_true rfl⟩ (Nat.le_of_ble_eq_true rfl) (gy_k1 (x := .ref q8) (kc2 := 0) (ks2 := 0) ⟨rfl, rfl⟩ ?_) gy_kn
  refine gx_iload_n dX1_ofProduction_36 rfl 1 rfl ?_
  refine gx_bE e (fun _ hu9 e => ?_)
  refine gx_bE e (fun q10 hq10 e => ?_)
  refine gx_callV (n := 1) (st := [.int (gI v6)]) (As := [.int (gI v1)]) (b := q8) dX1_ofProduction_37 (z_X4_length hq10) rfl ⟨rfl, gw_cw_X4_length, gw_3, gp_X4_length, ⟨Nat.le_of_ble_eq_true rfl, Nat.le_of_ble_eq_true rfl⟩⟩ (gi_isS hu9) (by decide) gw_751 gw_424 gw_425 rfl ⟨Nat.le_of_ble_eq_true rfl, Nat.le_of_ble_eq_true rfl⟩ (Nat.le_of_ble_eq_true rfl) (gy_k1 (x := .int (gI q10)) (kc2 := 0) (ks2 := 0) ⟨rfl, rfl⟩ ?_) gy_kn
  refine gx_bE e (fun _ g11 e => ?_)
  refine gx_bE e (fun _ g12 e => ?_)
  refine gx_iE e (fun c13 e => ?_) (fun c13 e => ?_)
  · refine gy_icmp_ge (tgt := 168) (gi_rgS g11) (gi_rgS g12) dX1_ofProduction_40 (by decide) (fun _ => ?_) (fun z => absurd c13 z)
    refine gx_iload dX1_ofProduction_168 5 rfl ?_
    cases e
    exact gx_iret dX1_ofProduction_170 rfl ⟨Nat.le_of_ble_eq_true rfl, Nat.le_of_ble_eq_true rfl⟩ (fun z => z)
  · refine gy_icmp_ge (tgt := 168) (gi_rgS g11) (gi_rgS g12) dX1_ofProduction_40 (by decide) (fun z => absurd z c13) (fun _ => ?_)
    refine gx_aload_n dX1_ofProduction_43 rfl 0 rfl ?_
    refine gx_bE e (fun t14 ht14 e => ?_)
    refine gy_fR ht14 dX1_ofProduction_44 gf_RX1_15_5_0 (by decide) gkN_5_0 gkR_5_0 ?_
    refine gx_bE e (fun _ hu15 e => ?_)
    refine gx_bE e (fun q16 hq16 e => ?_)
    refine gx_callV (n := 0) (st := []) (As := []) (b := t14) dX1_ofProduction_47 (z_X3_grammar hq16) rfl ⟨rfl, gw_cw_X3_grammar, gw_6, gp_X3_grammar, ⟨Nat.le_of_ble_eq_true rfl, Nat.le_of_ble_eq_true rfl⟩⟩ (gi_isS hu15) (by decide) gw_731 gw_556 gw_557 rfl ⟨Nat.le_of_ble_eq_true rfl, Nat.le_of_ble_eq_true rfl⟩ (Nat.le_of_ble_eq_true rfl) (gy_k1 (x := .ref q16) (kc2 := 0) (ks2 := 0) ⟨rfl, rfl⟩ ?_) gy_kn
    refine gx_iload_n dX1_ofProduction_50 rfl 1 rfl ?_
    refine gx_iload dX1_ofProduction_51 6 rfl ?_
    refine gx_bE e (fun _ hu17 e => ?_)
    refine gx_bE e (fun q18 hq18 e => ?_)
    refine gx_callV (n := 2) (st := []) (As := [.int (gI v1), .int (gI v6)]) (b := q16) dX1_ofProduction_53 (z_X4_symbol hq18) rfl ⟨rfl, gw_cw_X4_symbol, gw_3, gp_X4_symbol, ⟨Nat.le_of_ble_eq_true rfl, Nat.le_of_ble_eq_true rfl⟩⟩ (gi_isS hu17) (by decide) gw_752 gw_428 gw_429 rfl ⟨Nat.le_of_ble_eq_true rfl, Nat.le_of_ble_eq_true rfl⟩ (Nat.le_of_ble_eq_true rfl) (gy_k1 (x := .int (gI q18)) (kc2 := 0) (ks2 := 0) ⟨rfl, rfl⟩ ?_) gy_kn
    refine gx_istore (ls2 := [(7, .int (gI q18)), (0, .ref v0), (1, .int (gI v1)), (2, .int (gI v2)), (3, .int (gI v3)), (4, .int (gI v4)), (5, .int (gI v5)), (6, .int (gI v6))]) dX1_ofProduction_56 (Nat.le_of_ble_eq_true rfl) rfl ?_
    refine gx_aload_n dX1_ofProduction_58 rfl 1 rfl ?_
    refine gx_bE e (fun _ hu19 e => ?_)
    refine gx_bE e (fun q20 hq20 e => ?_)
    refine gx_callA (n := 0) (st := []) (As := []) (b := v0) dX1_ofProduction_59 (z_X6_none hq20) rfl ⟨rfl, gw_cw_X6_none, gw_13, gp_X6_none, ⟨Nat.le_of_ble_eq_true rfl, Nat.le_of_ble_eq_true rfl⟩⟩ (gi_isS hu19) (by decide) (x := ⟨"Grammarsmith$Chart", "none", "()I"⟩) (owner := "Grammarsmith$Chart") gw_709 gw_711 gw_715 gw_716 (by decide +kernel) (by decide +kernel) ⟨Nat.le_of_ble_eq_true rfl, Nat.le_of_ble_eq_true rfl⟩ (Nat.le_of_ble_eq_true rfl) (gy_k1 (x := .int (gI q20)) (kc2 := 0) (ks2 := 0) ⟨rfl, rfl⟩ ?_) gy_kn
    refine gx_istore (ls2 := [(5, .int (gI q20)), (7, .int (gI q18)), (0, .ref v0), (1, .int (gI v1)), (2, .int (gI v2)), (3, .int (gI v3)), (4, .int (gI v4)), (6, .int (gI v6))]) dX1_ofProduction_62 (Nat.le_of_ble_eq_true rfl) rfl ?_
    refine gx_iload_n dX1_ofProduction_64 rfl 4 rfl ?_
    refine gx_istore (ls2 := [(8, .int (gI v2)), (5, .int (gI q20)), (7, .int (gI q18)), (0, .ref v0), (1, .int (gI v1)), (2, .int (gI v2)), (3, .int (gI v3)), (4, .int (gI v4)), (6, .int (gI v6))]) dX1_ofProduction_65 (Nat.le_of_ble_eq_true rfl) rfl ?_
    refine gx_sub (ls2 := [(0, .ref v0), (1, .int (gI v1)), (2, .int (gI v2)), (3, .int (gI v3)), (4, .int (gI v4)), (5, .int (gI q20)), (6, .int (gI v6)), (7, .int (gI q18)), (8, .int (gI v2))]) [3, 4, 5, 6, 7, 1, 8, 2, 0] rfl ?_
    exact zl_X1_ofProduction_5_67 hr27 n _ _ _ _ _ _ _ _ _ _ e
def l_X1_ofProduction_5_27 (n : Nat)  : Nat → Nat → Int → Int → Int → Int → Int → Int → gi_H → Option (Int × gi_H)
  | 0, _, _, _, _, _, _, _, _ => none
  | k + 1, v0, v1, v2, v3, v4, v5, v6, h => b_X1_ofProduction_5_27 n  (l_X1_ofProduction_5_27 n  k) v0 v1 v2 v3 v4 v5 v6 h
theorem zl_X1_ofProduction_5_27 {al : Bool} {n : Nat}  {res : Int} {h1 : gi_H}  : ∀ (k : Nat) (v0 : Nat) (v1 : Int) (v2 : Int) (v3 : Int) (v4 : Int) (v5 : Int) (v6 : Int) (h : gi_H), l_X1_ofProduction_5_27 n  k v0 v1 v2 v3 v4 v5 v6 h = some (res, h1) → gx_Z mX1_ofProduction al al 0 0 27 [(0, .ref v0), (1, .int (gI v1)), (2, .int (gI v2)), (3, .int (gI v3)), (4, .int (gI v4)), (5, .int (gI v5)), (6, .int (gI v6))] [] (gi_cv h) (.inl (some (.int (gI res)))) (gi_cv h1)
  | 0, _, _, _, _, _, _, _, _, e => gx_0E e
  | k + 1, _, _, _, _, _, _, _, _, e => zb_X1_ofProduction_5_27 (n := n)  (zl_X1_ofProduction_5_27  k) e
set_option maxRecDepth 100000 in
def f_X1_ofProduction_5 (n : Nat) (v0 : Nat) (v1 : Int) (v2 : Int) (v3 : Int) (h : gi_H) : Option (Int × gi_H) :=
  gx_nm (v1 * (6 : Int)) fun t1 => Option.bind (gi_is h v0 5) fun _ => Option.bind (f_X6_blank v0 v2 v3 h) fun q3 => Option.bind (gi_is h v0 5) fun _ => Option.bind (f_X1_setPart_5 v0 t1 v2 v3 q3 h) fun q5 => l_X1_ofProduction_5_27 n  n v0 v1 v2 v3 t1 q3 (0 : Int) q5
set_option maxRecDepth 100000 in
theorem z_X1_ofProduction_5 {al : Bool} {n : Nat} {v0 : Nat} {v1 : Int} {v2 : Int} {v3 : Int} {h : gi_H} {res : Int} {h1 : gi_H} (e : f_X1_ofProduction_5 n v0 v1 v2 v3 h = some (res, h1)) : gx_Cw mX1_ofProduction al [.ref v0, .int (gI v1), .int (gI v2), .int (gI v3)] (gi_cv h) (.inl (some (.int (gI res)))) (gi_cv h1) := by
  refine gx_enter (by decide +kernel) rfl (Nat.le_of_ble_eq_true rfl) ?_
  show gx_Z mX1_ofProduction al al 0 0 0 [(0, .ref v0), (1, .int (gI v1)), (2, .int (gI v2)), (3, .int (gI v3))] [] (gi_cv h) (.inl (some (.int (gI res)))) (gi_cv h1)
  refine gx_iload_n dX1_ofProduction_0 rfl 1 rfl ?_
  refine gy_bipush dX1_ofProduction_1 gcb_6 ?_
  refine gy_imul dX1_ofProduction_3 ?_
  refine gx_nE e (fun t1 ht1 e => ?_)
  rw [ht1]
  refine gx_istore (ls2 := [(4, .int (gI t1)), (0, .ref v0), (1, .int (gI v1)), (2, .int (gI v2)), (3, .int (gI v3))]) dX1_ofProduction_4 (Nat.le_of_ble_eq_true rfl) rfl ?_
  refine gx_aload_n dX1_ofProduction_6 rfl 1 rfl ?_
  refine gx_iload_n dX1_ofProduction_7 rfl 3 rfl ?_
  refine gx_iload_n dX1_ofProduction_8 rfl 4 rfl ?_
  refine gx_bE e (fun _ hu2 e => ?_)
  refine gx_bE e (fun q3 hq3 e => ?_)
  refine gx_callA (n := 2) (st := []) (As := [.int (gI v2), .int (gI v3)]) (b := v0) dX1_ofProduction_9 (z_X6_blank hq3) rfl ⟨rfl, gw_cw_X6_blank, gw_13, gp_X6_blank, ⟨Nat.le_of_ble_eq_true rfl, Nat.le_of_ble_eq_true rfl⟩⟩ (gi_isS hu2) (by decide) (x := ⟨"Grammarsmith$Chart", "blank", "(II)I"⟩) (owner := "Grammarsmith$Chart") gw_738 gw_740 gw_744 gw_745 (by decide +kernel) (by decide +kernel) ⟨Nat.le_of_ble_eq_true rfl, Nat.le_of_ble_eq_true rfl⟩ (Nat.le_of_ble_eq_true rfl) (gy_k1 (x := .int (gI q3)) (kc2 := 0) (ks2 := 0) ⟨rfl, rfl⟩ ?_) gy_kn
  refine gx_istore (ls2 := [(5, .int (gI q3)), (4, .int (gI t1)), (0, .ref v0), (1, .int (gI v1)), (2, .int (gI v2)), (3, .int (gI v3))]) dX1_ofProduction_12 (Nat.le_of_ble_eq_true rfl) rfl ?_
  refine gx_aload_n dX1_ofProduction_14 rfl 2 rfl ?_
  refine gx_iload dX1_ofProduction_15 1 rfl ?_
  refine gx_iload_n dX1_ofProduction_17 rfl 4 rfl ?_
  refine gx_iload_n dX1_ofProduction_18 rfl 5 rfl ?_
  refine gx_iload dX1_ofProduction_19 0 rfl ?_
  refine gx_bE e (fun _ hu4 e => ?_)
  refine gx_bE e (fun q5 hq5 e => ?_)
  refine gx_callU (n := 4) (st := []) (As := [.int (gI t1), .int (gI v2), .int (gI v3), .int (gI q3)]) (b := v0) dX1_ofProduction_21 (z_X1_setPart_5 hq5) rfl ⟨rfl, gw_cw_X1_setPart, gw_11, gp_X1_setPart, ⟨Nat.le_of_ble_eq_true rfl, Nat.le_of_ble_eq_true rfl⟩⟩ (gi_isS hu4) (by decide) (x := ⟨"Grammarsmith$Chart", "setPart", "(IIII)V"⟩) (owner := "Grammarsmith$Chart") gw_747 gw_1818 gz_1_setPart gw_749 rfl (by decide +kernel) ⟨Nat.le_of_ble_eq_true rfl, Nat.le_of_ble_eq_true rfl⟩ (Nat.le_of_ble_eq_true rfl) (gy_k0 (kc2 := 0) (ks2 := 0) ⟨rfl, rfl⟩ ?_) gy_kn
  refine gy_iconst dX1_ofProduction_24 ?_
  refine gx_istore (ls2 := [(6, .int (gI (0 : Int))), (5, .int (gI q3)), (4, .int (gI t1)), (0, .ref v0), (1, .int (gI v1)), (2, .int (gI v2)), (3, .int (gI v3))]) dX1_ofProduction_25 (Nat.le_of_ble_eq_true rfl) rfl ?_
  refine gx_sub (ls2 := [(0, .ref v0), (1, .int (gI v1)), (2, .int (gI v2)), (3, .int (gI v3)), (4, .int (gI t1)), (5, .int (gI q3)), (6, .int (gI (0 : Int)))]) [3, 4, 5, 6, 2, 1, 0] rfl ?_
  exact zl_X1_ofProduction_5_27  n _ _ _ _ _ _ _ _ e
/-! X6_ofNonterminal  -/
set_option maxRecDepth 100000 in
def f_X6_ofNonterminal (v0 : Nat) (v1 : Int) (v2 : Int) (h : gi_H) : Option (Int) :=
  some v2
set_option maxRecDepth 100000 in
theorem z_X6_ofNonterminal {al : Bool} {v0 : Nat} {v1 : Int} {v2 : Int} {h : gi_H} {res : Int} (e : f_X6_ofNonterminal v0 v1 v2 h = some res) : gx_Cw mX6_ofNonterminal al [.ref v0, .int (gI v1), .int (gI v2)] (gi_cv h) (.inl (some (.int (gI res)))) (gi_cv h) := by
  refine gx_enter (by decide +kernel) rfl (Nat.le_of_ble_eq_true rfl) ?_
  show gx_Z mX6_ofNonterminal al al 0 0 0 [(0, .ref v0), (1, .int (gI v1)), (2, .int (gI v2))] [] (gi_cv h) (.inl (some (.int (gI res)))) (gi_cv h)
  refine gx_iload_n dX6_ofNonterminal_0 rfl 2 rfl ?_
  cases e
  exact gx_iret dX6_ofNonterminal_1 rfl ⟨Nat.le_of_ble_eq_true rfl, Nat.le_of_ble_eq_true rfl⟩ (fun z => z)
/-! X1_refine 5 -/
set_option maxRecDepth 100000 in
def b_X1_refine_5_139 (n : Nat) (r92 : Nat → Int → Int → Int → Int → gi_H → Option (Int × gi_H)) (v0 : Nat) (v1 : Int) (v2 : Int) (v3 : Int) (v4 : Int)  (h : gi_H) : Option (Int × gi_H) :=
  gx_nm (v4 + (1 : Int)) fun t25 => r92 v0 v1 v2 v3 t25 h
set_option maxRecDepth 100000 in
theorem zb_X1_refine_5_139 {al : Bool} {n : Nat} {r92 : Nat → Int → Int → Int → Int → gi_H → Option (Int × gi_H)} {res : Int} {h1 : gi_H} (hr92 : ∀ (x0 : Nat) (x1 : Int) (x2 : Int) (x3 : Int) (x4 : Int) (hh : gi_H), r92 x0 x1 x2 x3 x4 hh = some (res, h1) → gx_Z mX1_refine al al 0 0 92 [(0, .ref x0), (1, .int (gI x1)), (2, .int (gI x2)), (3, .int (gI x3)), (4, .int (gI x4))] [] (gi_cv hh) (.inl (some (.int (gI res)))) (gi_cv h1)) {v0 : Nat} {v1 : Int} {v2 : Int} {v3 : Int} {v4 : Int}  {h : gi_H} (e : b_X1_refine_5_139 n r92 v0 v1 v2 v3 v4 h = some (res, h1)) : gx_Z mX1_refine al al 0 0 139 [(0, .ref v0), (1, .int (gI v1)), (2, .int (gI v2)), (3, .int (gI v3)), (4, .int (gI v4))] [] (gi_cv h) (.inl (some (.int (gI res)))) (gi_cv h1) := by
  refine gx_nE e (fun t25 ht25 e => ?_)
  refine gy_iinc (v := t25) (ls2 := [(4, .int (gI t25)), (0, .ref v0), (1, .int (gI v1)), (2, .int (gI v2)), (3, .int (gI v3))]) dX1_refine_139 4 rfl ht25 (Nat.le_of_ble_eq_true rfl) rfl ?_
  refine gx_goto (tgt := 92) dX1_refine_142 (by decide) ?_
  refine gx_sub (ls2 := [(0, .ref v0), (1, .int (gI v1)), (2, .int (gI v2)), (3, .int (gI v3)), (4, .int (gI t25))]) [1, 2, 3, 4, 0] rfl ?_
  exact hr92 _ _ _ _ _ _ e
set_option maxRecDepth 100000 in
def b_X1_refine_5_92 (n : Nat) (r92 : Nat → Int → Int → Int → Int → gi_H → Option (Int × gi_H)) (v0 : Nat) (v1 : Int) (v2 : Int) (v3 : Int) (v4 : Int)  (h : gi_H) : Option (Int × gi_H) :=
  Option.bind (gi_rg v4) fun _ => if (16 : Int) ≤ v4 then (Option.bind (gi_zo v3) fun _ => some (v3, h)) else (Option.bind (gi_gR h v0 5 4) fun t16 => Option.bind (gi_aI h 1 t16 v4) fun t17 => Option.bind (gi_is h v0 5) fun _ => Option.bind (f_X6_ofNonterminal v0 v4 t17 h) fun q19 => Option.bind (gi_is h v0 5) fun _ => Option.bind (f_X1_whole_5 v0 v4 v1 v2 h) fun q21 => Option.bind (gi_rg q19) fun _ => Option.bind (gi_rg q21) fun _ => if q19 = q21 then (b_X1_refine_5_139 n r92 v0 v1 v2 v3 v4 h) else (Option.bind (gi_is h v0 5) fun _ => Option.bind (f_X1_setWhole_5 v0 v4 v1 v2 q19 h) fun q27 => b_X1_refine_5_139 n r92 v0 v1 v2 (1 : Int) v4 q27))
set_option maxRecDepth 100000 in
theorem zb_X1_refine_5_92 {al : Bool} {n : Nat} {r92 : Nat → Int → Int → Int → Int → gi_H → Option (Int × gi_H)} {res : Int} {h1 : gi_H} (hr92 : ∀ (x0 : Nat) (x1 : Int) (x2 : Int) (x3 : Int) (x4 : Int) (hh : gi_H), r92 x0 x1 x2 x3 x4 hh = some (res, h1) → gx_Z mX1_refine al al 0 0 92 [(0, .ref x0), (1, .int (gI x1)), (2, .int (gI x2)), (3, .int (gI x3)), (4, .int (gI x4))] [] (gi_cv hh) (.inl (some (.int (gI res)))) (gi_cv h1)) {v0 : Nat} {v1 : Int} {v2 : Int} {v3 : Int} {v4 : Int}  {h : gi_H} (e : b_X1_refine_5_92 n r92 v0 v1 v2 v3 v4 h = some (res, h1)) : gx_Z mX1_refine al al 0 0 92 [(0, .ref v0), (1, .int (gI v1)), (2, .int (gI v2)), (3, .int (gI v3)), (4, .int (gI v4))] [] (gi_cv h) (.inl (some (.int (gI res)))) (gi_cv h1) := by
  refine gx_iload dX1_refine_92 4 rfl ?_
  refine gy_bipush dX1_refine_94 gcb_16 ?_
  refine gx_bE e (fun _ g13 e => ?_)
  refine gx_iE e (fun c14 e => ?_) (fun c14 e => ?_)
  · refine gy_icmp_ge (tgt := 145) (gi_rgS g13) (by decide) dX1_refine_96 (by decide) (fun _ => ?_) (fun z => absurd c14 z)
    refine gx_iload_n dX1_refine_145 rfl 3 rfl ?_
    refine gx_bE e (fun _ hu15 e => ?_)
    cases e
    exact gx_zret (gi_zoS hu15) dX1_refine_146 rfl ⟨Nat.le_of_ble_eq_true rfl, Nat.le_of_ble_eq_true rfl⟩ (fun z => z)
  · refine gy_icmp_ge (tgt := 145) (gi_rgS g13) (by decide) dX1_refine_96 (by decide) (fun z => absurd z c14) (fun _ => ?_)
    refine gx_aload_n dX1_refine_99 rfl 0 rfl ?_
    refine gx_iload dX1_refine_100 4 rfl ?_
    refine gx_aload_n dX1_refine_102 rfl 0 rfl ?_
    refine gx_bE e (fun t16 ht16 e => ?_)
    refine gy_fR ht16 dX1_refine_103 gf_RX1_9_5_4 (by decide) gkN_5_4 gkR_5_4 ?_
    refine gx_iload dX1_refine_106 4 rfl ?_
    refine gx_bE e (fun t17 ht17 e => ?_)
    refine gy_l1 ht17 dX1_refine_108 ?_
    refine gx_bE e (fun _ hu18 e => ?_)
    refine gx_bE e (fun q19 hq19 e => ?_)
    refine gx_callA (n := 2) (st := []) (As := [.int (gI v4), .int (gI t17)]) (b := v0) dX1_refine_109 (z_X6_ofNonterminal hq19) rfl ⟨rfl, gw_cw_X6_ofNonterminal, gw_13, gp_X6_ofNonterminal, ⟨Nat.le_of_ble_eq_true rfl, Nat.le_of_ble_eq_true rfl⟩⟩ (gi_isS hu18) (by decide) (x := ⟨"Grammarsmith$Chart", "ofNonterminal", "(II)I"⟩) (owner := "Grammarsmith$Chart") gw_800 gw_802 gw_816 gw_817 (by decide +kernel) (by decide +kernel) ⟨Nat.le_of_ble_eq_true rfl, Nat.le_of_ble_eq_true rfl⟩ (Nat.le_of_ble_eq_true rfl) (gy_k1 (x := .int (gI q19)) (kc2 := 0) (ks2 := 0) ⟨rfl, rfl⟩ ?_) gy_kn
    refine gx_istore (ls2 := [(5, .int (gI q19)), (0, .ref v0), (1, .int (gI v1)), (2, .int (gI v2)), (3, .int (gI v3)), (4, .int (gI v4))]) dX1_refine_112 (Nat.le_of_ble_eq_true rfl) rfl ?_
    refine gx_iload dX1_refine_114 0 rfl ?_
    refine gx_aload_n dX1_refine_116 rfl 1 rfl ?_
    refine gx_iload dX1_refine_117 5 rfl ?_
    refine gx_iload_n dX1_refine_119 rfl 2 rfl ?_
    refine gx_iload_n dX1_refine_120 rfl 3 rfl ?_
    refine gx_bE e (fun _ hu20 e => ?_)
    refine gx_bE e (fun q21 hq21 e => ?_)
    refine gx_callU (n := 3) (st := [.int (gI q19)]) (As := [.int (gI v4), .int (gI v1), .int (gI v2)]) (b := v0) dX1_refine_121 (z_X1_whole_5 hq21) rfl ⟨rfl, gw_cw_X1_whole, gw_11, gp_X1_whole, ⟨Nat.le_of_ble_eq_true rfl, Nat.le_of_ble_eq_true rfl⟩⟩ (gi_isS hu20) (by decide) (x := ⟨"Grammarsmith$Chart", "whole", "(III)I"⟩) (owner := "Grammarsmith$Chart") gw_776 gw_1820 gz_1_whole gw_778 rfl (by decide +kernel) ⟨Nat.le_of_ble_eq_true rfl, Nat.le_of_ble_eq_true rfl⟩ (Nat.le_of_ble_eq_true rfl) (gy_k1 (x := .int (gI q21)) (kc2 := 0) (ks2 := 0) ⟨rfl, rfl⟩ ?_) gy_kn
    refine gx_bE e (fun _ g22 e => ?_)
    refine gx_bE e (fun _ g23 e => ?_)
    refine gx_iE e (fun c24 e => ?_) (fun c24 e => ?_)
    · refine gy_icmp_eq (tgt := 139) (gi_rgS g22) (gi_rgS g23) dX1_refine_124 (by decide) (fun _ => ?_) (fun z => absurd c24 z)
      refine gx_sub (ls2 := [(0, .ref v0), (1, .int (gI v1)), (2, .int (gI v2)), (3, .int (gI v3)), (4, .int (gI v4))]) [1, 2, 3, 4, 5] rfl ?_
      exact zb_X1_refine_5_139 hr92 e
    · refine gy_icmp_eq (tgt := 139) (gi_rgS g22) (gi_rgS g23) dX1_refine_124 (by decide) (fun z => absurd z c24) (fun _ => ?_)
      refine gx_aload_n dX1_refine_127 rfl 1 rfl ?_
      refine gx_iload dX1_refine_128 5 rfl ?_
      refine gx_iload_n dX1_refine_130 rfl 2 rfl ?_
      refine gx_iload_n dX1_refine_131 rfl 3 rfl ?_
      refine gx_iload dX1_refine_132 0 rfl ?_
      refine gx_bE e (fun _ hu26 e => ?_)
      refine gx_bE e (fun q27 hq27 e => ?_)
      refine gx_callU (n := 4) (st := []) (As := [.int (gI v4), .int (gI v1), .int (gI v2), .int (gI q19)]) (b := v0) dX1_refine_134 (z_X1_setWhole_5 hq27) rfl ⟨rfl, gw_cw_X1_setWhole, gw_11, gp_X1_setWhole, ⟨Nat.le_of_ble_eq_true rfl, Nat.le_of_ble_eq_true rfl⟩⟩ (gi_isS hu26) (by decide) (x := ⟨"Grammarsmith$Chart", "setWhole", "(IIII)V"⟩) (owner := "Grammarsmith$Chart") gw_718 gw_1815 gz_1_setWhole gw_720 rfl (by decide +kernel) ⟨Nat.le_of_ble_eq_true rfl, Nat.le_of_ble_eq_true rfl⟩ (Nat.le_of_ble_eq_true rfl) (gy_k0 (kc2 := 0) (ks2 := 0) ⟨rfl, rfl⟩ ?_) gy_kn
      refine gy_iconst dX1_refine_137 ?_
      refine gx_istore_n (ls2 := [(3, .int (gI (1 : Int))), (5, .int (gI q19)), (0, .ref v0), (1, .int (gI v1)), (2, .int (gI v2)), (4, .int (gI v4))]) dX1_refine_138 rfl (Nat.le_of_ble_eq_true rfl) rfl ?_
      refine gx_sub (ls2 := [(0, .ref v0), (1, .int (gI v1)), (2, .int (gI v2)), (3, .int (gI (1 : Int))), (4, .int (gI v4))]) [2, 3, 4, 0, 5] rfl ?_
      exact zb_X1_refine_5_139 hr92 e
def l_X1_refine_5_92 (n : Nat)  : Nat → Nat → Int → Int → Int → Int → gi_H → Option (Int × gi_H)
  | 0, _, _, _, _, _, _ => none
  | k + 1, v0, v1, v2, v3, v4, h => b_X1_refine_5_92 n  (l_X1_refine_5_92 n  k) v0 v1 v2 v3 v4 h
theorem zl_X1_refine_5_92 {al : Bool} {n : Nat}  {res : Int} {h1 : gi_H}  : ∀ (k : Nat) (v0 : Nat) (v1 : Int) (v2 : Int) (v3 : Int) (v4 : Int) (h : gi_H), l_X1_refine_5_92 n  k v0 v1 v2 v3 v4 h = some (res, h1) → gx_Z mX1_refine al al 0 0 92 [(0, .ref v0), (1, .int (gI v1)), (2, .int (gI v2)), (3, .int (gI v3)), (4, .int (gI v4))] [] (gi_cv h) (.inl (some (.int (gI res)))) (gi_cv h1)
  | 0, _, _, _, _, _, _, e => gx_0E e
  | k + 1, _, _, _, _, _, _, e => zb_X1_refine_5_92 (n := n)  (zl_X1_refine_5_92  k) e
set_option maxRecDepth 100000 in
def b_X1_refine_5_87 (n : Nat)  (v0 : Nat) (v1 : Int) (v2 : Int)  (h : gi_H) : Option (Int × gi_H) :=
  l_X1_refine_5_92 n  n v0 v1 v2 (0 : Int) (0 : Int) h
set_option maxRecDepth 100000 in
theorem zb_X1_refine_5_87 {al : Bool} {n : Nat}  {res : Int} {h1 : gi_H}  {v0 : Nat} {v1 : Int} {v2 : Int}  {h : gi_H} (e : b_X1_refine_5_87 n v0 v1 v2 h = some (res, h1)) : gx_Z mX1_refine al al 0 0 87 [(0, .ref v0), (1, .int (gI v1)), (2, .int (gI v2))] [] (gi_cv h) (.inl (some (.int (gI res)))) (gi_cv h1) := by
  refine gy_iconst dX1_refine_87 ?_
  refine gx_istore_n (ls2 := [(3, .int (gI (0 : Int))), (0, .ref v0), (1, .int (gI v1)), (2, .int (gI v2))]) dX1_refine_88 rfl (Nat.le_of_ble_eq_true rfl) rfl ?_
  refine gy_iconst dX1_refine_89 ?_
  refine gx_istore (ls2 := [(4, .int (gI (0 : Int))), (3, .int (gI (0 : Int))), (0, .ref v0), (1, .int (gI v1)), (2, .int (gI v2))]) dX1_refine_90 (Nat.le_of_ble_eq_true rfl) rfl ?_
  refine gx_sub (ls2 := [(0, .ref v0), (1, .int (gI v1)), (2, .int (gI v2)), (3, .int (gI (0 : Int))), (4, .int (gI (0 : Int)))]) [2, 3, 4, 1, 0] rfl ?_
  exact zl_X1_refine_5_92  n _ _ _ _ _ _ e
set_option maxRecDepth 100000 in
def b_X1_refine_5_81 (n : Nat) (r13 : Nat → Int → Int → Int → gi_H → Option (Int × gi_H)) (v0 : Nat) (v1 : Int) (v2 : Int) (v3 : Int)  (h : gi_H) : Option (Int × gi_H) :=
  gx_nm (v3 + (1 : Int)) fun t37 => r13 v0 v1 v2 t37 h
set_option maxRecDepth 100000 in
theorem zb_X1_refine_5_81 {al : Bool} {n : Nat} {r13 : Nat → Int → Int → Int → gi_H → Option (Int × gi_H)} {res : Int} {h1 : gi_H} (hr13 : ∀ (x0 : Nat) (x1 : Int) (x2 : Int) (x3 : Int) (hh : gi_H), r13 x0 x1 x2 x3 hh = some (res, h1) → gx_Z mX1_refine al al 0 0 13 [(0, .ref x0), (1, .int (gI x1)), (2, .int (gI x2)), (3, .int (gI x3))] [] (gi_cv hh) (.inl (some (.int (gI res)))) (gi_cv h1)) {v0 : Nat} {v1 : Int} {v2 : Int} {v3 : Int}  {h : gi_H} (e : b_X1_refine_5_81 n r13 v0 v1 v2 v3 h = some (res, h1)) : gx_Z mX1_refine al al 0 0 81 [(0, .ref v0), (1, .int (gI v1)), (2, .int (gI v2)), (3, .int (gI v3))] [] (gi_cv h) (.inl (some (.int (gI res)))) (gi_cv h1) := by
  refine gx_nE e (fun t37 ht37 e => ?_)
  refine gy_iinc (v := t37) (ls2 := [(3, .int (gI t37)), (0, .ref v0), (1, .int (gI v1)), (2, .int (gI v2))]) dX1_refine_81 3 rfl ht37 (Nat.le_of_ble_eq_true rfl) rfl ?_
  refine gx_goto (tgt := 13) dX1_refine_84 (by decide) ?_
  refine gx_sub (ls2 := [(0, .ref v0), (1, .int (gI v1)), (2, .int (gI v2)), (3, .int (gI t37))]) [1, 2, 3, 0] rfl ?_
  exact hr13 _ _ _ _ _ e
set_option maxRecDepth 100000 in
def b_X1_refine_5_13 (n : Nat) (r13 : Nat → Int → Int → Int → gi_H → Option (Int × gi_H)) (v0 : Nat) (v1 : Int) (v2 : Int) (v3 : Int)  (h : gi_H) : Option (Int × gi_H) :=
  Option.bind (gi_gR h v0 5 0) fun t5 => Option.bind (gi_is h t5 2) fun _ => Option.bind (f_X3_grammar t5 h) fun q7 => Option.bind (gi_is h q7 3) fun _ => Option.bind (f_X4_count q7 h) fun q9 => Option.bind (gi_rg v3) fun _ => Option.bind (gi_rg q9) fun _ => if q9 ≤ v3 then (b_X1_refine_5_87 n  v0 v1 v2 h) else (Option.bind (gi_gR h v0 5 0) fun t28 => Option.bind (gi_is h t28 2) fun _ => Option.bind (f_X3_grammar t28 h) fun q30 => Option.bind (gi_is h q30 3) fun _ => Option.bind (f_X4_owner q30 v3 h) fun q32 => Option.bind (gi_is h v0 5) fun _ => Option.bind (f_X1_ofProduction_5 n v0 v3 v1 v2 h) fun q34 => Option.bind (gi_rg q32) fun _ => if q32 < 0 then (b_X1_refine_5_81 n r13 v0 v1 v2 v3 q34.2) else (if (16 : Int) ≤ q32 then (b_X1_refine_5_81 n r13 v0 v1 v2 v3 q34.2) else (Option.bind (gi_gR q34.2 v0 5 4) fun t39 => Option.bind (gi_gR q34.2 v0 5 4) fun t40 => Option.bind (gi_aI q34.2 1 t40 q32) fun t41 => Option.bind (gi_is q34.2 v0 5) fun _ => Option.bind (f_X6_either v0 t41 q34.1 q34.2) fun q43 => Option.bind (gi_s1 q34.2 t39 q32 q43) fun h44 => b_X1_refine_5_81 n r13 v0 v1 v2 v3 h44)))
set_option maxRecDepth 100000 in
theorem zb_X1_refine_5_13 {al : Bool} {n : Nat} {r13 : Nat → Int → Int → Int → gi_H → Option (Int × gi_H)} {res : Int} {h1 : gi_H} (hr13 : ∀ (x0 : Nat) (x1 : Int) (x2 : Int) (x3 : Int) (hh : gi_H), r13 x0 x1 x2 x3 hh = some (res, h1) → gx_Z mX1_refine al al 0 0 13 [(0, .ref x0), (1, .int (gI x1)), (2, .int (gI x2)), (3, .int (gI x3))] [] (gi_cv hh) (.inl (some (.int (gI res)))) (gi_cv h1)) {v0 : Nat} {v1 : Int} {v2 : Int} {v3 : Int}  {h : gi_H} (e : b_X1_refine_5_13 n r13 v0 v1 v2 v3 h = some (res, h1)) : gx_Z mX1_refine al al 0 0 13 [(0, .ref v0), (1, .int (gI v1)), (2, .int (gI v2)), (3, .int (gI v3))] [] (gi_cv h) (.inl (some (.int (gI res)))) (gi_cv h1) := by
  refine gx_iload_n dX1_refine_13 rfl 3 rfl ?_
  refine gx_aload_n dX1_refine_14 rfl 0 rfl ?_
  refine gx_bE e (fun t5 ht5 e => ?_)
  refine gy_fR ht5 dX1_refine_15 gf_RX1_15_5_0 (by decide) gkN_5_0 gkR_5_0 ?_
  refine gx_bE e (fun _ hu6 e => ?_)
  refine gx_bE e (fun q7 hq7 e => ?_)
  refine gx_callV (n := 0) (st := [.int (gI v3)]) (As := []) (b := t5) dX1_refine_18 (z_X3_grammar hq7) rfl ⟨rfl, gw_cw_X3_grammar, gw_6, gp_X3_grammar, ⟨Nat.le_of_ble_eq_true rfl, Nat.le_of_ble_eq_true rfl⟩⟩ (gi_isS hu6) (by decide) gw_731 gw_556 gw_557 rfl ⟨Nat.le_of_ble_eq_true rfl, Nat.le_of_ble_eq_true rfl⟩ (Nat.le_of_ble_eq_true rfl) (gy_k1 (x := .ref q7) (kc2 := 0) (ks2 := 0) ⟨rfl, rfl⟩ ?_) gy_kn
  refine gx_bE e (fun _ hu8 e => ?_)
  refine gx_bE e (fun q9 hq9 e => ?_)
  refine gx_callV (n := 0) (st := [.int (gI v3)]) (As := []) (b := q7) dX1_refine_21 (z_X4_count hq9) rfl ⟨rfl, gw_cw_X4_count, gw_3, gp_X4_count, ⟨Nat.le_of_ble_eq_true rfl, Nat.le_of_ble_eq_true rfl⟩⟩ (gi_isS hu8) (by decide) gw_732 gw_393 gw_394 rfl ⟨Nat.le_of_ble_eq_true rfl, Nat.le_of_ble_eq_true rfl⟩ (Nat.le_of_ble_eq_true rfl) (gy_k1 (x := .int (gI q9)) (kc2 := 0) (ks2 := 0) ⟨rfl, rfl⟩ ?_) gy_kn
  refine gx_bE e (fun _ g10 e => ?_)
  refine gx_bE e (fun _ g11 e => ?_)
  refine gx_iE e (fun c12 e => ?_) (fun c12 e => ?_)
  · refine gy_icmp_ge (tgt := 87) (gi_rgS g10) (gi_rgS g11) dX1_refine_24 (by decide) (fun _ => ?_) (fun z => absurd c12 z)
    refine gx_sub (ls2 := [(0, .ref v0), (1, .int (gI v1)), (2, .int (gI v2))]) [0, 1, 2] rfl ?_
    exact zb_X1_refine_5_87  e
  · refine gy_icmp_ge (tgt := 87) (gi_rgS g10) (gi_rgS g11) dX1_refine_24 (by decide) (fun z => absurd z c12) (fun _ => ?_)
    refine gx_aload_n dX1_refine_27 rfl 0 rfl ?_
    refine gx_bE e (fun t28 ht28 e => ?_)
    refine gy_fR ht28 dX1_refine_28 gf_RX1_15_5_0 (by decide) gkN_5_0 gkR_5_0 ?_
    refine gx_bE e (fun _ hu29 e => ?_)
    refine gx_bE e (fun q30 hq30 e => ?_)
    refine gx_callV (n := 0) (st := []) (As := []) (b := t28) dX1_refine_31 (z_X3_grammar hq30) rfl ⟨rfl, gw_cw_X3_grammar, gw_6, gp_X3_grammar, ⟨Nat.le_of_ble_eq_true rfl, Nat.le_of_ble_eq_true rfl⟩⟩ (gi_isS hu29) (by decide) gw_731 gw_556 gw_557 rfl ⟨Nat.le_of_ble_eq_true rfl, Nat.le_of_ble_eq_true rfl⟩ (Nat.le_of_ble_eq_true rfl) (gy_k1 (x := .ref q30) (kc2 := 0) (ks2 := 0) ⟨rfl, rfl⟩ ?_) gy_kn
    refine gx_iload_n dX1_refine_34 rfl 3 rfl ?_
    refine gx_bE e (fun _ hu31 e => ?_)
    refine gx_bE e (fun q32 hq32 e => ?_)
    refine gx_callV (n := 1) (st := []) (As := [.int (gI v3)]) (b := q30) dX1_refine_35 (z_X4_owner hq32) rfl ⟨rfl, gw_cw_X4_owner, gw_3, gp_X4_owner, ⟨Nat.le_of_ble_eq_true rfl, Nat.le_of_ble_eq_true rfl⟩⟩ (gi_isS hu31) (by decide) gw_733 gw_416 gw_417 rfl ⟨Nat.le_of_ble_eq_true rfl, Nat.le_of_ble_eq_true rfl⟩ (Nat.le_of_ble_eq_true rfl) (gy_k1 (x := .int (gI q32)) (kc2 := 0) (ks2 := 0) ⟨rfl, rfl⟩ ?_) gy_kn
    refine gx_istore (ls2 := [(4, .int (gI q32)), (0, .ref v0), (1, .int (gI v1)), (2, .int (gI v2)), (3, .int (gI v3))]) dX1_refine_38 (Nat.le_of_ble_eq_true rfl) rfl ?_
    refine gx_aload_n dX1_refine_40 rfl 1 rfl ?_
    refine gx_iload_n dX1_refine_41 rfl 4 rfl ?_
    refine gx_iload_n dX1_refine_42 rfl 2 rfl ?_
    refine gx_iload_n dX1_refine_43 rfl 3 rfl ?_
    refine gx_bE e (fun _ hu33 e => ?_)
    refine gx_bE e (fun q34 hq34 e => ?_)
    refine gx_callU (n := 3) (st := []) (As := [.int (gI v3), .int (gI v1), .int (gI v2)]) (b := v0) dX1_refine_44 (z_X1_ofProduction_5 hq34) rfl ⟨rfl, gw_cw_X1_ofProduction, gw_11, gp_X1_ofProduction, ⟨Nat.le_of_ble_eq_true rfl, Nat.le_of_ble_eq_true rfl⟩⟩ (gi_isS hu33) (by decide) (x := ⟨"Grammarsmith$Chart", "ofProduction", "(III)I"⟩) (owner := "Grammarsmith$Chart") gw_734 gw_1817 gz_1_ofProduction gw_736 rfl (by decide +kernel) ⟨Nat.le_of_ble_eq_true rfl, Nat.le_of_ble_eq_true rfl⟩ (Nat.le_of_ble_eq_true rfl) (gy_k1 (x := .int (gI q34.1)) (kc2 := 0) (ks2 := 0) ⟨rfl, rfl⟩ ?_) gy_kn
    refine gx_istore (ls2 := [(5, .int (gI q34.1)), (4, .int (gI q32)), (0, .ref v0), (1, .int (gI v1)), (2, .int (gI v2)), (3, .int (gI v3))]) dX1_refine_47 (Nat.le_of_ble_eq_true rfl) rfl ?_
    refine gx_iload dX1_refine_49 1 rfl ?_
    refine gx_bE e (fun _ g35 e => ?_)
    refine gx_iE e (fun c36 e => ?_) (fun c36 e => ?_)
    · refine gy_if_lt (tgt := 81) (gi_rgS g35) dX1_refine_51 (by decide) (fun _ => ?_) (fun z => absurd c36 z)
      refine gx_sub (ls2 := [(0, .ref v0), (1, .int (gI v1)), (2, .int (gI v2)), (3, .int (gI v3))]) [2, 3, 4, 5] rfl ?_
      exact zb_X1_refine_5_81 hr13 e
    · refine gy_if_lt (tgt := 81) (gi_rgS g35) dX1_refine_51 (by decide) (fun z => absurd z c36) (fun _ => ?_)
      refine gx_iload dX1_refine_54 1 rfl ?_
      refine gy_bipush dX1_refine_56 gcb_16 ?_
      refine gx_iE e (fun c38 e => ?_) (fun c38 e => ?_)
      · refine gy_icmp_ge (tgt := 81) (gi_rgS g35) (by decide) dX1_refine_58 (by decide) (fun _ => ?_) (fun z => absurd c38 z)
        refine gx_sub (ls2 := [(0, .ref v0), (1, .int (gI v1)), (2, .int (gI v2)), (3, .int (gI v3))]) [2, 3, 4, 5] rfl ?_
        exact zb_X1_refine_5_81 hr13 e
      · refine gy_icmp_ge (tgt := 81) (gi_rgS g35) (by decide) dX1_refine_58 (by decide) (fun z => absurd z c38) (fun _ => ?_)
        refine gx_aload_n dX1_refine_61 rfl 2 rfl ?_
        refine gx_bE e (fun t39 ht39 e => ?_)
        refine gy_fR ht39 dX1_refine_62 gf_RX1_9_5_4 (by decide) gkN_5_4 gkR_5_4 ?_
        refine gx_iload dX1_refine_65 1 rfl ?_
        refine gx_aload_n dX1_refine_67 rfl 2 rfl ?_
        refine gx_aload_n dX1_refine_68 rfl 2 rfl ?_
        refine gx_bE e (fun t40 ht40 e => ?_)
        refine gy_fR ht40 dX1_refine_69 gf_RX1_9_5_4 (by decide) gkN_5_4 gkR_5_4 ?_
        refine gx_iload dX1_refine_72 1 rfl ?_
        refine gx_bE e (fun t41 ht41 e => ?_)
        refine gy_l1 ht41 dX1_refine_74 ?_
        refine gx_iload dX1_refine_75 0 rfl ?_
        refine gx_bE e (fun _ hu42 e => ?_)
        refine gx_bE e (fun q43 hq43 e => ?_)
        refine gx_callA (n := 2) (st := [.int (gI q32), .ref t39]) (As := [.int (gI t41), .int (gI q34.1)]) (b := v0) dX1_refine_77 (z_X6_either hq43) rfl ⟨rfl, gw_cw_X6_either, gw_13, gp_X6_either, ⟨Nat.le_of_ble_eq_true rfl, Nat.le_of_ble_eq_true rfl⟩⟩ (gi_isS hu42) (by decide) (x := ⟨"Grammarsmith$Chart", "either", "(II)I"⟩) (owner := "Grammarsmith$Chart") gw_791 gw_793 gw_797 gw_798 (by decide +kernel) (by decide +kernel) ⟨Nat.le_of_ble_eq_true rfl, Nat.le_of_ble_eq_true rfl⟩ (Nat.le_of_ble_eq_true rfl) (gy_k1 (x := .int (gI q43)) (kc2 := 0) (ks2 := 0) ⟨rfl, rfl⟩ ?_) gy_kn
        refine gx_bE e (fun h44 hh44 e => ?_)
        refine gy_t1 hh44 dX1_refine_80 ?_
        refine gx_sub (ls2 := [(0, .ref v0), (1, .int (gI v1)), (2, .int (gI v2)), (3, .int (gI v3))]) [2, 3, 4, 5] rfl ?_
        exact zb_X1_refine_5_81 hr13 e
def l_X1_refine_5_13 (n : Nat)  : Nat → Nat → Int → Int → Int → gi_H → Option (Int × gi_H)
  | 0, _, _, _, _, _ => none
  | k + 1, v0, v1, v2, v3, h => b_X1_refine_5_13 n  (l_X1_refine_5_13 n  k) v0 v1 v2 v3 h
theorem zl_X1_refine_5_13 {al : Bool} {n : Nat}  {res : Int} {h1 : gi_H}  : ∀ (k : Nat) (v0 : Nat) (v1 : Int) (v2 : Int) (v3 : Int) (h : gi_H), l_X1_refine_5_13 n  k v0 v1 v2 v3 h = some (res, h1) → gx_Z mX1_refine al al 0 0 13 [(0, .ref v0), (1, .int (gI v1)), (2, .int (gI v2)), (3, .int (gI v3))] [] (gi_cv h) (.inl (some (.int (gI res)))) (gi_cv h1)
  | 0, _, _, _, _, _, e => gx_0E e
  | k + 1, _, _, _, _, _, e => zb_X1_refine_5_13 (n := n)  (zl_X1_refine_5_13  k) e
set_option maxRecDepth 100000 in
def f_X1_refine_5 (n : Nat) (v0 : Nat) (v1 : Int) (v2 : Int) (h : gi_H) : Option (Int × gi_H) :=
  Option.bind (gi_gR h v0 5 4) fun t1 => Option.bind (gi_is h v0 5) fun _ => Option.bind (f_X6_none v0 h) fun q3 => Option.bind (f_J7_fill_53178 n t1 q3 h) fun q4 => l_X1_refine_5_13 n  n v0 v1 v2 (0 : Int) q4
set_option maxRecDepth 100000 in
theorem z_X1_refine_5 {al : Bool} {n : Nat} {v0 : Nat} {v1 : Int} {v2 : Int} {h : gi_H} {res : Int} {h1 : gi_H} (e : f_X1_refine_5 n v0 v1 v2 h = some (res, h1)) : gx_Cw mX1_refine al [.ref v0, .int (gI v1), .int (gI v2)] (gi_cv h) (.inl (some (.int (gI res)))) (gi_cv h1) := by
  refine gx_enter (by decide +kernel) rfl (Nat.le_of_ble_eq_true rfl) ?_
  show gx_Z mX1_refine al al 0 0 0 [(0, .ref v0), (1, .int (gI v1)), (2, .int (gI v2))] [] (gi_cv h) (.inl (some (.int (gI res)))) (gi_cv h1)
  refine gx_aload_n dX1_refine_0 rfl 0 rfl ?_
  refine gx_bE e (fun t1 ht1 e => ?_)
  refine gy_fR ht1 dX1_refine_1 gf_RX1_9_5_4 (by decide) gkN_5_4 gkR_5_4 ?_
  refine gx_aload_n dX1_refine_4 rfl 0 rfl ?_
  refine gx_bE e (fun _ hu2 e => ?_)
  refine gx_bE e (fun q3 hq3 e => ?_)
  refine gx_callA (n := 0) (st := [.ref t1]) (As := []) (b := v0) dX1_refine_5 (z_X6_none hq3) rfl ⟨rfl, gw_cw_X6_none, gw_13, gp_X6_none, ⟨Nat.le_of_ble_eq_true rfl, Nat.le_of_ble_eq_true rfl⟩⟩ (gi_isS hu2) (by decide) (x := ⟨"Grammarsmith$Chart", "none", "()I"⟩) (owner := "Grammarsmith$Chart") gw_709 gw_711 gw_715 gw_716 (by decide +kernel) (by decide +kernel) ⟨Nat.le_of_ble_eq_true rfl, Nat.le_of_ble_eq_true rfl⟩ (Nat.le_of_ble_eq_true rfl) (gy_k1 (x := .int (gI q3)) (kc2 := 0) (ks2 := 0) ⟨rfl, rfl⟩ ?_) gy_kn
  refine gx_bE e (fun q4 hq4 e => ?_)
  refine gx_callS (n := 2) (st := []) (As := [.ref t1, .int (gI q3)]) dX1_refine_8 (z_J7_fill_53178 hq4) rfl ⟨rfl, gw_cw_J7_fill_53178, gw_5, gp_J7_fill_53178, ⟨Nat.le_of_ble_eq_true rfl, Nat.le_of_ble_eq_true rfl⟩⟩ gw_730 gw_99 ⟨Nat.le_of_ble_eq_true rfl, Nat.le_of_ble_eq_true rfl⟩ (Nat.le_of_ble_eq_true rfl) (gy_k0 (kc2 := 0) (ks2 := 0) ⟨rfl, rfl⟩ ?_) gy_kn
  refine gy_iconst dX1_refine_11 ?_
  refine gx_istore_n (ls2 := [(3, .int (gI (0 : Int))), (0, .ref v0), (1, .int (gI v1)), (2, .int (gI v2))]) dX1_refine_12 rfl (Nat.le_of_ble_eq_true rfl) rfl ?_
  refine gx_sub (ls2 := [(0, .ref v0), (1, .int (gI v1)), (2, .int (gI v2)), (3, .int (gI (0 : Int)))]) [1, 2, 3, 0] rfl ?_
  exact zl_X1_refine_5_13  n _ _ _ _ _ e
/-! X1_fill 5 -/
set_option maxRecDepth 100000 in
def b_X1_fill_5_30 (n : Nat) (r30 : Nat → Int → Int → Int → Int → gi_H → Option (gi_H)) (v0 : Nat) (v1 : Int) (v2 : Int) (v3 : Int) (v4 : Int)  (h : gi_H) : Option (gi_H) :=
  Option.bind (gi_rg v4) fun _ => if (1000000 : Int) ≤ v4 then (some h) else (Option.bind (gi_rg v3) fun _ => if v3 = 0 then (some h) else (Option.bind (gi_is h v0 5) fun _ => Option.bind (f_X1_refine_5 n v0 v1 v2 h) fun q8 => gx_nm (v4 + (1 : Int)) fun t9 => r30 v0 v1 v2 q8.1 t9 q8.2))
set_option maxRecDepth 100000 in
theorem zb_X1_fill_5_30 {al : Bool} {n : Nat} {r30 : Nat → Int → Int → Int → Int → gi_H → Option (gi_H)} {h1 : gi_H} (hr30 : ∀ (x0 : Nat) (x1 : Int) (x2 : Int) (x3 : Int) (x4 : Int) (hh : gi_H), r30 x0 x1 x2 x3 x4 hh = some h1 → gx_Z mX1_fill al al 0 0 30 [(0, .ref x0), (1, .int (gI x1)), (2, .int (gI x2)), (3, .int (gI x3)), (4, .int (gI x4))] [] (gi_cv hh) (.inl none) (gi_cv h1)) {v0 : Nat} {v1 : Int} {v2 : Int} {v3 : Int} {v4 : Int}  {h : gi_H} (e : b_X1_fill_5_30 n r30 v0 v1 v2 v3 v4 h = some h1) : gx_Z mX1_fill al al 0 0 30 [(0, .ref v0), (1, .int (gI v1)), (2, .int (gI v2)), (3, .int (gI v3)), (4, .int (gI v4))] [] (gi_cv h) (.inl none) (gi_cv h1) := by
  refine gx_iload dX1_fill_30 4 rfl ?_
  refine gy_ldc (n := 1000000) dX1_fill_32 gw_725 (by decide +kernel) ?_
  refine gx_bE e (fun _ g3 e => ?_)
  refine gx_iE e (fun c4 e => ?_) (fun c4 e => ?_)
  · refine gy_icmp_ge (tgt := 54) (gi_rgS g3) (by decide) dX1_fill_34 (by decide) (fun _ => ?_) (fun z => absurd c4 z)
    cases e
    exact gx_vret dX1_fill_54 rfl ⟨Nat.le_of_ble_eq_true rfl, Nat.le_of_ble_eq_true rfl⟩ (fun z => z)
  · refine gy_icmp_ge (tgt := 54) (gi_rgS g3) (by decide) dX1_fill_34 (by decide) (fun z => absurd z c4) (fun _ => ?_)
    refine gx_iload_n dX1_fill_37 rfl 3 rfl ?_
    refine gx_bE e (fun _ g5 e => ?_)
    refine gx_iE e (fun c6 e => ?_) (fun c6 e => ?_)
    · refine gy_if_eq (tgt := 54) (gi_rgS g5) dX1_fill_38 (by decide) (fun _ => ?_) (fun z => absurd c6 z)
      cases e
      exact gx_vret dX1_fill_54 rfl ⟨Nat.le_of_ble_eq_true rfl, Nat.le_of_ble_eq_true rfl⟩ (fun z => z)
    · refine gy_if_eq (tgt := 54) (gi_rgS g5) dX1_fill_38 (by decide) (fun z => absurd z c6) (fun _ => ?_)
      refine gx_aload_n dX1_fill_41 rfl 0 rfl ?_
      refine gx_iload_n dX1_fill_42 rfl 1 rfl ?_
      refine gx_iload_n dX1_fill_43 rfl 2 rfl ?_
      refine gx_bE e (fun _ hu7 e => ?_)
      refine gx_bE e (fun q8 hq8 e => ?_)
      refine gx_callU (n := 2) (st := []) (As := [.int (gI v1), .int (gI v2)]) (b := v0) dX1_fill_44 (z_X1_refine_5 hq8) rfl ⟨rfl, gw_cw_X1_refine, gw_11, gp_X1_refine, ⟨Nat.le_of_ble_eq_true rfl, Nat.le_of_ble_eq_true rfl⟩⟩ (gi_isS hu7) (by decide) (x := ⟨"Grammarsmith$Chart", "refine", "(II)Z"⟩) (owner := "Grammarsmith$Chart") gw_726 gw_1816 gz_1_refine gw_728 rfl (by decide +kernel) ⟨Nat.le_of_ble_eq_true rfl, Nat.le_of_ble_eq_true rfl⟩ (Nat.le_of_ble_eq_true rfl) (gy_k1 (x := .int (gI q8.1)) (kc2 := 0) (ks2 := 0) ⟨rfl, rfl⟩ ?_) gy_kn
      refine gx_istore_n (ls2 := [(3, .int (gI q8.1)), (0, .ref v0), (1, .int (gI v1)), (2, .int (gI v2)), (4, .int (gI v4))]) dX1_fill_47 rfl (Nat.le_of_ble_eq_true rfl) rfl ?_
      refine gx_nE e (fun t9 ht9 e => ?_)
      refine gy_iinc (v := t9) (ls2 := [(4, .int (gI t9)), (3, .int (gI q8.1)), (0, .ref v0), (1, .int (gI v1)), (2, .int (gI v2))]) dX1_fill_48 4 rfl ht9 (Nat.le_of_ble_eq_true rfl) rfl ?_
      refine gx_goto (tgt := 30) dX1_fill_51 (by decide) ?_
      refine gx_sub (ls2 := [(0, .ref v0), (1, .int (gI v1)), (2, .int (gI v2)), (3, .int (gI q8.1)), (4, .int (gI t9))]) [2, 3, 4, 1, 0] rfl ?_
      exact hr30 _ _ _ _ _ _ e
def l_X1_fill_5_30 (n : Nat)  : Nat → Nat → Int → Int → Int → Int → gi_H → Option (gi_H)
  | 0, _, _, _, _, _, _ => none
  | k + 1, v0, v1, v2, v3, v4, h => b_X1_fill_5_30 n  (l_X1_fill_5_30 n  k) v0 v1 v2 v3 v4 h
theorem zl_X1_fill_5_30 {al : Bool} {n : Nat}  {h1 : gi_H}  : ∀ (k : Nat) (v0 : Nat) (v1 : Int) (v2 : Int) (v3 : Int) (v4 : Int) (h : gi_H), l_X1_fill_5_30 n  k v0 v1 v2 v3 v4 h = some h1 → gx_Z mX1_fill al al 0 0 30 [(0, .ref v0), (1, .int (gI v1)), (2, .int (gI v2)), (3, .int (gI v3)), (4, .int (gI v4))] [] (gi_cv h) (.inl none) (gi_cv h1)
  | 0, _, _, _, _, _, _, e => gx_0E e
  | k + 1, _, _, _, _, _, _, e => zb_X1_fill_5_30 (n := n)  (zl_X1_fill_5_30  k) e
set_option maxRecDepth 100000 in
def b_X1_fill_5_25 (n : Nat)  (v0 : Nat) (v1 : Int) (v2 : Int)  (h : gi_H) : Option (gi_H) :=
  l_X1_fill_5_30 n  n v0 v1 v2 (1 : Int) (0 : Int) h
set_option maxRecDepth 100000 in
theorem zb_X1_fill_5_25 {al : Bool} {n : Nat}  {h1 : gi_H}  {v0 : Nat} {v1 : Int} {v2 : Int}  {h : gi_H} (e : b_X1_fill_5_25 n v0 v1 v2 h = some h1) : gx_Z mX1_fill al al 0 0 25 [(0, .ref v0), (1, .int (gI v1)), (2, .int (gI v2))] [] (gi_cv h) (.inl none) (gi_cv h1) := by
  refine gy_iconst dX1_fill_25 ?_
  refine gx_istore_n (ls2 := [(3, .int (gI (1 : Int))), (0, .ref v0), (1, .int (gI v1)), (2, .int (gI v2))]) dX1_fill_26 rfl (Nat.le_of_ble_eq_true rfl) rfl ?_
  refine gy_iconst dX1_fill_27 ?_
  refine gx_istore (ls2 := [(4, .int (gI (0 : Int))), (3, .int (gI (1 : Int))), (0, .ref v0), (1, .int (gI v1)), (2, .int (gI v2))]) dX1_fill_28 (Nat.le_of_ble_eq_true rfl) rfl ?_
  refine gx_sub (ls2 := [(0, .ref v0), (1, .int (gI v1)), (2, .int (gI v2)), (3, .int (gI (1 : Int))), (4, .int (gI (0 : Int)))]) [2, 3, 4, 1, 0] rfl ?_
  exact zl_X1_fill_5_30  n _ _ _ _ _ _ e
set_option maxRecDepth 100000 in
def b_X1_fill_5_2 (n : Nat) (r2 : Nat → Int → Int → Int → gi_H → Option (gi_H)) (v0 : Nat) (v1 : Int) (v2 : Int) (v3 : Int)  (h : gi_H) : Option (gi_H) :=
  Option.bind (gi_rg v3) fun _ => if (16 : Int) ≤ v3 then (b_X1_fill_5_25 n  v0 v1 v2 h) else (Option.bind (gi_is h v0 5) fun _ => Option.bind (f_X6_none v0 h) fun q11 => Option.bind (gi_is h v0 5) fun _ => Option.bind (f_X1_setWhole_5 v0 v3 v1 v2 q11 h) fun q13 => gx_nm (v3 + (1 : Int)) fun t14 => r2 v0 v1 v2 t14 q13)
set_option maxRecDepth 100000 in
theorem zb_X1_fill_5_2 {al : Bool} {n : Nat} {r2 : Nat → Int → Int → Int → gi_H → Option (gi_H)} {h1 : gi_H} (hr2 : ∀ (x0 : Nat) (x1 : Int) (x2 : Int) (x3 : Int) (hh : gi_H), r2 x0 x1 x2 x3 hh = some h1 → gx_Z mX1_fill al al 0 0 2 [(0, .ref x0), (1, .int (gI x1)), (2, .int (gI x2)), (3, .int (gI x3))] [] (gi_cv hh) (.inl none) (gi_cv h1)) {v0 : Nat} {v1 : Int} {v2 : Int} {v3 : Int}  {h : gi_H} (e : b_X1_fill_5_2 n r2 v0 v1 v2 v3 h = some h1) : gx_Z mX1_fill al al 0 0 2 [(0, .ref v0), (1, .int (gI v1)), (2, .int (gI v2)), (3, .int (gI v3))] [] (gi_cv h) (.inl none) (gi_cv h1) := by
  refine gx_iload_n dX1_fill_2 rfl 3 rfl ?_
  refine gy_bipush dX1_fill_3 gcb_16 ?_
  refine gx_bE e (fun _ g1 e => ?_)
  refine gx_iE e (fun c2 e => ?_) (fun c2 e => ?_)
  · refine gy_icmp_ge (tgt := 25) (gi_rgS g1) (by decide) dX1_fill_5 (by decide) (fun _ => ?_) (fun z => absurd c2 z)
    refine gx_sub (ls2 := [(0, .ref v0), (1, .int (gI v1)), (2, .int (gI v2))]) [0, 1, 2] rfl ?_
    exact zb_X1_fill_5_25  e
  · refine gy_icmp_ge (tgt := 25) (gi_rgS g1) (by decide) dX1_fill_5 (by decide) (fun z => absurd z c2) (fun _ => ?_)
    refine gx_aload_n dX1_fill_8 rfl 0 rfl ?_
    refine gx_iload_n dX1_fill_9 rfl 3 rfl ?_
    refine gx_iload_n dX1_fill_10 rfl 1 rfl ?_
    refine gx_iload_n dX1_fill_11 rfl 2 rfl ?_
    refine gx_aload_n dX1_fill_12 rfl 0 rfl ?_
    refine gx_bE e (fun _ hu10 e => ?_)
    refine gx_bE e (fun q11 hq11 e => ?_)
    refine gx_callA (n := 0) (st := [.int (gI v2), .int (gI v1), .int (gI v3), .ref v0]) (As := []) (b := v0) dX1_fill_13 (z_X6_none hq11) rfl ⟨rfl, gw_cw_X6_none, gw_13, gp_X6_none, ⟨Nat.le_of_ble_eq_true rfl, Nat.le_of_ble_eq_true rfl⟩⟩ (gi_isS hu10) (by decide) (x := ⟨"Grammarsmith$Chart", "none", "()I"⟩) (owner := "Grammarsmith$Chart") gw_709 gw_711 gw_715 gw_716 (by decide +kernel) (by decide +kernel) ⟨Nat.le_of_ble_eq_true rfl, Nat.le_of_ble_eq_true rfl⟩ (Nat.le_of_ble_eq_true rfl) (gy_k1 (x := .int (gI q11)) (kc2 := 0) (ks2 := 0) ⟨rfl, rfl⟩ ?_) gy_kn
    refine gx_bE e (fun _ hu12 e => ?_)
    refine gx_bE e (fun q13 hq13 e => ?_)
    refine gx_callU (n := 4) (st := []) (As := [.int (gI v3), .int (gI v1), .int (gI v2), .int (gI q11)]) (b := v0) dX1_fill_16 (z_X1_setWhole_5 hq13) rfl ⟨rfl, gw_cw_X1_setWhole, gw_11, gp_X1_setWhole, ⟨Nat.le_of_ble_eq_true rfl, Nat.le_of_ble_eq_true rfl⟩⟩ (gi_isS hu12) (by decide) (x := ⟨"Grammarsmith$Chart", "setWhole", "(IIII)V"⟩) (owner := "Grammarsmith$Chart") gw_718 gw_1815 gz_1_setWhole gw_720 rfl (by decide +kernel) ⟨Nat.le_of_ble_eq_true rfl, Nat.le_of_ble_eq_true rfl⟩ (Nat.le_of_ble_eq_true rfl) (gy_k0 (kc2 := 0) (ks2 := 0) ⟨rfl, rfl⟩ ?_) gy_kn
    refine gx_nE e (fun t14 ht14 e => ?_)
    refine gy_iinc (v := t14) (ls2 := [(3, .int (gI t14)), (0, .ref v0), (1, .int (gI v1)), (2, .int (gI v2))]) dX1_fill_19 3 rfl ht14 (Nat.le_of_ble_eq_true rfl) rfl ?_
    refine gx_goto (tgt := 2) dX1_fill_22 (by decide) ?_
    refine gx_sub (ls2 := [(0, .ref v0), (1, .int (gI v1)), (2, .int (gI v2)), (3, .int (gI t14))]) [1, 2, 3, 0] rfl ?_
    exact hr2 _ _ _ _ _ e
def l_X1_fill_5_2 (n : Nat)  : Nat → Nat → Int → Int → Int → gi_H → Option (gi_H)
  | 0, _, _, _, _, _ => none
  | k + 1, v0, v1, v2, v3, h => b_X1_fill_5_2 n  (l_X1_fill_5_2 n  k) v0 v1 v2 v3 h
theorem zl_X1_fill_5_2 {al : Bool} {n : Nat}  {h1 : gi_H}  : ∀ (k : Nat) (v0 : Nat) (v1 : Int) (v2 : Int) (v3 : Int) (h : gi_H), l_X1_fill_5_2 n  k v0 v1 v2 v3 h = some h1 → gx_Z mX1_fill al al 0 0 2 [(0, .ref v0), (1, .int (gI v1)), (2, .int (gI v2)), (3, .int (gI v3))] [] (gi_cv h) (.inl none) (gi_cv h1)
  | 0, _, _, _, _, _, e => gx_0E e
  | k + 1, _, _, _, _, _, e => zb_X1_fill_5_2 (n := n)  (zl_X1_fill_5_2  k) e
set_option maxRecDepth 100000 in
def f_X1_fill_5 (n : Nat) (v0 : Nat) (v1 : Int) (v2 : Int) (h : gi_H) : Option (gi_H) :=
  l_X1_fill_5_2 n  n v0 v1 v2 (0 : Int) h
set_option maxRecDepth 100000 in
theorem z_X1_fill_5 {al : Bool} {n : Nat} {v0 : Nat} {v1 : Int} {v2 : Int} {h : gi_H} {h1 : gi_H} (e : f_X1_fill_5 n v0 v1 v2 h = some h1) : gx_Cw mX1_fill al [.ref v0, .int (gI v1), .int (gI v2)] (gi_cv h) (.inl none) (gi_cv h1) := by
  refine gx_enter (by decide +kernel) rfl (Nat.le_of_ble_eq_true rfl) ?_
  show gx_Z mX1_fill al al 0 0 0 [(0, .ref v0), (1, .int (gI v1)), (2, .int (gI v2))] [] (gi_cv h) (.inl none) (gi_cv h1)
  refine gy_iconst dX1_fill_0 ?_
  refine gx_istore_n (ls2 := [(3, .int (gI (0 : Int))), (0, .ref v0), (1, .int (gI v1)), (2, .int (gI v2))]) dX1_fill_1 rfl (Nat.le_of_ble_eq_true rfl) rfl ?_
  refine gx_sub (ls2 := [(0, .ref v0), (1, .int (gI v1)), (2, .int (gI v2)), (3, .int (gI (0 : Int)))]) [1, 2, 3, 0] rfl ?_
  exact zl_X1_fill_5_2  n _ _ _ _ _ e
/-! X1_measure 5 -/
set_option maxRecDepth 100000 in
def b_X1_measure_5_47 (n : Nat)  (v0 : Nat) (v2 : Int)  (h : gi_H) : Option (Int × gi_H) :=
  Option.bind (gi_gR h v0 5 0) fun t6 => Option.bind (gi_is h t6 2) fun _ => Option.bind (f_X3_grammar t6 h) fun q8 => Option.bind (gi_is h q8 3) fun _ => Option.bind (f_X4_top q8 h) fun q10 => Option.bind (gi_is h v0 5) fun _ => Option.bind (f_X1_whole_5 v0 q10 (0 : Int) v2 h) fun q12 => some (q12, h)
set_option maxRecDepth 100000 in
theorem zb_X1_measure_5_47 {al : Bool} {n : Nat}  {res : Int} {h1 : gi_H}  {v0 : Nat} {v2 : Int}  {h : gi_H} (e : b_X1_measure_5_47 n v0 v2 h = some (res, h1)) : gx_Z mX1_measure al al 0 0 47 [(0, .ref v0), (2, .int (gI v2))] [] (gi_cv h) (.inl (some (.int (gI res)))) (gi_cv h1) := by
  refine gx_aload_n dX1_measure_47 rfl 0 rfl ?_
  refine gx_aload_n dX1_measure_48 rfl 0 rfl ?_
  refine gx_bE e (fun t6 ht6 e => ?_)
  refine gy_fR ht6 dX1_measure_49 gf_RX1_15_5_0 (by decide) gkN_5_0 gkR_5_0 ?_
  refine gx_bE e (fun _ hu7 e => ?_)
  refine gx_bE e (fun q8 hq8 e => ?_)
  refine gx_callV (n := 0) (st := [.ref v0]) (As := []) (b := t6) dX1_measure_52 (z_X3_grammar hq8) rfl ⟨rfl, gw_cw_X3_grammar, gw_6, gp_X3_grammar, ⟨Nat.le_of_ble_eq_true rfl, Nat.le_of_ble_eq_true rfl⟩⟩ (gi_isS hu7) (by decide) gw_731 gw_556 gw_557 rfl ⟨Nat.le_of_ble_eq_true rfl, Nat.le_of_ble_eq_true rfl⟩ (Nat.le_of_ble_eq_true rfl) (gy_k1 (x := .ref q8) (kc2 := 0) (ks2 := 0) ⟨rfl, rfl⟩ ?_) gy_kn
  refine gx_bE e (fun _ hu9 e => ?_)
  refine gx_bE e (fun q10 hq10 e => ?_)
  refine gx_callV (n := 0) (st := [.ref v0]) (As := []) (b := q8) dX1_measure_55 (z_X4_top hq10) rfl ⟨rfl, gw_cw_X4_top, gw_3, gp_X4_top, ⟨Nat.le_of_ble_eq_true rfl, Nat.le_of_ble_eq_true rfl⟩⟩ (gi_isS hu9) (by decide) gw_819 gw_443 gw_444 rfl ⟨Nat.le_of_ble_eq_true rfl, Nat.le_of_ble_eq_true rfl⟩ (Nat.le_of_ble_eq_true rfl) (gy_k1 (x := .int (gI q10)) (kc2 := 0) (ks2 := 0) ⟨rfl, rfl⟩ ?_) gy_kn
  refine gy_iconst dX1_measure_58 ?_
  refine gx_iload_n dX1_measure_59 rfl 1 rfl ?_
  refine gx_bE e (fun _ hu11 e => ?_)
  refine gx_bE e (fun q12 hq12 e => ?_)
  refine gx_callU (n := 3) (st := []) (As := [.int (gI q10), .int (gI (0 : Int)), .int (gI v2)]) (b := v0) dX1_measure_60 (z_X1_whole_5 hq12) rfl ⟨rfl, gw_cw_X1_whole, gw_11, gp_X1_whole, ⟨Nat.le_of_ble_eq_true rfl, Nat.le_of_ble_eq_true rfl⟩⟩ (gi_isS hu11) (by decide) (x := ⟨"Grammarsmith$Chart", "whole", "(III)I"⟩) (owner := "Grammarsmith$Chart") gw_776 gw_1820 gz_1_whole gw_778 rfl (by decide +kernel) ⟨Nat.le_of_ble_eq_true rfl, Nat.le_of_ble_eq_true rfl⟩ (Nat.le_of_ble_eq_true rfl) (gy_k1 (x := .int (gI q12)) (kc2 := 0) (ks2 := 0) ⟨rfl, rfl⟩ ?_) gy_kn
  cases e
  exact gx_iret dX1_measure_63 rfl ⟨Nat.le_of_ble_eq_true rfl, Nat.le_of_ble_eq_true rfl⟩ (fun z => z)
set_option maxRecDepth 100000 in
def b_X1_measure_5_41 (n : Nat) (r9 : Nat → Int → Int → gi_H → Option (Int × gi_H)) (v0 : Nat) (v2 : Int) (v3 : Int)  (h : gi_H) : Option (Int × gi_H) :=
  gx_nm (v3 + (1 : Int)) fun t16 => r9 v0 v2 t16 h
set_option maxRecDepth 100000 in
theorem zb_X1_measure_5_41 {al : Bool} {n : Nat} {r9 : Nat → Int → Int → gi_H → Option (Int × gi_H)} {res : Int} {h1 : gi_H} (hr9 : ∀ (x0 : Nat) (x2 : Int) (x3 : Int) (hh : gi_H), r9 x0 x2 x3 hh = some (res, h1) → gx_Z mX1_measure al al 0 0 9 [(0, .ref x0), (2, .int (gI x2)), (3, .int (gI x3))] [] (gi_cv hh) (.inl (some (.int (gI res)))) (gi_cv h1)) {v0 : Nat} {v2 : Int} {v3 : Int}  {h : gi_H} (e : b_X1_measure_5_41 n r9 v0 v2 v3 h = some (res, h1)) : gx_Z mX1_measure al al 0 0 41 [(0, .ref v0), (2, .int (gI v2)), (3, .int (gI v3))] [] (gi_cv h) (.inl (some (.int (gI res)))) (gi_cv h1) := by
  refine gx_nE e (fun t16 ht16 e => ?_)
  refine gy_iinc (v := t16) (ls2 := [(3, .int (gI t16)), (0, .ref v0), (2, .int (gI v2))]) dX1_measure_41 2 rfl ht16 (Nat.le_of_ble_eq_true rfl) rfl ?_
  refine gx_goto (tgt := 9) dX1_measure_44 (by decide) ?_
  refine gx_sub (ls2 := [(0, .ref v0), (2, .int (gI v2)), (3, .int (gI t16))]) [1, 2, 0] rfl ?_
  exact hr9 _ _ _ _ e
set_option maxRecDepth 100000 in
def b_X1_measure_5_17 (n : Nat) (r9 : Nat → Int → Int → gi_H → Option (Int × gi_H)) (r17 : Nat → Int → Int → Int → gi_H → Option (Int × gi_H)) (v0 : Nat) (v2 : Int) (v3 : Int) (v4 : Int)  (h : gi_H) : Option (Int × gi_H) :=
  Option.bind (gi_rg (v4 + v3)) fun _ => Option.bind (gi_rg v2) fun _ => if v2 < (v4 + v3) then (b_X1_measure_5_41 n r9 v0 v2 v3 h) else (Option.bind (gi_is h v0 5) fun _ => Option.bind (f_X1_fill_5 n v0 v4 (v4 + v3) h) fun q18 => gx_nm (v4 + (1 : Int)) fun t19 => r17 v0 v2 v3 t19 q18)
set_option maxRecDepth 100000 in
theorem zb_X1_measure_5_17 {al : Bool} {n : Nat} {r9 : Nat → Int → Int → gi_H → Option (Int × gi_H)} {r17 : Nat → Int → Int → Int → gi_H → Option (Int × gi_H)} {res : Int} {h1 : gi_H} (hr9 : ∀ (x0 : Nat) (x2 : Int) (x3 : Int) (hh : gi_H), r9 x0 x2 x3 hh = some (res, h1) → gx_Z mX1_measure al al 0 0 9 [(0, .ref x0), (2, .int (gI x2)), (3, .int (gI x3))] [] (gi_cv hh) (.inl (some (.int (gI res)))) (gi_cv h1)) (hr17 : ∀ (x0 : Nat) (x2 : Int) (x3 : Int) (x4 : Int) (hh : gi_H), r17 x0 x2 x3 x4 hh = some (res, h1) → gx_Z mX1_measure al al 0 0 17 [(0, .ref x0), (2, .int (gI x2)), (3, .int (gI x3)), (4, .int (gI x4))] [] (gi_cv hh) (.inl (some (.int (gI res)))) (gi_cv h1)) {v0 : Nat} {v2 : Int} {v3 : Int} {v4 : Int}  {h : gi_H} (e : b_X1_measure_5_17 n r9 r17 v0 v2 v3 v4 h = some (res, h1)) : gx_Z mX1_measure al al 0 0 17 [(0, .ref v0), (2, .int (gI v2)), (3, .int (gI v3)), (4, .int (gI v4))] [] (gi_cv h) (.inl (some (.int (gI res)))) (gi_cv h1) := by
  refine gx_iload dX1_measure_17 3 rfl ?_
  refine gx_iload_n dX1_measure_19 rfl 2 rfl ?_
  refine gy_iadd dX1_measure_20 ?_
  refine gx_iload_n dX1_measure_21 rfl 1 rfl ?_
  refine gx_bE e (fun _ g13 e => ?_)
  refine gx_bE e (fun _ g14 e => ?_)
  refine gx_iE e (fun c15 e => ?_) (fun c15 e => ?_)
  · refine gy_icmp_gt (tgt := 41) (gi_rgS g13) (gi_rgS g14) dX1_measure_22 (by decide) (fun _ => ?_) (fun z => absurd c15 z)
    refine gx_sub (ls2 := [(0, .ref v0), (2, .int (gI v2)), (3, .int (gI v3))]) [0, 1, 2] rfl ?_
    exact zb_X1_measure_5_41 hr9 e
  · refine gy_icmp_gt (tgt := 41) (gi_rgS g13) (gi_rgS g14) dX1_measure_22 (by decide) (fun z => absurd z c15) (fun _ => ?_)
    refine gx_aload_n dX1_measure_25 rfl 0 rfl ?_
    refine gx_iload dX1_measure_26 3 rfl ?_
    refine gx_iload dX1_measure_28 3 rfl ?_
    refine gx_iload_n dX1_measure_30 rfl 2 rfl ?_
    refine gy_iadd dX1_measure_31 ?_
    refine gx_bE e (fun _ hu17 e => ?_)
    refine gx_bE e (fun q18 hq18 e => ?_)
    refine gx_callU (n := 2) (st := []) (As := [.int (gI v4), .int (gI (v4 + v3))]) (b := v0) dX1_measure_32 (z_X1_fill_5 hq18) rfl ⟨rfl, gw_cw_X1_fill, gw_11, gp_X1_fill, ⟨Nat.le_of_ble_eq_true rfl, Nat.le_of_ble_eq_true rfl⟩⟩ (gi_isS hu17) (by decide) (x := ⟨"Grammarsmith$Chart", "fill", "(II)V"⟩) (owner := "Grammarsmith$Chart") gw_705 gw_1814 gz_1_fill gw_707 rfl (by decide +kernel) ⟨Nat.le_of_ble_eq_true rfl, Nat.le_of_ble_eq_true rfl⟩ (Nat.le_of_ble_eq_true rfl) (gy_k0 (kc2 := 0) (ks2 := 0) ⟨rfl, rfl⟩ ?_) gy_kn
    refine gx_nE e (fun t19 ht19 e => ?_)
    refine gy_iinc (v := t19) (ls2 := [(4, .int (gI t19)), (0, .ref v0), (2, .int (gI v2)), (3, .int (gI v3))]) dX1_measure_35 3 rfl ht19 (Nat.le_of_ble_eq_true rfl) rfl ?_
    refine gx_goto (tgt := 17) dX1_measure_38 (by decide) ?_
    refine gx_sub (ls2 := [(0, .ref v0), (2, .int (gI v2)), (3, .int (gI v3)), (4, .int (gI t19))]) [1, 2, 3, 0] rfl ?_
    exact hr17 _ _ _ _ _ e
def l_X1_measure_5_17 (n : Nat) (r9 : Nat → Int → Int → gi_H → Option (Int × gi_H)) : Nat → Nat → Int → Int → Int → gi_H → Option (Int × gi_H)
  | 0, _, _, _, _, _ => none
  | k + 1, v0, v2, v3, v4, h => b_X1_measure_5_17 n r9 (l_X1_measure_5_17 n r9 k) v0 v2 v3 v4 h
theorem zl_X1_measure_5_17 {al : Bool} {n : Nat} {r9 : Nat → Int → Int → gi_H → Option (Int × gi_H)} {res : Int} {h1 : gi_H} (hr9 : ∀ (x0 : Nat) (x2 : Int) (x3 : Int) (hh : gi_H), r9 x0 x2 x3 hh = some (res, h1) → gx_Z mX1_measure al al 0 0 9 [(0, .ref x0), (2, .int (gI x2)), (3, .int (gI x3))] [] (gi_cv hh) (.inl (some (.int (gI res)))) (gi_cv h1)) : ∀ (k : Nat) (v0 : Nat) (v2 : Int) (v3 : Int) (v4 : Int) (h : gi_H), l_X1_measure_5_17 n r9 k v0 v2 v3 v4 h = some (res, h1) → gx_Z mX1_measure al al 0 0 17 [(0, .ref v0), (2, .int (gI v2)), (3, .int (gI v3)), (4, .int (gI v4))] [] (gi_cv h) (.inl (some (.int (gI res)))) (gi_cv h1)
  | 0, _, _, _, _, _, e => gx_0E e
  | k + 1, _, _, _, _, _, e => zb_X1_measure_5_17 (n := n) hr9 (zl_X1_measure_5_17 hr9 k) e
set_option maxRecDepth 100000 in
def b_X1_measure_5_9 (n : Nat) (r9 : Nat → Int → Int → gi_H → Option (Int × gi_H)) (v0 : Nat) (v2 : Int) (v3 : Int)  (h : gi_H) : Option (Int × gi_H) :=
  Option.bind (gi_rg v3) fun _ => Option.bind (gi_rg v2) fun _ => if v2 < v3 then (b_X1_measure_5_47 n  v0 v2 h) else (l_X1_measure_5_17 n r9 n v0 v2 v3 (0 : Int) h)
set_option maxRecDepth 100000 in
theorem zb_X1_measure_5_9 {al : Bool} {n : Nat} {r9 : Nat → Int → Int → gi_H → Option (Int × gi_H)} {res : Int} {h1 : gi_H} (hr9 : ∀ (x0 : Nat) (x2 : Int) (x3 : Int) (hh : gi_H), r9 x0 x2 x3 hh = some (res, h1) → gx_Z mX1_measure al al 0 0 9 [(0, .ref x0), (2, .int (gI x2)), (3, .int (gI x3))] [] (gi_cv hh) (.inl (some (.int (gI res)))) (gi_cv h1)) {v0 : Nat} {v2 : Int} {v3 : Int}  {h : gi_H} (e : b_X1_measure_5_9 n r9 v0 v2 v3 h = some (res, h1)) : gx_Z mX1_measure al al 0 0 9 [(0, .ref v0), (2, .int (gI v2)), (3, .int (gI v3))] [] (gi_cv h) (.inl (some (.int (gI res)))) (gi_cv h1) := by
  refine gx_iload_n dX1_measure_9 rfl 2 rfl ?_
  refine gx_iload_n dX1_measure_10 rfl 1 rfl ?_
  refine gx_bE e (fun _ g3 e => ?_)
  refine gx_bE e (fun _ g4 e => ?_)
  refine gx_iE e (fun c5 e => ?_) (fun c5 e => ?_)
  · refine gy_icmp_gt (tgt := 47) (gi_rgS g3) (gi_rgS g4) dX1_measure_11 (by decide) (fun _ => ?_) (fun z => absurd c5 z)
    refine gx_sub (ls2 := [(0, .ref v0), (2, .int (gI v2))]) [0, 1] rfl ?_
    exact zb_X1_measure_5_47  e
  · refine gy_icmp_gt (tgt := 47) (gi_rgS g3) (gi_rgS g4) dX1_measure_11 (by decide) (fun z => absurd z c5) (fun _ => ?_)
    refine gy_iconst dX1_measure_14 ?_
    refine gx_istore (ls2 := [(4, .int (gI (0 : Int))), (0, .ref v0), (2, .int (gI v2)), (3, .int (gI v3))]) dX1_measure_15 (Nat.le_of_ble_eq_true rfl) rfl ?_
    refine gx_sub (ls2 := [(0, .ref v0), (2, .int (gI v2)), (3, .int (gI v3)), (4, .int (gI (0 : Int)))]) [1, 2, 3, 0] rfl ?_
    exact zl_X1_measure_5_17 hr9 n _ _ _ _ _ e
def l_X1_measure_5_9 (n : Nat)  : Nat → Nat → Int → Int → gi_H → Option (Int × gi_H)
  | 0, _, _, _, _ => none
  | k + 1, v0, v2, v3, h => b_X1_measure_5_9 n  (l_X1_measure_5_9 n  k) v0 v2 v3 h
theorem zl_X1_measure_5_9 {al : Bool} {n : Nat}  {res : Int} {h1 : gi_H}  : ∀ (k : Nat) (v0 : Nat) (v2 : Int) (v3 : Int) (h : gi_H), l_X1_measure_5_9 n  k v0 v2 v3 h = some (res, h1) → gx_Z mX1_measure al al 0 0 9 [(0, .ref v0), (2, .int (gI v2)), (3, .int (gI v3))] [] (gi_cv h) (.inl (some (.int (gI res)))) (gi_cv h1)
  | 0, _, _, _, _, e => gx_0E e
  | k + 1, _, _, _, _, e => zb_X1_measure_5_9 (n := n)  (zl_X1_measure_5_9  k) e
set_option maxRecDepth 100000 in
def f_X1_measure_5 (n : Nat) (v0 : Nat) (v1 : Int) (h : gi_H) : Option (Int × gi_H) :=
  Option.bind (gi_rg v1) fun _ => gx_nm (gi_min v1 (12 : Int)) fun t2 => l_X1_measure_5_9 n  n v0 t2 (0 : Int) h
set_option maxRecDepth 100000 in
theorem z_X1_measure_5 {al : Bool} {n : Nat} {v0 : Nat} {v1 : Int} {h : gi_H} {res : Int} {h1 : gi_H} (e : f_X1_measure_5 n v0 v1 h = some (res, h1)) : gx_Cw mX1_measure al [.ref v0, .int (gI v1)] (gi_cv h) (.inl (some (.int (gI res)))) (gi_cv h1) := by
  refine gx_enter (by decide +kernel) rfl (Nat.le_of_ble_eq_true rfl) ?_
  show gx_Z mX1_measure al al 0 0 0 [(0, .ref v0), (1, .int (gI v1))] [] (gi_cv h) (.inl (some (.int (gI res)))) (gi_cv h1)
  refine gx_iload_n dX1_measure_0 rfl 1 rfl ?_
  refine gy_bipush dX1_measure_1 gcb_12 ?_
  refine gx_bE e (fun _ g1 e => ?_)
  refine gy_mmin (gi_rgS g1) (by decide) dX1_measure_3 gw_704 (Nat.le_of_ble_eq_true rfl) (Nat.le_of_ble_eq_true rfl) ⟨Nat.le_of_ble_eq_true rfl, Nat.le_of_ble_eq_true rfl⟩ ?_
  refine gx_nE e (fun t2 ht2 e => ?_)
  rw [ht2]
  refine gx_istore_n (ls2 := [(2, .int (gI t2)), (0, .ref v0), (1, .int (gI v1))]) dX1_measure_6 rfl (Nat.le_of_ble_eq_true rfl) rfl ?_
  refine gy_iconst dX1_measure_7 ?_
  refine gx_istore_n (ls2 := [(3, .int (gI (0 : Int))), (2, .int (gI t2)), (0, .ref v0), (1, .int (gI v1))]) dX1_measure_8 rfl (Nat.le_of_ble_eq_true rfl) rfl ?_
  refine gx_sub (ls2 := [(0, .ref v0), (2, .int (gI t2)), (3, .int (gI (0 : Int)))]) [2, 1, 0] rfl ?_
  exact zl_X1_measure_5_9  n _ _ _ _ e
/-! X11_readings  -/
set_option maxRecDepth 100000 in
def f_X11_readings (n : Nat) (v0 : Nat) (h : gi_H) : Option (Int × gi_H) :=
  Option.bind (gi_gR h v0 9 8) fun t1 => Option.bind (gi_is h t1 2) fun _ => Option.bind (f_X3_learn n t1 h) fun q3 => Option.bind (gi_gR q3 v0 9 15) fun t4 => Option.bind (gi_gI q3 v0 9 7) fun t5 => if gi_S q3 t4 = (0, 1) then (Option.bind (gi_is q3 t4 1) fun _ => Option.bind (f_X1_measure_1 n t4 t5 q3) fun q8 => some (q8.1, q8.2)) else (Option.bind (gi_is q3 t4 5) fun _ => Option.bind (f_X1_measure_5 n t4 t5 q3) fun q10 => some (q10.1, q10.2))
set_option maxRecDepth 100000 in
theorem z_X11_readings {al : Bool} {n : Nat} {v0 : Nat} {h : gi_H} {res : Int} {h1 : gi_H} (e : f_X11_readings n v0 h = some (res, h1)) : gx_Cw mX11_readings al [.ref v0] (gi_cv h) (.inl (some (.int (gI res)))) (gi_cv h1) := by
  refine gx_enter (by decide +kernel) rfl (Nat.le_of_ble_eq_true rfl) ?_
  show gx_Z mX11_readings al al 0 0 0 [(0, .ref v0)] [] (gi_cv h) (.inl (some (.int (gI res)))) (gi_cv h1)
  refine gx_aload_n dX11_readings_0 rfl 0 rfl ?_
  refine gx_bE e (fun t1 ht1 e => ?_)
  refine gy_fR ht1 dX11_readings_1 gf_RX11_52_9_8 (by decide) gkN_9_8 gkR_9_8 ?_
  refine gx_bE e (fun _ hu2 e => ?_)
  refine gx_bE e (fun q3 hq3 e => ?_)
  refine gx_callV (n := 0) (st := []) (As := []) (b := t1) dX11_readings_4 (z_X3_learn hq3) rfl ⟨rfl, gw_cw_X3_learn, gw_6, gp_X3_learn, ⟨Nat.le_of_ble_eq_true rfl, Nat.le_of_ble_eq_true rfl⟩⟩ (gi_isS hu2) (by decide) gw_404 gw_405 gw_406 rfl ⟨Nat.le_of_ble_eq_true rfl, Nat.le_of_ble_eq_true rfl⟩ (Nat.le_of_ble_eq_true rfl) (gy_k0 (kc2 := 0) (ks2 := 0) ⟨rfl, rfl⟩ ?_) gy_kn
  refine gx_aload_n dX11_readings_7 rfl 0 rfl ?_
  refine gx_bE e (fun t4 ht4 e => ?_)
  refine gy_fR ht4 dX11_readings_8 gf_RX11_91_9_15 (by decide) gkN_9_15 gkR_9_15 ?_
  refine gx_aload_n dX11_readings_11 rfl 0 rfl ?_
  refine gx_bE e (fun t5 ht5 e => ?_)
  refine gy_fI ht5 dX11_readings_12 gf_RX11_252_9_7 (by decide) gkN_9_7 gkR_9_7 ?_
  refine gx_iE e (fun c6 e => ?_) (fun c6 e => ?_)
  · refine gx_bE e (fun _ hu7 e => ?_)
    refine gx_bE e (fun q8 hq8 e => ?_)
    refine gx_callU (n := 1) (st := []) (As := [.int (gI t5)]) (b := t4) dX11_readings_15 (z_X1_measure_1 hq8) rfl ⟨rfl, gw_cw_X1_measure, gw_11, gp_X1_measure, ⟨Nat.le_of_ble_eq_true rfl, Nat.le_of_ble_eq_true rfl⟩⟩ (gi_isS hu7) (by decide) (x := ⟨"Grammarsmith$Chart", "measure", "(I)I"⟩) (owner := "Grammarsmith$Chart") gw_698 gw_700 gw_701 gw_699 rfl (by decide +kernel) ⟨Nat.le_of_ble_eq_true rfl, Nat.le_of_ble_eq_true rfl⟩ (Nat.le_of_ble_eq_true rfl) (gy_k1 (x := .int (gI q8.1)) (kc2 := 0) (ks2 := 0) ⟨rfl, rfl⟩ ?_) gy_kn
    cases e
    exact gx_iret dX11_readings_18 rfl ⟨Nat.le_of_ble_eq_true rfl, Nat.le_of_ble_eq_true rfl⟩ (fun z => z)
  · refine gx_bE e (fun _ hu9 e => ?_)
    refine gx_bE e (fun q10 hq10 e => ?_)
    refine gx_callU (n := 1) (st := []) (As := [.int (gI t5)]) (b := t4) dX11_readings_15 (z_X1_measure_5 hq10) rfl ⟨rfl, gw_cw_X1_measure, gw_11, gp_X1_measure, ⟨Nat.le_of_ble_eq_true rfl, Nat.le_of_ble_eq_true rfl⟩⟩ (gi_isS hu9) (by decide) (x := ⟨"Grammarsmith$Chart", "measure", "(I)I"⟩) (owner := "Grammarsmith$Chart") gw_698 gw_700 gw_702 gw_699 rfl (by decide +kernel) ⟨Nat.le_of_ble_eq_true rfl, Nat.le_of_ble_eq_true rfl⟩ (Nat.le_of_ble_eq_true rfl) (gy_k1 (x := .int (gI q10.1)) (kc2 := 0) (ks2 := 0) ⟨rfl, rfl⟩ ?_) gy_kn
    cases e
    exact gx_iret dX11_readings_18 rfl ⟨Nat.le_of_ble_eq_true rfl, Nat.le_of_ble_eq_true rfl⟩ (fun z => z)
/-! X12_at  -/
set_option maxRecDepth 100000 in
def f_X12_at (v0 : Int) (v1 : Int) (v2 : Int) (h : gi_H) : Option (Int) :=
  some ((((169 : Int) * v0) + ((13 : Int) * v1)) + v2)
set_option maxRecDepth 100000 in
theorem z_X12_at {al : Bool} {v0 : Int} {v1 : Int} {v2 : Int} {h : gi_H} {res : Int} (e : f_X12_at v0 v1 v2 h = some res) : gx_Cw mX12_at al [.int (gI v0), .int (gI v1), .int (gI v2)] (gi_cv h) (.inl (some (.int (gI res)))) (gi_cv h) := by
  refine gx_enter (by decide +kernel) rfl (Nat.le_of_ble_eq_true rfl) ?_
  show gx_Z mX12_at al al 0 0 0 [(0, .int (gI v0)), (1, .int (gI v1)), (2, .int (gI v2))] [] (gi_cv h) (.inl (some (.int (gI res)))) (gi_cv h)
  refine gy_sipush dX12_at_0 gcs_169 ?_
  refine gx_iload_n dX12_at_3 rfl 0 rfl ?_
  refine gy_imul dX12_at_4 ?_
  refine gy_bipush dX12_at_5 gcb_13 ?_
  refine gx_iload_n dX12_at_7 rfl 1 rfl ?_
  refine gy_imul dX12_at_8 ?_
  refine gy_iadd dX12_at_9 ?_
  refine gx_iload_n dX12_at_10 rfl 2 rfl ?_
  refine gy_iadd dX12_at_11 ?_
  cases e
  exact gx_iret dX12_at_12 rfl ⟨Nat.le_of_ble_eq_true rfl, Nat.le_of_ble_eq_true rfl⟩ (fun z => z)
/-! X12_ways  -/
set_option maxRecDepth 100000 in
def b_X12_ways_42    (h : gi_H) : Option (Int) :=
  some (0 : Int)
set_option maxRecDepth 100000 in
theorem zb_X12_ways_42 {al : Bool}  {res : Int}    {h : gi_H} (e : b_X12_ways_42  h = some res) : gx_Z mX12_ways al al 0 0 42 [] [] (gi_cv h) (.inl (some (.int (gI res)))) (gi_cv h) := by
  refine gy_iconst dX12_ways_42 ?_
  cases e
  exact gx_iret dX12_ways_43 rfl ⟨Nat.le_of_ble_eq_true rfl, Nat.le_of_ble_eq_true rfl⟩ (fun z => z)
set_option maxRecDepth 100000 in
def f_X12_ways (v0 : Nat) (v1 : Int) (v2 : Int) (v3 : Int) (h : gi_H) : Option (Int) :=
  Option.bind (gi_rg v1) fun _ => if v1 < (16 : Int) then (Option.bind (gi_rg v3) fun _ => Option.bind (gi_rg (v2 + (1 : Int))) fun _ => if v3 = (v2 + (1 : Int)) then (Option.bind (gi_gR h v0 10 16) fun t6 => Option.bind (gi_aI h 1 t6 v2) fun t7 => Option.bind (gi_rg t7) fun _ => if t7 = v1 then (some (1 : Int)) else (b_X12_ways_42   h)) else (b_X12_ways_42   h)) else (Option.bind (gi_gR h v0 10 41) fun t10 => Option.bind (f_X12_at (v1 - (16 : Int)) v2 v3 h) fun q11 => Option.bind (gi_aI h 1 t10 q11) fun t12 => some t12)
set_option maxRecDepth 100000 in
theorem z_X12_ways {al : Bool} {v0 : Nat} {v1 : Int} {v2 : Int} {v3 : Int} {h : gi_H} {res : Int} (e : f_X12_ways v0 v1 v2 v3 h = some res) : gx_Cw mX12_ways al [.ref v0, .int (gI v1), .int (gI v2), .int (gI v3)] (gi_cv h) (.inl (some (.int (gI res)))) (gi_cv h) := by
  refine gx_enter (by decide +kernel) rfl (Nat.le_of_ble_eq_true rfl) ?_
  show gx_Z mX12_ways al al 0 0 0 [(0, .ref v0), (1, .int (gI v1)), (2, .int (gI v2)), (3, .int (gI v3))] [] (gi_cv h) (.inl (some (.int (gI res)))) (gi_cv h)
  refine gx_iload_n dX12_ways_0 rfl 1 rfl ?_
  refine gy_bipush dX12_ways_1 gcb_16 ?_
  refine gx_bE e (fun _ g1 e => ?_)
  refine gx_iE e (fun c2 e => ?_) (fun c2 e => ?_)
  · refine gy_icmp_lt (tgt := 21) (gi_rgS g1) (by decide) dX12_ways_3 (by decide) (fun _ => ?_) (fun z => absurd c2 z)
    refine gx_iload_n dX12_ways_21 rfl 3 rfl ?_
    refine gx_iload_n dX12_ways_22 rfl 2 rfl ?_
    refine gy_iconst dX12_ways_23 ?_
    refine gy_iadd dX12_ways_24 ?_
    refine gx_bE e (fun _ g3 e => ?_)
    refine gx_bE e (fun _ g4 e => ?_)
    refine gx_iE e (fun c5 e => ?_) (fun c5 e => ?_)
    · refine gy_icmp_ne (tgt := 42) (gi_rgS g3) (gi_rgS g4) dX12_ways_25 (by decide) (fun z => absurd c5 z) (fun _ => ?_)
      refine gx_aload_n dX12_ways_28 rfl 0 rfl ?_
      refine gx_bE e (fun t6 ht6 e => ?_)
      refine gy_fR ht6 dX12_ways_29 gf_RX12_49_10_16 (by decide) gkN_10_16 gkR_10_16 ?_
      refine gx_iload_n dX12_ways_32 rfl 2 rfl ?_
      refine gx_bE e (fun t7 ht7 e => ?_)
      refine gy_l1 ht7 dX12_ways_33 ?_
      refine gx_iload_n dX12_ways_34 rfl 1 rfl ?_
      refine gx_bE e (fun _ g8 e => ?_)
      refine gx_iE e (fun c9 e => ?_) (fun c9 e => ?_)
      · refine gy_icmp_ne (tgt := 42) (gi_rgS g8) (gi_rgS g1) dX12_ways_35 (by decide) (fun z => absurd c9 z) (fun _ => ?_)
        refine gy_iconst dX12_ways_38 ?_
        refine gx_goto (tgt := 43) dX12_ways_39 (by decide) ?_
        cases e
        exact gx_iret dX12_ways_43 rfl ⟨Nat.le_of_ble_eq_true rfl, Nat.le_of_ble_eq_true rfl⟩ (fun z => z)
      · refine gy_icmp_ne (tgt := 42) (gi_rgS g8) (gi_rgS g1) dX12_ways_35 (by decide) (fun _ => ?_) (fun z => absurd z c9)
        refine gx_sub (ls2 := []) [] rfl ?_
        exact zb_X12_ways_42  e
    · refine gy_icmp_ne (tgt := 42) (gi_rgS g3) (gi_rgS g4) dX12_ways_25 (by decide) (fun _ => ?_) (fun z => absurd z c5)
      refine gx_sub (ls2 := []) [] rfl ?_
      exact zb_X12_ways_42  e
  · refine gy_icmp_lt (tgt := 21) (gi_rgS g1) (by decide) dX12_ways_3 (by decide) (fun z => absurd z c2) (fun _ => ?_)
    refine gx_aload_n dX12_ways_6 rfl 0 rfl ?_
    refine gx_bE e (fun t10 ht10 e => ?_)
    refine gy_fR ht10 dX12_ways_7 gf_RX12_95_10_41 (by decide) gkN_10_41 gkR_10_41 ?_
    refine gx_iload_n dX12_ways_10 rfl 1 rfl ?_
    refine gy_bipush dX12_ways_11 gcb_16 ?_
    refine gy_isub dX12_ways_13 ?_
    refine gx_iload_n dX12_ways_14 rfl 2 rfl ?_
    refine gx_iload_n dX12_ways_15 rfl 3 rfl ?_
    refine gx_bE e (fun q11 hq11 e => ?_)
    refine gx_callS (n := 3) (st := [.ref t10]) (As := [.int (gI (v1 - (16 : Int))), .int (gI v2), .int (gI v3)]) dX12_ways_16 (z_X12_at hq11) rfl ⟨rfl, gw_cw_X12_at, gw_14, gp_X12_at, ⟨Nat.le_of_ble_eq_true rfl, Nat.le_of_ble_eq_true rfl⟩⟩ gw_1795 gw_1796 ⟨Nat.le_of_ble_eq_true rfl, Nat.le_of_ble_eq_true rfl⟩ (Nat.le_of_ble_eq_true rfl) (gy_k1 (x := .int (gI q11)) (kc2 := 0) (ks2 := 0) ⟨rfl, rfl⟩ ?_) gy_kn
    refine gx_bE e (fun t12 ht12 e => ?_)
    refine gy_l1 ht12 dX12_ways_19 ?_
    cases e
    exact gx_iret dX12_ways_20 rfl ⟨Nat.le_of_ble_eq_true rfl, Nat.le_of_ble_eq_true rfl⟩ (fun z => z)
/-! X12_waysOf  -/
set_option maxRecDepth 100000 in
def b_X12_waysOf_178 (n : Nat)  (v0 : Nat) (v3 : Int)  (h : gi_H) : Option (Int × gi_H) :=
  Option.bind (gi_gR h v0 10 42) fun t9 => Option.bind (gi_aI h 1 t9 v3) fun t10 => some (t10, h)
set_option maxRecDepth 100000 in
theorem zb_X12_waysOf_178 {al : Bool} {n : Nat}  {res : Int} {h1 : gi_H}  {v0 : Nat} {v3 : Int}  {h : gi_H} (e : b_X12_waysOf_178 n v0 v3 h = some (res, h1)) : gx_Z mX12_waysOf al al 0 0 178 [(0, .ref v0), (3, .int (gI v3))] [] (gi_cv h) (.inl (some (.int (gI res)))) (gi_cv h1) := by
  refine gx_aload_n dX12_waysOf_178 rfl 0 rfl ?_
  refine gx_bE e (fun t9 ht9 e => ?_)
  refine gy_fR ht9 dX12_waysOf_179 gf_RX12_98_10_42 (by decide) gkN_10_42 gkR_10_42 ?_
  refine gx_iload_n dX12_waysOf_182 rfl 1 rfl ?_
  refine gx_bE e (fun t10 ht10 e => ?_)
  refine gy_l1 ht10 dX12_waysOf_183 ?_
  cases e
  exact gx_iret dX12_waysOf_184 rfl ⟨Nat.le_of_ble_eq_true rfl, Nat.le_of_ble_eq_true rfl⟩ (fun z => z)
set_option maxRecDepth 100000 in
def b_X12_waysOf_172 (n : Nat) (r36 : Nat → Int → Int → Int → Int → gi_H → Option (Int × gi_H)) (v0 : Nat) (v1 : Int) (v2 : Int) (v3 : Int) (v4 : Int)  (h : gi_H) : Option (Int × gi_H) :=
  gx_nm (v4 + (1 : Int)) fun t19 => r36 v0 v1 v2 v3 t19 h
set_option maxRecDepth 100000 in
theorem zb_X12_waysOf_172 {al : Bool} {n : Nat} {r36 : Nat → Int → Int → Int → Int → gi_H → Option (Int × gi_H)} {res : Int} {h1 : gi_H} (hr36 : ∀ (x0 : Nat) (x1 : Int) (x2 : Int) (x3 : Int) (x4 : Int) (hh : gi_H), r36 x0 x1 x2 x3 x4 hh = some (res, h1) → gx_Z mX12_waysOf al al 0 0 36 [(0, .ref x0), (1, .int (gI x1)), (2, .int (gI x2)), (3, .int (gI x3)), (4, .int (gI x4))] [] (gi_cv hh) (.inl (some (.int (gI res)))) (gi_cv h1)) {v0 : Nat} {v1 : Int} {v2 : Int} {v3 : Int} {v4 : Int}  {h : gi_H} (e : b_X12_waysOf_172 n r36 v0 v1 v2 v3 v4 h = some (res, h1)) : gx_Z mX12_waysOf al al 0 0 172 [(0, .ref v0), (1, .int (gI v1)), (2, .int (gI v2)), (3, .int (gI v3)), (4, .int (gI v4))] [] (gi_cv h) (.inl (some (.int (gI res)))) (gi_cv h1) := by
  refine gx_nE e (fun t19 ht19 e => ?_)
  refine gy_iinc (v := t19) (ls2 := [(4, .int (gI t19)), (0, .ref v0), (1, .int (gI v1)), (2, .int (gI v2)), (3, .int (gI v3))]) dX12_waysOf_172 4 rfl ht19 (Nat.le_of_ble_eq_true rfl) rfl ?_
  refine gx_goto (tgt := 36) dX12_waysOf_175 (by decide) ?_
  refine gx_sub (ls2 := [(0, .ref v0), (1, .int (gI v1)), (2, .int (gI v2)), (3, .int (gI v3)), (4, .int (gI t19))]) [1, 2, 3, 4, 0] rfl ?_
  exact hr36 _ _ _ _ _ _ e
set_option maxRecDepth 100000 in
def b_X12_waysOf_146 (n : Nat) (r36 : Nat → Int → Int → Int → Int → gi_H → Option (Int × gi_H)) (r146 : Nat → Int → Int → Int → Int → Int → gi_H → Option (Int × gi_H)) (v0 : Nat) (v1 : Int) (v2 : Int) (v3 : Int) (v4 : Int) (v6 : Int)  (h : gi_H) : Option (Int × gi_H) :=
  Option.bind (gi_rg v6) fun _ => Option.bind (gi_rg v3) fun _ => if v3 < v6 then (b_X12_waysOf_172 n r36 v0 v1 v2 v3 v4 h) else (Option.bind (gi_gR h v0 10 42) fun t20 => Option.bind (gi_gR h v0 10 43) fun t21 => Option.bind (gi_aI h 1 t21 v6) fun t22 => Option.bind (gi_s1 h t20 v6 t22) fun h23 => gx_nm (v6 + (1 : Int)) fun t24 => r146 v0 v1 v2 v3 v4 t24 h23)
set_option maxRecDepth 100000 in
theorem zb_X12_waysOf_146 {al : Bool} {n : Nat} {r36 : Nat → Int → Int → Int → Int → gi_H → Option (Int × gi_H)} {r146 : Nat → Int → Int → Int → Int → Int → gi_H → Option (Int × gi_H)} {res : Int} {h1 : gi_H} (hr36 : ∀ (x0 : Nat) (x1 : Int) (x2 : Int) (x3 : Int) (x4 : Int) (hh : gi_H), r36 x0 x1 x2 x3 x4 hh = some (res, h1) → gx_Z mX12_waysOf al al 0 0 36 [(0, .ref x0), (1, .int (gI x1)), (2, .int (gI x2)), (3, .int (gI x3)), (4, .int (gI x4))] [] (gi_cv hh) (.inl (some (.int (gI res)))) (gi_cv h1)) (hr146 : ∀ (x0 : Nat) (x1 : Int) (x2 : Int) (x3 : Int) (x4 : Int) (x6 : Int) (hh : gi_H), r146 x0 x1 x2 x3 x4 x6 hh = some (res, h1) → gx_Z mX12_waysOf al al 0 0 146 [(0, .ref x0), (1, .int (gI x1)), (2, .int (gI x2)), (3, .int (gI x3)), (4, .int (gI x4)), (6, .int (gI x6))] [] (gi_cv hh) (.inl (some (.int (gI res)))) (gi_cv h1)) {v0 : Nat} {v1 : Int} {v2 : Int} {v3 : Int} {v4 : Int} {v6 : Int}  {h : gi_H} (e : b_X12_waysOf_146 n r36 r146 v0 v1 v2 v3 v4 v6 h = some (res, h1)) : gx_Z mX12_waysOf al al 0 0 146 [(0, .ref v0), (1, .int (gI v1)), (2, .int (gI v2)), (3, .int (gI v3)), (4, .int (gI v4)), (6, .int (gI v6))] [] (gi_cv h) (.inl (some (.int (gI res)))) (gi_cv h1) := by
  refine gx_iload dX12_waysOf_146 5 rfl ?_
  refine gx_iload_n dX12_waysOf_148 rfl 3 rfl ?_
  refine gx_bE e (fun _ g16 e => ?_)
  refine gx_bE e (fun _ g17 e => ?_)
  refine gx_iE e (fun c18 e => ?_) (fun c18 e => ?_)
  · refine gy_icmp_gt (tgt := 172) (gi_rgS g16) (gi_rgS g17) dX12_waysOf_149 (by decide) (fun _ => ?_) (fun z => absurd c18 z)
    refine gx_sub (ls2 := [(0, .ref v0), (1, .int (gI v1)), (2, .int (gI v2)), (3, .int (gI v3)), (4, .int (gI v4))]) [0, 1, 2, 3, 4] rfl ?_
    exact zb_X12_waysOf_172 hr36 e
  · refine gy_icmp_gt (tgt := 172) (gi_rgS g16) (gi_rgS g17) dX12_waysOf_149 (by decide) (fun z => absurd z c18) (fun _ => ?_)
    refine gx_aload_n dX12_waysOf_152 rfl 0 rfl ?_
    refine gx_bE e (fun t20 ht20 e => ?_)
    refine gy_fR ht20 dX12_waysOf_153 gf_RX12_98_10_42 (by decide) gkN_10_42 gkR_10_42 ?_
    refine gx_iload dX12_waysOf_156 5 rfl ?_
    refine gx_aload_n dX12_waysOf_158 rfl 0 rfl ?_
    refine gx_bE e (fun t21 ht21 e => ?_)
    refine gy_fR ht21 dX12_waysOf_159 gf_RX12_101_10_43 (by decide) gkN_10_43 gkR_10_43 ?_
    refine gx_iload dX12_waysOf_162 5 rfl ?_
    refine gx_bE e (fun t22 ht22 e => ?_)
    refine gy_l1 ht22 dX12_waysOf_164 ?_
    refine gx_bE e (fun h23 hh23 e => ?_)
    refine gy_t1 hh23 dX12_waysOf_165 ?_
    refine gx_nE e (fun t24 ht24 e => ?_)
    refine gy_iinc (v := t24) (ls2 := [(6, .int (gI t24)), (0, .ref v0), (1, .int (gI v1)), (2, .int (gI v2)), (3, .int (gI v3)), (4, .int (gI v4))]) dX12_waysOf_166 5 rfl ht24 (Nat.le_of_ble_eq_true rfl) rfl ?_
    refine gx_goto (tgt := 146) dX12_waysOf_169 (by decide) ?_
    refine gx_sub (ls2 := [(0, .ref v0), (1, .int (gI v1)), (2, .int (gI v2)), (3, .int (gI v3)), (4, .int (gI v4)), (6, .int (gI t24))]) [1, 2, 3, 4, 5, 0] rfl ?_
    exact hr146 _ _ _ _ _ _ _ e
def l_X12_waysOf_146 (n : Nat) (r36 : Nat → Int → Int → Int → Int → gi_H → Option (Int × gi_H)) : Nat → Nat → Int → Int → Int → Int → Int → gi_H → Option (Int × gi_H)
  | 0, _, _, _, _, _, _, _ => none
  | k + 1, v0, v1, v2, v3, v4, v6, h => b_X12_waysOf_146 n r36 (l_X12_waysOf_146 n r36 k) v0 v1 v2 v3 v4 v6 h
theorem zl_X12_waysOf_146 {al : Bool} {n : Nat} {r36 : Nat → Int → Int → Int → Int → gi_H → Option (Int × gi_H)} {res : Int} {h1 : gi_H} (hr36 : ∀ (x0 : Nat) (x1 : Int) (x2 : Int) (x3 : Int) (x4 : Int) (hh : gi_H), r36 x0 x1 x2 x3 x4 hh = some (res, h1) → gx_Z mX12_waysOf al al 0 0 36 [(0, .ref x0), (1, .int (gI x1)), (2, .int (gI x2)), (3, .int (gI x3)), (4, .int (gI x4))] [] (gi_cv hh) (.inl (some (.int (gI res)))) (gi_cv h1)) : ∀ (k : Nat) (v0 : Nat) (v1 : Int) (v2 : Int) (v3 : Int) (v4 : Int) (v6 : Int) (h : gi_H), l_X12_waysOf_146 n r36 k v0 v1 v2 v3 v4 v6 h = some (res, h1) → gx_Z mX12_waysOf al al 0 0 146 [(0, .ref v0), (1, .int (gI v1)), (2, .int (gI v2)), (3, .int (gI v3)), (4, .int (gI v4)), (6, .int (gI v6))] [] (gi_cv h) (.inl (some (.int (gI res)))) (gi_cv h1)
  | 0, _, _, _, _, _, _, _, e => gx_0E e
  | k + 1, _, _, _, _, _, _, _, e => zb_X12_waysOf_146 (n := n) hr36 (zl_X12_waysOf_146 hr36 k) e
set_option maxRecDepth 100000 in
def b_X12_waysOf_143 (n : Nat) (r36 : Nat → Int → Int → Int → Int → gi_H → Option (Int × gi_H)) (v0 : Nat) (v1 : Int) (v2 : Int) (v3 : Int) (v4 : Int)  (h : gi_H) : Option (Int × gi_H) :=
  l_X12_waysOf_146 n r36 n v0 v1 v2 v3 v4 v2 h
set_option maxRecDepth 100000 in
theorem zb_X12_waysOf_143 {al : Bool} {n : Nat} {r36 : Nat → Int → Int → Int → Int → gi_H → Option (Int × gi_H)} {res : Int} {h1 : gi_H} (hr36 : ∀ (x0 : Nat) (x1 : Int) (x2 : Int) (x3 : Int) (x4 : Int) (hh : gi_H), r36 x0 x1 x2 x3 x4 hh = some (res, h1) → gx_Z mX12_waysOf al al 0 0 36 [(0, .ref x0), (1, .int (gI x1)), (2, .int (gI x2)), (3, .int (gI x3)), (4, .int (gI x4))] [] (gi_cv hh) (.inl (some (.int (gI res)))) (gi_cv h1)) {v0 : Nat} {v1 : Int} {v2 : Int} {v3 : Int} {v4 : Int}  {h : gi_H} (e : b_X12_waysOf_143 n r36 v0 v1 v2 v3 v4 h = some (res, h1)) : gx_Z mX12_waysOf al al 0 0 143 [(0, .ref v0), (1, .int (gI v1)), (2, .int (gI v2)), (3, .int (gI v3)), (4, .int (gI v4))] [] (gi_cv h) (.inl (some (.int (gI res)))) (gi_cv h1) := by
  refine gx_iload_n dX12_waysOf_143 rfl 2 rfl ?_
  refine gx_istore (ls2 := [(6, .int (gI v2)), (0, .ref v0), (1, .int (gI v1)), (2, .int (gI v2)), (3, .int (gI v3)), (4, .int (gI v4))]) dX12_waysOf_144 (Nat.le_of_ble_eq_true rfl) rfl ?_
  refine gx_sub (ls2 := [(0, .ref v0), (1, .int (gI v1)), (2, .int (gI v2)), (3, .int (gI v3)), (4, .int (gI v4)), (6, .int (gI v2))]) [1, 2, 3, 4, 5, 0] rfl ?_
  exact zl_X12_waysOf_146 hr36 n _ _ _ _ _ _ _ e
set_option maxRecDepth 100000 in
def b_X12_waysOf_137 (n : Nat) (r36 : Nat → Int → Int → Int → Int → gi_H → Option (Int × gi_H)) (r58 : Nat → Int → Int → Int → Int → Int → Int → gi_H → Option (Int × gi_H)) (v0 : Nat) (v1 : Int) (v2 : Int) (v3 : Int) (v4 : Int) (v5 : Int) (v6 : Int)  (h : gi_H) : Option (Int × gi_H) :=
  gx_nm (v6 + (1 : Int)) fun t30 => r58 v0 v1 v2 v3 v4 v5 t30 h
set_option maxRecDepth 100000 in
theorem zb_X12_waysOf_137 {al : Bool} {n : Nat} {r36 : Nat → Int → Int → Int → Int → gi_H → Option (Int × gi_H)} {r58 : Nat → Int → Int → Int → Int → Int → Int → gi_H → Option (Int × gi_H)} {res : Int} {h1 : gi_H} (hr36 : ∀ (x0 : Nat) (x1 : Int) (x2 : Int) (x3 : Int) (x4 : Int) (hh : gi_H), r36 x0 x1 x2 x3 x4 hh = some (res, h1) → gx_Z mX12_waysOf al al 0 0 36 [(0, .ref x0), (1, .int (gI x1)), (2, .int (gI x2)), (3, .int (gI x3)), (4, .int (gI x4))] [] (gi_cv hh) (.inl (some (.int (gI res)))) (gi_cv h1)) (hr58 : ∀ (x0 : Nat) (x1 : Int) (x2 : Int) (x3 : Int) (x4 : Int) (x5 : Int) (x6 : Int) (hh : gi_H), r58 x0 x1 x2 x3 x4 x5 x6 hh = some (res, h1) → gx_Z mX12_waysOf al al 0 0 58 [(0, .ref x0), (1, .int (gI x1)), (2, .int (gI x2)), (3, .int (gI x3)), (4, .int (gI x4)), (5, .int (gI x5)), (6, .int (gI x6))] [] (gi_cv hh) (.inl (some (.int (gI res)))) (gi_cv h1)) {v0 : Nat} {v1 : Int} {v2 : Int} {v3 : Int} {v4 : Int} {v5 : Int} {v6 : Int}  {h : gi_H} (e : b_X12_waysOf_137 n r36 r58 v0 v1 v2 v3 v4 v5 v6 h = some (res, h1)) : gx_Z mX12_waysOf al al 0 0 137 [(0, .ref v0), (1, .int (gI v1)), (2, .int (gI v2)), (3, .int (gI v3)), (4, .int (gI v4)), (5, .int (gI v5)), (6, .int (gI v6))] [] (gi_cv h) (.inl (some (.int (gI res)))) (gi_cv h1) := by
  refine gx_nE e (fun t30 ht30 e => ?_)
  refine gy_iinc (v := t30) (ls2 := [(6, .int (gI t30)), (0, .ref v0), (1, .int (gI v1)), (2, .int (gI v2)), (3, .int (gI v3)), (4, .int (gI v4)), (5, .int (gI v5))]) dX12_waysOf_137 6 rfl ht30 (Nat.le_of_ble_eq_true rfl) rfl ?_
  refine gx_goto (tgt := 58) dX12_waysOf_140 (by decide) ?_
  refine gx_sub (ls2 := [(0, .ref v0), (1, .int (gI v1)), (2, .int (gI v2)), (3, .int (gI v3)), (4, .int (gI v4)), (5, .int (gI v5)), (6, .int (gI t30))]) [1, 2, 3, 4, 5, 6, 0] rfl ?_
  exact hr58 _ _ _ _ _ _ _ _ e
set_option maxRecDepth 100000 in
def b_X12_waysOf_130 (n : Nat) (r36 : Nat → Int → Int → Int → Int → gi_H → Option (Int × gi_H)) (r58 : Nat → Int → Int → Int → Int → Int → Int → gi_H → Option (Int × gi_H)) (r75 : Nat → Int → Int → Int → Int → Int → Int → Int → gi_H → Option (Int × gi_H)) (v0 : Nat) (v1 : Int) (v2 : Int) (v3 : Int) (v4 : Int) (v5 : Int) (v6 : Int) (v7 : Int) (s0 : Nat) (s1 : Int) (s2 : Int) (h : gi_H) : Option (Int × gi_H) :=
  Option.bind (gi_s1 h s0 s1 s2) fun h41 => gx_nm (v7 + (1 : Int)) fun t42 => r75 v0 v1 v2 v3 v4 v5 v6 t42 h41
set_option maxRecDepth 100000 in
theorem zb_X12_waysOf_130 {al : Bool} {n : Nat} {r36 : Nat → Int → Int → Int → Int → gi_H → Option (Int × gi_H)} {r58 : Nat → Int → Int → Int → Int → Int → Int → gi_H → Option (Int × gi_H)} {r75 : Nat → Int → Int → Int → Int → Int → Int → Int → gi_H → Option (Int × gi_H)} {res : Int} {h1 : gi_H} (hr36 : ∀ (x0 : Nat) (x1 : Int) (x2 : Int) (x3 : Int) (x4 : Int) (hh : gi_H), r36 x0 x1 x2 x3 x4 hh = some (res, h1) → gx_Z mX12_waysOf al al 0 0 36 [(0, .ref x0), (1, .int (gI x1)), (2, .int (gI x2)), (3, .int (gI x3)), (4, .int (gI x4))] [] (gi_cv hh) (.inl (some (.int (gI res)))) (gi_cv h1)) (hr58 : ∀ (x0 : Nat) (x1 : Int) (x2 : Int) (x3 : Int) (x4 : Int) (x5 : Int) (x6 : Int) (hh : gi_H), r58 x0 x1 x2 x3 x4 x5 x6 hh = some (res, h1) → gx_Z mX12_waysOf al al 0 0 58 [(0, .ref x0), (1, .int (gI x1)), (2, .int (gI x2)), (3, .int (gI x3)), (4, .int (gI x4)), (5, .int (gI x5)), (6, .int (gI x6))] [] (gi_cv hh) (.inl (some (.int (gI res)))) (gi_cv h1)) (hr75 : ∀ (x0 : Nat) (x1 : Int) (x2 : Int) (x3 : Int) (x4 : Int) (x5 : Int) (x6 : Int) (x7 : Int) (hh : gi_H), r75 x0 x1 x2 x3 x4 x5 x6 x7 hh = some (res, h1) → gx_Z mX12_waysOf al al 0 0 75 [(0, .ref x0), (1, .int (gI x1)), (2, .int (gI x2)), (3, .int (gI x3)), (4, .int (gI x4)), (5, .int (gI x5)), (6, .int (gI x6)), (7, .int (gI x7))] [] (gi_cv hh) (.inl (some (.int (gI res)))) (gi_cv h1)) {v0 : Nat} {v1 : Int} {v2 : Int} {v3 : Int} {v4 : Int} {v5 : Int} {v6 : Int} {v7 : Int} {s0 : Nat} {s1 : Int} {s2 : Int} {h : gi_H} (e : b_X12_waysOf_130 n r36 r58 r75 v0 v1 v2 v3 v4 v5 v6 v7 s0 s1 s2 h = some (res, h1)) : gx_Z mX12_waysOf al al 0 0 130 [(0, .ref v0), (1, .int (gI v1)), (2, .int (gI v2)), (3, .int (gI v3)), (4, .int (gI v4)), (5, .int (gI v5)), (6, .int (gI v6)), (7, .int (gI v7))] [.int (gI s2), .int (gI s1), .ref s0] (gi_cv h) (.inl (some (.int (gI res)))) (gi_cv h1) := by
  refine gx_bE e (fun h41 hh41 e => ?_)
  refine gy_t1 hh41 dX12_waysOf_130 ?_
  refine gx_nE e (fun t42 ht42 e => ?_)
  refine gy_iinc (v := t42) (ls2 := [(7, .int (gI t42)), (0, .ref v0), (1, .int (gI v1)), (2, .int (gI v2)), (3, .int (gI v3)), (4, .int (gI v4)), (5, .int (gI v5)), (6, .int (gI v6))]) dX12_waysOf_131 7 rfl ht42 (Nat.le_of_ble_eq_true rfl) rfl ?_
  refine gx_goto (tgt := 75) dX12_waysOf_134 (by decide) ?_
  refine gx_sub (ls2 := [(0, .ref v0), (1, .int (gI v1)), (2, .int (gI v2)), (3, .int (gI v3)), (4, .int (gI v4)), (5, .int (gI v5)), (6, .int (gI v6)), (7, .int (gI t42))]) [1, 2, 3, 4, 5, 6, 7, 0] rfl ?_
  exact hr75 _ _ _ _ _ _ _ _ _ e
set_option maxRecDepth 100000 in
def b_X12_waysOf_75 (n : Nat) (r36 : Nat → Int → Int → Int → Int → gi_H → Option (Int × gi_H)) (r58 : Nat → Int → Int → Int → Int → Int → Int → gi_H → Option (Int × gi_H)) (r75 : Nat → Int → Int → Int → Int → Int → Int → Int → gi_H → Option (Int × gi_H)) (v0 : Nat) (v1 : Int) (v2 : Int) (v3 : Int) (v4 : Int) (v5 : Int) (v6 : Int) (v7 : Int)  (h : gi_H) : Option (Int × gi_H) :=
  Option.bind (gi_rg v7) fun _ => Option.bind (gi_rg v6) fun _ => if v6 < v7 then (b_X12_waysOf_137 n r36 r58 v0 v1 v2 v3 v4 v5 v6 h) else (Option.bind (gi_gR h v0 10 43) fun t31 => Option.bind (gi_aI h 1 t31 v6) fun t32 => Option.bind (gi_gR h v0 10 42) fun t33 => Option.bind (gi_aI h 1 t33 v7) fun t34 => Option.bind (gi_is h v0 10) fun _ => Option.bind (f_X12_ways v0 v5 v7 v6 h) fun q36 => gx_nm (t32 + (t34 * q36)) fun t37 => Option.bind (gi_gR h v0 10 43) fun t38 => Option.bind (gi_rg t37) fun _ => if t37 ≤ (100 : Int) then (b_X12_waysOf_130 n r36 r58 r75 v0 v1 v2 v3 v4 v5 v6 v7 t38 v6 t37 h) else (b_X12_waysOf_130 n r36 r58 r75 v0 v1 v2 v3 v4 v5 v6 v7 t38 v6 (100 : Int) h))
set_option maxRecDepth 100000 in
theorem zb_X12_waysOf_75 {al : Bool} {n : Nat} {r36 : Nat → Int → Int → Int → Int → gi_H → Option (Int × gi_H)} {r58 : Nat → Int → Int → Int → Int → Int → Int → gi_H → Option (Int × gi_H)} {r75 : Nat → Int → Int → Int → Int → Int → Int → Int → gi_H → Option (Int × gi_H)} {res : Int} {h1 : gi_H} (hr36 : ∀ (x0 : Nat) (x1 : Int) (x2 : Int) (x3 : Int) (x4 : Int) (hh : gi_H), r36 x0 x1 x2 x3 x4 hh = some (res, h1) → gx_Z mX12_waysOf al al 0 0 36 [(0, .ref x0), (1, .int (gI x1)), (2, .int (gI x2)), (3, .int (gI x3)), (4, .int (gI x4))] [] (gi_cv hh) (.inl (some (.int (gI res)))) (gi_cv h1)) (hr58 : ∀ (x0 : Nat) (x1 : Int) (x2 : Int) (x3 : Int) (x4 : Int) (x5 : Int) (x6 : Int) (hh : gi_H), r58 x0 x1 x2 x3 x4 x5 x6 hh = some (res, h1) → gx_Z mX12_waysOf al al 0 0 58 [(0, .ref x0), (1, .int (gI x1)), (2, .int (gI x2)), (3, .int (gI x3)), (4, .int (gI x4)), (5, .int (gI x5)), (6, .int (gI x6))] [] (gi_cv hh) (.inl (some (.int (gI res)))) (gi_cv h1)) (hr75 : ∀ (x0 : Nat) (x1 : Int) (x2 : Int) (x3 : Int) (x4 : Int) (x5 : Int) (x6 : Int) (x7 : Int) (hh : gi_H), r75 x0 x1 x2 x3 x4 x5 x6 x7 hh = some (res, h1) → gx_Z mX12_waysOf al al 0 0 75 [(0, .ref x0), (1, .int (gI x1)), (2, .int (gI x2)), (3, .int (gI x3)), (4, .int (gI x4)), (5, .int (gI x5)), (6, .int (gI x6)), (7, .int (gI x7))] [] (gi_cv hh) (.inl (some (.int (gI res)))) (gi_cv h1)) {v0 : Nat} {v1 : Int} {v2 : Int} {v3 : Int} {v4 : Int} {v5 : Int} {v6 : Int} {v7 : Int}  {h : gi_H} (e : b_X12_waysOf_75 n r36 r58 r75 v0 v1 v2 v3 v4 v5 v6 v7 h = some (res, h1)) : gx_Z mX12_waysOf al al 0 0 75 [(0, .ref v0), (1, .int (gI v1)), (2, .int (gI v2)), (3, .int (gI v3)), (4, .int (gI v4)), (5, .int (gI v5)), (6, .int (gI v6)), (7, .int (gI v7))] [] (gi_cv h) (.inl (some (.int (gI res)))) (gi_cv h1) := by
  refine gx_iload dX12_waysOf_75 7 rfl ?_
  refine gx_iload dX12_waysOf_77 6 rfl ?_
  refine gx_bE e (fun _ g27 e => ?_)
  refine gx_bE e (fun _ g28 e => ?_)
  refine gx_iE e (fun c29 e => ?_) (fun c29 e => ?_)
  · refine gy_icmp_gt (tgt := 137) (gi_rgS g27) (gi_rgS g28) dX12_waysOf_79 (by decide) (fun _ => ?_) (fun z => absurd c29 z)
    refine gx_sub (ls2 := [(0, .ref v0), (1, .int (gI v1)), (2, .int (gI v2)), (3, .int (gI v3)), (4, .int (gI v4)), (5, .int (gI v5)), (6, .int (gI v6))]) [0, 1, 2, 3, 4, 5, 6] rfl ?_
    exact zb_X12_waysOf_137 hr36 hr58 e
  · refine gy_icmp_gt (tgt := 137) (gi_rgS g27) (gi_rgS g28) dX12_waysOf_79 (by decide) (fun z => absurd z c29) (fun _ => ?_)
    refine gx_aload_n dX12_waysOf_82 rfl 0 rfl ?_
    refine gx_bE e (fun t31 ht31 e => ?_)
    refine gy_fR ht31 dX12_waysOf_83 gf_RX12_101_10_43 (by decide) gkN_10_43 gkR_10_43 ?_
    refine gx_iload dX12_waysOf_86 6 rfl ?_
    refine gx_bE e (fun t32 ht32 e => ?_)
    refine gy_l1 ht32 dX12_waysOf_88 ?_
    refine gx_aload_n dX12_waysOf_89 rfl 0 rfl ?_
    refine gx_bE e (fun t33 ht33 e => ?_)
    refine gy_fR ht33 dX12_waysOf_90 gf_RX12_98_10_42 (by decide) gkN_10_42 gkR_10_42 ?_
    refine gx_iload dX12_waysOf_93 7 rfl ?_
    refine gx_bE e (fun t34 ht34 e => ?_)
    refine gy_l1 ht34 dX12_waysOf_95 ?_
    refine gx_aload_n dX12_waysOf_96 rfl 0 rfl ?_
    refine gx_iload dX12_waysOf_97 5 rfl ?_
    refine gx_iload dX12_waysOf_99 7 rfl ?_
    refine gx_iload dX12_waysOf_101 6 rfl ?_
    refine gx_bE e (fun _ hu35 e => ?_)
    refine gx_bE e (fun q36 hq36 e => ?_)
    refine gx_callV (n := 3) (st := [.int (gI t34), .int (gI t32)]) (As := [.int (gI v5), .int (gI v7), .int (gI v6)]) (b := v0) dX12_waysOf_103 (z_X12_ways hq36) rfl ⟨rfl, gw_cw_X12_ways, gw_14, gp_X12_ways, ⟨Nat.le_of_ble_eq_true rfl, Nat.le_of_ble_eq_true rfl⟩⟩ (gi_isS hu35) (by decide) gw_1791 gw_1793 gs_106 rfl ⟨Nat.le_of_ble_eq_true rfl, Nat.le_of_ble_eq_true rfl⟩ (Nat.le_of_ble_eq_true rfl) (gy_k1 (x := .int (gI q36)) (kc2 := 0) (ks2 := 0) ⟨rfl, rfl⟩ ?_) gy_kn
    refine gy_imul dX12_waysOf_106 ?_
    refine gy_iadd dX12_waysOf_107 ?_
    refine gx_nE e (fun t37 ht37 e => ?_)
    rw [ht37]
    refine gx_istore (ls2 := [(8, .int (gI t37)), (0, .ref v0), (1, .int (gI v1)), (2, .int (gI v2)), (3, .int (gI v3)), (4, .int (gI v4)), (5, .int (gI v5)), (6, .int (gI v6)), (7, .int (gI v7))]) dX12_waysOf_108 (Nat.le_of_ble_eq_true rfl) rfl ?_
    refine gx_aload_n dX12_waysOf_110 rfl 1 rfl ?_
    refine gx_bE e (fun t38 ht38 e => ?_)
    refine gy_fR ht38 dX12_waysOf_111 gf_RX12_101_10_43 (by decide) gkN_10_43 gkR_10_43 ?_
    refine gx_iload dX12_waysOf_114 7 rfl ?_
    refine gx_iload dX12_waysOf_116 0 rfl ?_
    refine gy_bipush dX12_waysOf_118 gcb_100 ?_
    refine gx_bE e (fun _ g39 e => ?_)
    refine gx_iE e (fun c40 e => ?_) (fun c40 e => ?_)
    · refine gy_icmp_le (tgt := 128) (gi_rgS g39) (by decide) dX12_waysOf_120 (by decide) (fun _ => ?_) (fun z => absurd c40 z)
      refine gx_iload dX12_waysOf_128 0 rfl ?_
      refine gx_sub (ls2 := [(0, .ref v0), (1, .int (gI v1)), (2, .int (gI v2)), (3, .int (gI v3)), (4, .int (gI v4)), (5, .int (gI v5)), (6, .int (gI v6)), (7, .int (gI v7))]) [1, 2, 3, 4, 5, 6, 7, 8] rfl ?_
      exact zb_X12_waysOf_130 hr36 hr58 hr75 e
    · refine gy_icmp_le (tgt := 128) (gi_rgS g39) (by decide) dX12_waysOf_120 (by decide) (fun z => absurd z c40) (fun _ => ?_)
      refine gy_bipush dX12_waysOf_123 gcb_100 ?_
      refine gx_goto (tgt := 130) dX12_waysOf_125 (by decide) ?_
      refine gx_sub (ls2 := [(0, .ref v0), (1, .int (gI v1)), (2, .int (gI v2)), (3, .int (gI v3)), (4, .int (gI v4)), (5, .int (gI v5)), (6, .int (gI v6)), (7, .int (gI v7))]) [1, 2, 3, 4, 5, 6, 7, 8] rfl ?_
      exact zb_X12_waysOf_130 hr36 hr58 hr75 e
def l_X12_waysOf_75 (n : Nat) (r36 : Nat → Int → Int → Int → Int → gi_H → Option (Int × gi_H)) (r58 : Nat → Int → Int → Int → Int → Int → Int → gi_H → Option (Int × gi_H)) : Nat → Nat → Int → Int → Int → Int → Int → Int → Int → gi_H → Option (Int × gi_H)
  | 0, _, _, _, _, _, _, _, _, _ => none
  | k + 1, v0, v1, v2, v3, v4, v5, v6, v7, h => b_X12_waysOf_75 n r36 r58 (l_X12_waysOf_75 n r36 r58 k) v0 v1 v2 v3 v4 v5 v6 v7 h
theorem zl_X12_waysOf_75 {al : Bool} {n : Nat} {r36 : Nat → Int → Int → Int → Int → gi_H → Option (Int × gi_H)} {r58 : Nat → Int → Int → Int → Int → Int → Int → gi_H → Option (Int × gi_H)} {res : Int} {h1 : gi_H} (hr36 : ∀ (x0 : Nat) (x1 : Int) (x2 : Int) (x3 : Int) (x4 : Int) (hh : gi_H), r36 x0 x1 x2 x3 x4 hh = some (res, h1) → gx_Z mX12_waysOf al al 0 0 36 [(0, .ref x0), (1, .int (gI x1)), (2, .int (gI x2)), (3, .int (gI x3)), (4, .int (gI x4))] [] (gi_cv hh) (.inl (some (.int (gI res)))) (gi_cv h1)) (hr58 : ∀ (x0 : Nat) (x1 : Int) (x2 : Int) (x3 : Int) (x4 : Int) (x5 : Int) (x6 : Int) (hh : gi_H), r58 x0 x1 x2 x3 x4 x5 x6 hh = some (res, h1) → gx_Z mX12_waysOf al al 0 0 58 [(0, .ref x0), (1, .int (gI x1)), (2, .int (gI x2)), (3, .int (gI x3)), (4, .int (gI x4)), (5, .int (gI x5)), (6, .int (gI x6))] [] (gi_cv hh) (.inl (some (.int (gI res)))) (gi_cv h1)) : ∀ (k : Nat) (v0 : Nat) (v1 : Int) (v2 : Int) (v3 : Int) (v4 : Int) (v5 : Int) (v6 : Int) (v7 : Int) (h : gi_H), l_X12_waysOf_75 n r36 r58 k v0 v1 v2 v3 v4 v5 v6 v7 h = some (res, h1) → gx_Z mX12_waysOf al al 0 0 75 [(0, .ref v0), (1, .int (gI v1)), (2, .int (gI v2)), (3, .int (gI v3)), (4, .int (gI v4)), (5, .int (gI v5)), (6, .int (gI v6)), (7, .int (gI v7))] [] (gi_cv h) (.inl (some (.int (gI res)))) (gi_cv h1)
  | 0, _, _, _, _, _, _, _, _, _, e => gx_0E e
  | k + 1, _, _, _, _, _, _, _, _, _, e => zb_X12_waysOf_75 (n := n) hr36 hr58 (zl_X12_waysOf_75 hr36 hr58 k) e
set_option maxRecDepth 100000 in
def b_X12_waysOf_58 (n : Nat) (r36 : Nat → Int → Int → Int → Int → gi_H → Option (Int × gi_H)) (r58 : Nat → Int → Int → Int → Int → Int → Int → gi_H → Option (Int × gi_H)) (v0 : Nat) (v1 : Int) (v2 : Int) (v3 : Int) (v4 : Int) (v5 : Int) (v6 : Int)  (h : gi_H) : Option (Int × gi_H) :=
  Option.bind (gi_rg v6) fun _ => Option.bind (gi_rg v3) fun _ => if v3 < v6 then (b_X12_waysOf_143 n r36 v0 v1 v2 v3 v4 h) else (Option.bind (gi_gR h v0 10 43) fun t25 => Option.bind (gi_s1 h t25 v6 (0 : Int)) fun h26 => l_X12_waysOf_75 n r36 r58 n v0 v1 v2 v3 v4 v5 v6 v2 h26)
set_option maxRecDepth 100000 in
theorem zb_X12_waysOf_58 {al : Bool} {n : Nat} {r36 : Nat → Int → Int → Int → Int → gi_H → Option (Int × gi_H)} {r58 : Nat → Int → Int → Int → Int → Int → Int → gi_H → Option (Int × gi_H)} {res : Int} {h1 : gi_H} (hr36 : ∀ (x0 : Nat) (x1 : Int) (x2 : Int) (x3 : Int) (x4 : Int) (hh : gi_H), r36 x0 x1 x2 x3 x4 hh = some (res, h1) → gx_Z mX12_waysOf al al 0 0 36 [(0, .ref x0), (1, .int (gI x1)), (2, .int (gI x2)), (3, .int (gI x3)), (4, .int (gI x4))] [] (gi_cv hh) (.inl (some (.int (gI res)))) (gi_cv h1)) (hr58 : ∀ (x0 : Nat) (x1 : Int) (x2 : Int) (x3 : Int) (x4 : Int) (x5 : Int) (x6 : Int) (hh : gi_H), r58 x0 x1 x2 x3 x4 x5 x6 hh = some (res, h1) → gx_Z mX12_waysOf al al 0 0 58 [(0, .ref x0), (1, .int (gI x1)), (2, .int (gI x2)), (3, .int (gI x3)), (4, .int (gI x4)), (5, .int (gI x5)), (6, .int (gI x6))] [] (gi_cv hh) (.inl (some (.int (gI res)))) (gi_cv h1)) {v0 : Nat} {v1 : Int} {v2 : Int} {v3 : Int} {v4 : Int} {v5 : Int} {v6 : Int}  {h : gi_H} (e : b_X12_waysOf_58 n r36 r58 v0 v1 v2 v3 v4 v5 v6 h = some (res, h1)) : gx_Z mX12_waysOf al al 0 0 58 [(0, .ref v0), (1, .int (gI v1)), (2, .int (gI v2)), (3, .int (gI v3)), (4, .int (gI v4)), (5, .int (gI v5)), (6, .int (gI v6))] [] (gi_cv h) (.inl (some (.int (gI res)))) (gi_cv h1) := by
  refine gx_iload dX12_waysOf_58 6 rfl ?_
  refine gx_iload_n dX12_waysOf_60 rfl 3 rfl ?_
  refine gx_bE e (fun _ g13 e => ?_)
  refine gx_bE e (fun _ g14 e => ?_)
  refine gx_iE e (fun c15 e => ?_) (fun c15 e => ?_)
  · refine gy_icmp_gt (tgt := 143) (gi_rgS g13) (gi_rgS g14) dX12_waysOf_61 (by decide) (fun _ => ?_) (fun z => absurd c15 z)
    refine gx_sub (ls2 := [(0, .ref v0), (1, .int (gI v1)), (2, .int (gI v2)), (3, .int (gI v3)), (4, .int (gI v4))]) [0, 1, 2, 3, 4] rfl ?_
    exact zb_X12_waysOf_143 hr36 e
  · refine gy_icmp_gt (tgt := 143) (gi_rgS g13) (gi_rgS g14) dX12_waysOf_61 (by decide) (fun z => absurd z c15) (fun _ => ?_)
    refine gx_aload_n dX12_waysOf_64 rfl 0 rfl ?_
    refine gx_bE e (fun t25 ht25 e => ?_)
    refine gy_fR ht25 dX12_waysOf_65 gf_RX12_101_10_43 (by decide) gkN_10_43 gkR_10_43 ?_
    refine gx_iload dX12_waysOf_68 6 rfl ?_
    refine gy_iconst dX12_waysOf_70 ?_
    refine gx_bE e (fun h26 hh26 e => ?_)
    refine gy_t1 hh26 dX12_waysOf_71 ?_
    refine gx_iload_n dX12_waysOf_72 rfl 2 rfl ?_
    refine gx_istore (ls2 := [(7, .int (gI v2)), (0, .ref v0), (1, .int (gI v1)), (2, .int (gI v2)), (3, .int (gI v3)), (4, .int (gI v4)), (5, .int (gI v5)), (6, .int (gI v6))]) dX12_waysOf_73 (Nat.le_of_ble_eq_true rfl) rfl ?_
    refine gx_sub (ls2 := [(0, .ref v0), (1, .int (gI v1)), (2, .int (gI v2)), (3, .int (gI v3)), (4, .int (gI v4)), (5, .int (gI v5)), (6, .int (gI v6)), (7, .int (gI v2))]) [1, 2, 3, 4, 5, 6, 7, 0] rfl ?_
    exact zl_X12_waysOf_75 hr36 hr58 n _ _ _ _ _ _ _ _ _ e
def l_X12_waysOf_58 (n : Nat) (r36 : Nat → Int → Int → Int → Int → gi_H → Option (Int × gi_H)) : Nat → Nat → Int → Int → Int → Int → Int → Int → gi_H → Option (Int × gi_H)
  | 0, _, _, _, _, _, _, _, _ => none
  | k + 1, v0, v1, v2, v3, v4, v5, v6, h => b_X12_waysOf_58 n r36 (l_X12_waysOf_58 n r36 k) v0 v1 v2 v3 v4 v5 v6 h
theorem zl_X12_waysOf_58 {al : Bool} {n : Nat} {r36 : Nat → Int → Int → Int → Int → gi_H → Option (Int × gi_H)} {res : Int} {h1 : gi_H} (hr36 : ∀ (x0 : Nat) (x1 : Int) (x2 : Int) (x3 : Int) (x4 : Int) (hh : gi_H), r36 x0 x1 x2 x3 x4 hh = some (res, h1) → gx_Z mX12_waysOf al al 0 0 36 [(0, .ref x0), (1, .int (gI x1)), (2, .int (gI x2)), (3, .int (gI x3)), (4, .int (gI x4))] [] (gi_cv hh) (.inl (some (.int (gI res)))) (gi_cv h1)) : ∀ (k : Nat) (v0 : Nat) (v1 : Int) (v2 : Int) (v3 : Int) (v4 : Int) (v5 : Int) (v6 : Int) (h : gi_H), l_X12_waysOf_58 n r36 k v0 v1 v2 v3 v4 v5 v6 h = some (res, h1) → gx_Z mX12_waysOf al al 0 0 58 [(0, .ref v0), (1, .int (gI v1)), (2, .int (gI v2)), (3, .int (gI v3)), (4, .int (gI v4)), (5, .int (gI v5)), (6, .int (gI v6))] [] (gi_cv h) (.inl (some (.int (gI res)))) (gi_cv h1)
  | 0, _, _, _, _, _, _, _, _, e => gx_0E e
  | k + 1, _, _, _, _, _, _, _, _, e => zb_X12_waysOf_58 (n := n) hr36 (zl_X12_waysOf_58 hr36 k) e
set_option maxRecDepth 100000 in
def b_X12_waysOf_36 (n : Nat) (r36 : Nat → Int → Int → Int → Int → gi_H → Option (Int × gi_H)) (v0 : Nat) (v1 : Int) (v2 : Int) (v3 : Int) (v4 : Int)  (h : gi_H) : Option (Int × gi_H) :=
  Option.bind (gi_is h v0 10) fun _ => Option.bind (f_X12_sizeOf v0 v1 h) fun q5 => Option.bind (gi_rg v4) fun _ => Option.bind (gi_rg q5) fun _ => if q5 ≤ v4 then (b_X12_waysOf_178 n  v0 v3 h) else (Option.bind (gi_is h v0 10) fun _ => Option.bind (f_X12_symbol v0 v1 v4 h) fun q12 => l_X12_waysOf_58 n r36 n v0 v1 v2 v3 v4 q12 v2 h)
set_option maxRecDepth 100000 in
theorem zb_X12_waysOf_36 {al : Bool} {n : Nat} {r36 : Nat → Int → Int → Int → Int → gi_H → Option (Int × gi_H)} {res : Int} {h1 : gi_H} (hr36 : ∀ (x0 : Nat) (x1 : Int) (x2 : Int) (x3 : Int) (x4 : Int) (hh : gi_H), r36 x0 x1 x2 x3 x4 hh = some (res, h1) → gx_Z mX12_waysOf al al 0 0 36 [(0, .ref x0), (1, .int (gI x1)), (2, .int (gI x2)), (3, .int (gI x3)), (4, .int (gI x4))] [] (gi_cv hh) (.inl (some (.int (gI res)))) (gi_cv h1)) {v0 : Nat} {v1 : Int} {v2 : Int} {v3 : Int} {v4 : Int}  {h : gi_H} (e : b_X12_waysOf_36 n r36 v0 v1 v2 v3 v4 h = some (res, h1)) : gx_Z mX12_waysOf al al 0 0 36 [(0, .ref v0), (1, .int (gI v1)), (2, .int (gI v2)), (3, .int (gI v3)), (4, .int (gI v4))] [] (gi_cv h) (.inl (some (.int (gI res)))) (gi_cv h1) := by
  refine gx_iload dX12_waysOf_36 4 rfl ?_
  refine gx_aload_n dX12_waysOf_38 rfl 0 rfl ?_
  refine gx_iload_n dX12_waysOf_39 rfl 1 rfl ?_
  refine gx_bE e (fun _ hu4 e => ?_)
  refine gx_bE e (fun q5 hq5 e => ?_)
  refine gx_callV (n := 1) (st := [.int (gI v4)]) (As := [.int (gI v1)]) (b := v0) dX12_waysOf_40 (z_X12_sizeOf hq5) rfl ⟨rfl, gw_cw_X12_sizeOf, gw_14, gp_X12_sizeOf, ⟨Nat.le_of_ble_eq_true rfl, Nat.le_of_ble_eq_true rfl⟩⟩ (gi_isS hu4) (by decide) gw_1579 gw_1581 gs_71 rfl ⟨Nat.le_of_ble_eq_true rfl, Nat.le_of_ble_eq_true rfl⟩ (Nat.le_of_ble_eq_true rfl) (gy_k1 (x := .int (gI q5)) (kc2 := 0) (ks2 := 0) ⟨rfl, rfl⟩ ?_) gy_kn
  refine gx_bE e (fun _ g6 e => ?_)
  refine gx_bE e (fun _ g7 e => ?_)
  refine gx_iE e (fun c8 e => ?_) (fun c8 e => ?_)
  · refine gy_icmp_ge (tgt := 178) (gi_rgS g6) (gi_rgS g7) dX12_waysOf_43 (by decide) (fun _ => ?_) (fun z => absurd c8 z)
    refine gx_sub (ls2 := [(0, .ref v0), (3, .int (gI v3))]) [0, 3] rfl ?_
    exact zb_X12_waysOf_178  e
  · refine gy_icmp_ge (tgt := 178) (gi_rgS g6) (gi_rgS g7) dX12_waysOf_43 (by decide) (fun z => absurd z c8) (fun _ => ?_)
    refine gx_aload_n dX12_waysOf_46 rfl 0 rfl ?_
    refine gx_iload_n dX12_waysOf_47 rfl 1 rfl ?_
    refine gx_iload dX12_waysOf_48 4 rfl ?_
    refine gx_bE e (fun _ hu11 e => ?_)
    refine gx_bE e (fun q12 hq12 e => ?_)
    refine gx_callV (n := 2) (st := []) (As := [.int (gI v1), .int (gI v4)]) (b := v0) dX12_waysOf_50 (z_X12_symbol hq12) rfl ⟨rfl, gw_cw_X12_symbol, gw_14, gp_X12_symbol, ⟨Nat.le_of_ble_eq_true rfl, Nat.le_of_ble_eq_true rfl⟩⟩ (gi_isS hu11) (by decide) gw_1575 gw_1577 gs_70 rfl ⟨Nat.le_of_ble_eq_true rfl, Nat.le_of_ble_eq_true rfl⟩ (Nat.le_of_ble_eq_true rfl) (gy_k1 (x := .int (gI q12)) (kc2 := 0) (ks2 := 0) ⟨rfl, rfl⟩ ?_) gy_kn
    refine gx_istore (ls2 := [(5, .int (gI q12)), (0, .ref v0), (1, .int (gI v1)), (2, .int (gI v2)), (3, .int (gI v3)), (4, .int (gI v4))]) dX12_waysOf_53 (Nat.le_of_ble_eq_true rfl) rfl ?_
    refine gx_iload_n dX12_waysOf_55 rfl 3 rfl ?_
    refine gx_istore (ls2 := [(6, .int (gI v2)), (5, .int (gI q12)), (0, .ref v0), (1, .int (gI v1)), (2, .int (gI v2)), (3, .int (gI v3)), (4, .int (gI v4))]) dX12_waysOf_56 (Nat.le_of_ble_eq_true rfl) rfl ?_
    refine gx_sub (ls2 := [(0, .ref v0), (1, .int (gI v1)), (2, .int (gI v2)), (3, .int (gI v3)), (4, .int (gI v4)), (5, .int (gI q12)), (6, .int (gI v2))]) [2, 3, 4, 5, 6, 1, 0] rfl ?_
    exact zl_X12_waysOf_58 hr36 n _ _ _ _ _ _ _ _ e
def l_X12_waysOf_36 (n : Nat)  : Nat → Nat → Int → Int → Int → Int → gi_H → Option (Int × gi_H)
  | 0, _, _, _, _, _, _ => none
  | k + 1, v0, v1, v2, v3, v4, h => b_X12_waysOf_36 n  (l_X12_waysOf_36 n  k) v0 v1 v2 v3 v4 h
theorem zl_X12_waysOf_36 {al : Bool} {n : Nat}  {res : Int} {h1 : gi_H}  : ∀ (k : Nat) (v0 : Nat) (v1 : Int) (v2 : Int) (v3 : Int) (v4 : Int) (h : gi_H), l_X12_waysOf_36 n  k v0 v1 v2 v3 v4 h = some (res, h1) → gx_Z mX12_waysOf al al 0 0 36 [(0, .ref v0), (1, .int (gI v1)), (2, .int (gI v2)), (3, .int (gI v3)), (4, .int (gI v4))] [] (gi_cv h) (.inl (some (.int (gI res)))) (gi_cv h1)
  | 0, _, _, _, _, _, _, e => gx_0E e
  | k + 1, _, _, _, _, _, _, e => zb_X12_waysOf_36 (n := n)  (zl_X12_waysOf_36  k) e
set_option maxRecDepth 100000 in
def b_X12_waysOf_33 (n : Nat)  (v0 : Nat) (v1 : Int) (v2 : Int) (v3 : Int)  (h : gi_H) : Option (Int × gi_H) :=
  l_X12_waysOf_36 n  n v0 v1 v2 v3 (0 : Int) h
set_option maxRecDepth 100000 in
theorem zb_X12_waysOf_33 {al : Bool} {n : Nat}  {res : Int} {h1 : gi_H}  {v0 : Nat} {v1 : Int} {v2 : Int} {v3 : Int}  {h : gi_H} (e : b_X12_waysOf_33 n v0 v1 v2 v3 h = some (res, h1)) : gx_Z mX12_waysOf al al 0 0 33 [(0, .ref v0), (1, .int (gI v1)), (2, .int (gI v2)), (3, .int (gI v3))] [] (gi_cv h) (.inl (some (.int (gI res)))) (gi_cv h1) := by
  refine gy_iconst dX12_waysOf_33 ?_
  refine gx_istore (ls2 := [(4, .int (gI (0 : Int))), (0, .ref v0), (1, .int (gI v1)), (2, .int (gI v2)), (3, .int (gI v3))]) dX12_waysOf_34 (Nat.le_of_ble_eq_true rfl) rfl ?_
  refine gx_sub (ls2 := [(0, .ref v0), (1, .int (gI v1)), (2, .int (gI v2)), (3, .int (gI v3)), (4, .int (gI (0 : Int)))]) [1, 2, 3, 4, 0] rfl ?_
  exact zl_X12_waysOf_36  n _ _ _ _ _ _ e
set_option maxRecDepth 100000 in
def b_X12_waysOf_26 (n : Nat) (r3 : Nat → Int → Int → Int → Int → gi_H → Option (Int × gi_H)) (v0 : Nat) (v1 : Int) (v2 : Int) (v3 : Int) (v4 : Int) (s0 : Nat) (s1 : Int) (s2 : Int) (h : gi_H) : Option (Int × gi_H) :=
  Option.bind (gi_s1 h s0 s1 s2) fun h46 => gx_nm (v4 + (1 : Int)) fun t47 => r3 v0 v1 v2 v3 t47 h46
set_option maxRecDepth 100000 in
theorem zb_X12_waysOf_26 {al : Bool} {n : Nat} {r3 : Nat → Int → Int → Int → Int → gi_H → Option (Int × gi_H)} {res : Int} {h1 : gi_H} (hr3 : ∀ (x0 : Nat) (x1 : Int) (x2 : Int) (x3 : Int) (x4 : Int) (hh : gi_H), r3 x0 x1 x2 x3 x4 hh = some (res, h1) → gx_Z mX12_waysOf al al 0 0 3 [(0, .ref x0), (1, .int (gI x1)), (2, .int (gI x2)), (3, .int (gI x3)), (4, .int (gI x4))] [] (gi_cv hh) (.inl (some (.int (gI res)))) (gi_cv h1)) {v0 : Nat} {v1 : Int} {v2 : Int} {v3 : Int} {v4 : Int} {s0 : Nat} {s1 : Int} {s2 : Int} {h : gi_H} (e : b_X12_waysOf_26 n r3 v0 v1 v2 v3 v4 s0 s1 s2 h = some (res, h1)) : gx_Z mX12_waysOf al al 0 0 26 [(0, .ref v0), (1, .int (gI v1)), (2, .int (gI v2)), (3, .int (gI v3)), (4, .int (gI v4))] [.int (gI s2), .int (gI s1), .ref s0] (gi_cv h) (.inl (some (.int (gI res)))) (gi_cv h1) := by
  refine gx_bE e (fun h46 hh46 e => ?_)
  refine gy_t1 hh46 dX12_waysOf_26 ?_
  refine gx_nE e (fun t47 ht47 e => ?_)
  refine gy_iinc (v := t47) (ls2 := [(4, .int (gI t47)), (0, .ref v0), (1, .int (gI v1)), (2, .int (gI v2)), (3, .int (gI v3))]) dX12_waysOf_27 4 rfl ht47 (Nat.le_of_ble_eq_true rfl) rfl ?_
  refine gx_goto (tgt := 3) dX12_waysOf_30 (by decide) ?_
  refine gx_sub (ls2 := [(0, .ref v0), (1, .int (gI v1)), (2, .int (gI v2)), (3, .int (gI v3)), (4, .int (gI t47))]) [1, 2, 3, 4, 0] rfl ?_
  exact hr3 _ _ _ _ _ _ e
set_option maxRecDepth 100000 in
def b_X12_waysOf_3 (n : Nat) (r3 : Nat → Int → Int → Int → Int → gi_H → Option (Int × gi_H)) (v0 : Nat) (v1 : Int) (v2 : Int) (v3 : Int) (v4 : Int)  (h : gi_H) : Option (Int × gi_H) :=
  Option.bind (gi_rg v4) fun _ => Option.bind (gi_rg v3) fun _ => if v3 < v4 then (b_X12_waysOf_33 n  v0 v1 v2 v3 h) else (Option.bind (gi_gR h v0 10 42) fun t43 => Option.bind (gi_rg v2) fun _ => if v4 = v2 then (b_X12_waysOf_26 n r3 v0 v1 v2 v3 v4 t43 v4 (1 : Int) h) else (b_X12_waysOf_26 n r3 v0 v1 v2 v3 v4 t43 v4 (0 : Int) h))
set_option maxRecDepth 100000 in
theorem zb_X12_waysOf_3 {al : Bool} {n : Nat} {r3 : Nat → Int → Int → Int → Int → gi_H → Option (Int × gi_H)} {res : Int} {h1 : gi_H} (hr3 : ∀ (x0 : Nat) (x1 : Int) (x2 : Int) (x3 : Int) (x4 : Int) (hh : gi_H), r3 x0 x1 x2 x3 x4 hh = some (res, h1) → gx_Z mX12_waysOf al al 0 0 3 [(0, .ref x0), (1, .int (gI x1)), (2, .int (gI x2)), (3, .int (gI x3)), (4, .int (gI x4))] [] (gi_cv hh) (.inl (some (.int (gI res)))) (gi_cv h1)) {v0 : Nat} {v1 : Int} {v2 : Int} {v3 : Int} {v4 : Int}  {h : gi_H} (e : b_X12_waysOf_3 n r3 v0 v1 v2 v3 v4 h = some (res, h1)) : gx_Z mX12_waysOf al al 0 0 3 [(0, .ref v0), (1, .int (gI v1)), (2, .int (gI v2)), (3, .int (gI v3)), (4, .int (gI v4))] [] (gi_cv h) (.inl (some (.int (gI res)))) (gi_cv h1) := by
  refine gx_iload dX12_waysOf_3 4 rfl ?_
  refine gx_iload_n dX12_waysOf_5 rfl 3 rfl ?_
  refine gx_bE e (fun _ g1 e => ?_)
  refine gx_bE e (fun _ g2 e => ?_)
  refine gx_iE e (fun c3 e => ?_) (fun c3 e => ?_)
  · refine gy_icmp_gt (tgt := 33) (gi_rgS g1) (gi_rgS g2) dX12_waysOf_6 (by decide) (fun _ => ?_) (fun z => absurd c3 z)
    refine gx_sub (ls2 := [(0, .ref v0), (1, .int (gI v1)), (2, .int (gI v2)), (3, .int (gI v3))]) [0, 1, 2, 3] rfl ?_
    exact zb_X12_waysOf_33  e
  · refine gy_icmp_gt (tgt := 33) (gi_rgS g1) (gi_rgS g2) dX12_waysOf_6 (by decide) (fun z => absurd z c3) (fun _ => ?_)
    refine gx_aload_n dX12_waysOf_9 rfl 0 rfl ?_
    refine gx_bE e (fun t43 ht43 e => ?_)
    refine gy_fR ht43 dX12_waysOf_10 gf_RX12_98_10_42 (by decide) gkN_10_42 gkR_10_42 ?_
    refine gx_iload dX12_waysOf_13 4 rfl ?_
    refine gx_iload dX12_waysOf_15 4 rfl ?_
    refine gx_iload_n dX12_waysOf_17 rfl 2 rfl ?_
    refine gx_bE e (fun _ g44 e => ?_)
    refine gx_iE e (fun c45 e => ?_) (fun c45 e => ?_)
    · refine gy_icmp_ne (tgt := 25) (gi_rgS g1) (gi_rgS g44) dX12_waysOf_18 (by decide) (fun z => absurd c45 z) (fun _ => ?_)
      refine gy_iconst dX12_waysOf_21 ?_
      refine gx_goto (tgt := 26) dX12_waysOf_22 (by decide) ?_
      exact zb_X12_waysOf_26 hr3 e
    · refine gy_icmp_ne (tgt := 25) (gi_rgS g1) (gi_rgS g44) dX12_waysOf_18 (by decide) (fun _ => ?_) (fun z => absurd z c45)
      refine gy_iconst dX12_waysOf_25 ?_
      exact zb_X12_waysOf_26 hr3 e
def l_X12_waysOf_3 (n : Nat)  : Nat → Nat → Int → Int → Int → Int → gi_H → Option (Int × gi_H)
  | 0, _, _, _, _, _, _ => none
  | k + 1, v0, v1, v2, v3, v4, h => b_X12_waysOf_3 n  (l_X12_waysOf_3 n  k) v0 v1 v2 v3 v4 h
theorem zl_X12_waysOf_3 {al : Bool} {n : Nat}  {res : Int} {h1 : gi_H}  : ∀ (k : Nat) (v0 : Nat) (v1 : Int) (v2 : Int) (v3 : Int) (v4 : Int) (h : gi_H), l_X12_waysOf_3 n  k v0 v1 v2 v3 v4 h = some (res, h1) → gx_Z mX12_waysOf al al 0 0 3 [(0, .ref v0), (1, .int (gI v1)), (2, .int (gI v2)), (3, .int (gI v3)), (4, .int (gI v4))] [] (gi_cv h) (.inl (some (.int (gI res)))) (gi_cv h1)
  | 0, _, _, _, _, _, _, e => gx_0E e
  | k + 1, _, _, _, _, _, _, e => zb_X12_waysOf_3 (n := n)  (zl_X12_waysOf_3  k) e
set_option maxRecDepth 100000 in
def f_X12_waysOf (n : Nat) (v0 : Nat) (v1 : Int) (v2 : Int) (v3 : Int) (h : gi_H) : Option (Int × gi_H) :=
  l_X12_waysOf_3 n  n v0 v1 v2 v3 v2 h
set_option maxRecDepth 100000 in
theorem z_X12_waysOf {al : Bool} {n : Nat} {v0 : Nat} {v1 : Int} {v2 : Int} {v3 : Int} {h : gi_H} {res : Int} {h1 : gi_H} (e : f_X12_waysOf n v0 v1 v2 v3 h = some (res, h1)) : gx_Cw mX12_waysOf al [.ref v0, .int (gI v1), .int (gI v2), .int (gI v3)] (gi_cv h) (.inl (some (.int (gI res)))) (gi_cv h1) := by
  refine gx_enter (by decide +kernel) rfl (Nat.le_of_ble_eq_true rfl) ?_
  show gx_Z mX12_waysOf al al 0 0 0 [(0, .ref v0), (1, .int (gI v1)), (2, .int (gI v2)), (3, .int (gI v3))] [] (gi_cv h) (.inl (some (.int (gI res)))) (gi_cv h1)
  refine gx_iload_n dX12_waysOf_0 rfl 2 rfl ?_
  refine gx_istore (ls2 := [(4, .int (gI v2)), (0, .ref v0), (1, .int (gI v1)), (2, .int (gI v2)), (3, .int (gI v3))]) dX12_waysOf_1 (Nat.le_of_ble_eq_true rfl) rfl ?_
  refine gx_sub (ls2 := [(0, .ref v0), (1, .int (gI v1)), (2, .int (gI v2)), (3, .int (gI v3)), (4, .int (gI v2))]) [1, 2, 3, 4, 0] rfl ?_
  exact zl_X12_waysOf_3  n _ _ _ _ _ _ e
