/-! X1_refine 5 -/
set_option maxRecDepth 100000 in
def b_X1_refine_5_139 (n : Nat) (r92 : Nat → Int → Int → Int → Int → gi_H → Option (Int × gi_H)) (v0 : Nat) (v1 : Int) (v2 : Int) (v3 : Int) (v4 : Int)  (h : gi_H) : Option (Int × gi_H) :=
  gx_nm (v4 + (1 : Int)) fun t25 => r92 v0 v1 v2 v3 t25 h
set_option maxRecDepth 100000 in
theorem zb_X1_refine_5_139 {al : Bool} {n : Nat} {r92 : Nat → Int → Int → Int → Int → gi_H → Option (Int × gi_H)} {res : Int} {h1 : gi_H} (hr92 : ∀ (x0 : Nat) (x1 : Int) (x2 : Int) (x3 : Int) (x4 : Int) (hh : gi_H), r92 x0 x1 x2 x3 x4 hh = some (res, h1) → gx_Z mX1_refine al al 0 0 92 [(0, .ref x0), (1, .int (gI x1)), (2, .int (gI x2)), (3, .int (gI x3)), (4, .int (gI x4))] [] (gi_cv hh) (.inl (some (.int (gI res)))) (gi_cv h1)) {v0 : Nat} {v1 : Int} {v2 : Int} {v3 : Int} {v4 : Int}  {h : gi_H} (e : b_X1_refine_5_139 n r92 v0 v1 v2 v3 v4 h = some (res, h1)) : gx_Z mX1_refine al al 0 0 139 [(0, .ref v0), (1, .int (gI v1)), (2, .int (gI v2)), (3, .int (gI v3)), (4, .int (gI v4))] [] (gi_cv h) (.inl (some (.int (gI res)))) (gi_cv h1) := by
  refine gx_nE e (fun t25 ht25 e => ?_)
  refine gy_iinc (v := t25) (ls2 := [(4, .int (gI t25)), (0, .ref v0), (1, .int (gI v1)), (2, .int (gI v2)), (3, .int (gI v3))]) dX1_refine_139 4 rfl ht25 (Nat.le_of_ble_eq_true rfl) rfl ?_
  refine gx_goto (tgt := 92) dX1_refine_142 (by decide) ?_
  refine gx_sub (ls2 := [(0, .ref v0), (1, .int (gI v1)), (2, .int (gI v2)), (3, .int (gI v3)), (4, .int (gI t25))]) [1, 2, 3, 4, 0] rfl ?_
  exact hr92 _ _ _ _ _ _ e
set_option maxRecDepth 100000 in
def b_X1_refine_5_92 (n : Nat) (r92 : Nat → Int → Int → Int → Int → gi_H → Option (Int × gi_H)) (v0 : Nat) (v1 : Int) (v2 : Int) (v3 : Int) (v4 : Int)  (h : gi_H) : Option (Int × gi_H) :=
  Option.bind (gi_rg v4) fun _ => if (16 : Int) ≤ v4 then (Option.bind (gi_zo v3) fun _ => some (v3, h)) else (Option.bind (gi_gR h v0 5 4) fun t16 => Option.bind (gi_aI h 1 t16 v4) fun t17 => Option.bind (gi_is h v0 5) fun _ => Option.bind (f_X6_ofNonterminal v0 v4 t17 h) fun q19 => Option.bind (gi_is h v0 5) fun _ => Option.bind (f_X1_whole_5 v0 v4 v1 v2 h) fun q21 => Option.bind (gi_rg q19) fun _ => Option.bind (gi_rg q21) fun _ => if q19 = q21 then (b_X1_refine_5_139 n r92 v0 v1 v2 v3 v4 h) else (Option.bind (gi_is h v0 5) fun _ => Option.bind (f_X1_setWhole_5 v0 v4 v1 v2 q19 h) fun q27 => b_X1_refine_5_139 n r92 v0 v1 v2 (1 : Int) v4 q27))
set_option maxRecDepth 100000 in
theorem zb_X1_refine_5_92 {al : Bool} {n : Nat} {r92 : Nat → Int → Int → Int → Int → gi_H → Option (Int × gi_H)} {res : Int} {h1 : gi_H} (hr92 : ∀ (x0 : Nat) (x1 : Int) (x2 : Int) (x3 : Int) (x4 : Int) (hh : gi_H), r92 x0 x1 x2 x3 x4 hh = some (res, h1) → gx_Z mX1_refine al al 0 0 92 [(0, .ref x0), (1, .int (gI x1)), (2, .int (gI x2)), (3, .int (gI x3)), (4, .int (gI x4))] [] (gi_cv hh) (.inl (some (.int (gI res)))) (gi_cv h1)) {v0 : Nat} {v1 : Int} {v2 : Int} {v3 : Int} {v4 : Int}  {h : gi_H} (e : b_X1_refine_5_92 n r92 v0 v1 v2 v3 v4 h = some (res, h1)) : gx_Z mX1_refine al al 0 0 92 [(0, .ref v0), (1, .int (gI v1)), (2, .int (gI v2)), (3, .int (gI v3)), (4, .int (gI v4))] [] (gi_cv h) (.inl (some (.int (gI res)))) (gi_cv h1) := by
  refine gx_iload dX1_refine_92 4 rfl ?_
  refine gy_bipush dX1_refine_94 gcb_16 ?_
  refine gx_bE e (fun _ g13 e => ?_)
  refine gx_iE e (fun c14 e => ?_) (fun c14 e => ?_)
  · refine gy_icmp_ge (tgt := 145) (gi_rgS g13) (by decide) dX1_refine_96 (by decide) (fun _ => ?_) (fun z => absurd c14 z)
    refine gx_iload_n dX1_refine_145 rfl 3 rfl ?_
    refine gx_bE e (fun _ hu15 e => ?_)
    cases e
    exact gx_zret (gi_zoS hu15) dX1_refine_146 rfl ⟨Nat.le_of_ble_eq_true rfl, Nat.le_of_ble_eq_true rfl⟩ (fun z => z)
  · refine gy_icmp_ge (tgt := 145) (gi_rgS g13) (by decide) dX1_refine_96 (by decide) (fun z => absurd z c14) (fun _ => ?_)
    refine gx_aload_n dX1_refine_99 rfl 0 rfl ?_
    refine gx_iload dX1_refine_100 4 rfl ?_
    refine gx_aload_n dX1_refine_102 rfl 0 rfl ?_
    refine gx_bE e (fun t16 ht16 e => ?_)
    refine gy_fR ht16 dX1_refine_103 gf_RX1_9_5_4 (by decide) gkN_5_4 gkR_5_4 ?_
    refine gx_iload dX1_refine_106 4 rfl ?_
    refine gx_bE e (fun t17 ht17 e => ?_)
    refine gy_l1 ht17 dX1_refine_108 ?_
    refine gx_bE e (fun _ hu18 e => ?_)
    refine gx_bE e (fun q19 hq19 e => ?_)
    refine gx_callA (n := 2) (st := []) (As := [.int (gI v4), .int (gI t17)]) (b := v0) dX1_refine_109 (z_X6_ofNonterminal hq19) rfl ⟨rfl, gw_cw_X6_ofNonterminal, gw_13, gp_X6_ofNonterminal, ⟨Nat.le_of_ble_eq_true rfl, Nat.le_of_ble_eq_true rfl⟩⟩ (gi_isS hu18) (by decide) (x := ⟨"Grammarsmith$Chart", "ofNonterminal", "(II)I"⟩) (owner := "Grammarsmith$Chart") gw_626 gw_628 gw_642 gw_643 (by decide +kernel) (by decide +kernel) ⟨Nat.le_of_ble_eq_true rfl, Nat.le_of_ble_eq_true rfl⟩ (Nat.le_of_ble_eq_true rfl) (gy_k1 (x := .int (gI q19)) (kc2 := 0) (ks2 := 0) ⟨rfl, rfl⟩ ?_) gy_kn
    refine gx_istore (ls2 := [(5, .int (gI q19)), (0, .ref v0), (1, .int (gI v1)), (2, .int (gI v2)), (3, .int (gI v3)), (4, .int (gI v4))]) dX1_refine_112 (Nat.le_of_ble_eq_true rfl) rfl ?_
    refine gx_iload dX1_refine_114 0 rfl ?_
    refine gx_aload_n dX1_refine_116 rfl 1 rfl ?_
    refine gx_iload dX1_refine_117 5 rfl ?_
    refine gx_iload_n dX1_refine_119 rfl 2 rfl ?_
    refine gx_iload_n dX1_refine_120 rfl 3 rfl ?_
    refine gx_bE e (fun _ hu20 e => ?_)
    refine gx_bE e (fun q21 hq21 e => ?_)
    refine gx_callU (n := 3) (st := [.int (gI q19)]) (As := [.int (gI v4), .int (gI v1), .int (gI v2)]) (b := v0) dX1_refine_121 (z_X1_whole_5 hq21) rfl ⟨rfl, gw_cw_X1_whole, gw_11, gp_X1_whole, ⟨Nat.le_of_ble_eq_true rfl, Nat.le_of_ble_eq_true rfl⟩⟩ (gi_isS hu20) (by decide) (x := ⟨"Grammarsmith$Chart", "whole", "(III)I"⟩) (owner := "Grammarsmith$Chart") gw_602 gw_1338 gz_1_whole gw_604 rfl (by decide +kernel) ⟨Nat.le_of_ble_eq_true rfl, Nat.le_of_ble_eq_true rfl⟩ (Nat.le_of_ble_eq_true rfl) (gy_k1 (x := .int (gI q21)) (kc2 := 0) (ks2 := 0) ⟨rfl, rfl⟩ ?_) gy_kn
    refine gx_bE e (fun _ g22 e => ?_)
    refine gx_bE e (fun _ g23 e => ?_)
    refine gx_iE e (fun c24 e => ?_) (fun c24 e => ?_)
    · refine gy_icmp_eq (tgt := 139) (gi_rgS g22) (gi_rgS g23) dX1_refine_124 (by decide) (fun _ => ?_) (fun z => absurd c24 z)
      refine gx_sub (ls2 := [(0, .ref v0), (1, .int (gI v1)), (2, .int (gI v2)), (3, .int (gI v3)), (4, .int (gI v4))]) [1, 2, 3, 4, 5] rfl ?_
      exact zb_X1_refine_5_139 hr92 e
    · refine gy_icmp_eq (tgt := 139) (gi_rgS g22) (gi_rgS g23) dX1_refine_124 (by decide) (fun z => absurd z c24) (fun _ => ?_)
      refine gx_aload_n dX1_refine_127 rfl 1 rfl ?_
      refine gx_iload dX1_refine_128 5 rfl ?_
      refine gx_iload_n dX1_refine_130 rfl 2 rfl ?_
      refine gx_iload_n dX1_refine_131 rfl 3 rfl ?_
      refine gx_iload dX1_refine_132 0 rfl ?_
      refine gx_bE e (fun _ hu26 e => ?_)
      refine gx_bE e (fun q27 hq27 e => ?_)
      refine gx_callU (n := 4) (st := []) (As := [.int (gI v4), .int (gI v1), .int (gI v2), .int (gI q19)]) (b := v0) dX1_refine_134 (z_X1_setWhole_5 hq27) rfl ⟨rfl, gw_cw_X1_setWhole, gw_11, gp_X1_setWhole, ⟨Nat.le_of_ble_eq_true rfl, Nat.le_of_ble_eq_true rfl⟩⟩ (gi_isS hu26) (by decide) (x := ⟨"Grammarsmith$Chart", "setWhole", "(IIII)V"⟩) (owner := "Grammarsmith$Chart") gw_539 gw_1333 gz_1_setWhole gw_541 rfl (by decide +kernel) ⟨Nat.le_of_ble_eq_true rfl, Nat.le_of_ble_eq_true rfl⟩ (Nat.le_of_ble_eq_true rfl) (gy_k0 (kc2 := 0) (ks2 := 0) ⟨rfl, rfl⟩ ?_) gy_kn
      refine gy_iconst dX1_refine_137 ?_
      refine gx_istore_n (ls2 := [(3, .int (gI (1 : Int))), (5, .int (gI q19)), (0, .ref v0), (1, .int (gI v1)), (2, .int (gI v2)), (4, .int (gI v4))]) dX1_refine_138 rfl (Nat.le_of_ble_eq_true rfl) rfl ?_
      refine gx_sub (ls2 := [(0, .ref v0), (1, .int (gI v1)), (2, .int (gI v2)), (3, .int (gI (1 : Int))), (4, .int (gI v4))]) [2, 3, 4, 0, 5] rfl ?_
      exact zb_X1_refine_5_139 hr92 e
def l_X1_refine_5_92 (n : Nat)  : Nat → Nat → Int → Int → Int → Int → gi_H → Option (Int × gi_H)
  | 0, _, _, _, _, _, _ => none
  | k + 1, v0, v1, v2, v3, v4, h => b_X1_refine_5_92 n  (l_X1_refine_5_92 n  k) v0 v1 v2 v3 v4 h
theorem zl_X1_refine_5_92 {al : Bool} {n : Nat}  {res : Int} {h1 : gi_H}  : ∀ (k : Nat) (v0 : Nat) (v1 : Int) (v2 : Int) (v3 : Int) (v4 : Int) (h : gi_H), l_X1_refine_5_92 n  k v0 v1 v2 v3 v4 h = some (res, h1) → gx_Z mX1_refine al al 0 0 92 [(0, .ref v0), (1, .int (gI v1)), (2, .int (gI v2)), (3, .int (gI v3)), (4, .int (gI v4))] [] (gi_cv h) (.inl (some (.int (gI res)))) (gi_cv h1)
  | 0, _, _, _, _, _, _, e => gx_0E e
  | k + 1, _, _, _, _, _, _, e => zb_X1_refine_5_92 (n := n)  (zl_X1_refine_5_92  k) e
set_option maxRecDepth 100000 in
def b_X1_refine_5_87 (n : Nat)  (v0 : Nat) (v1 : Int) (v2 : Int)  (h : gi_H) : Option (Int × gi_H) :=
  l_X1_refine_5_92 n  n v0 v1 v2 (0 : Int) (0 : Int) h
set_option maxRecDepth 100000 in
theorem zb_X1_refine_5_87 {al : Bool} {n : Nat}  {res : Int} {h1 : gi_H}  {v0 : Nat} {v1 : Int} {v2 : Int}  {h : gi_H} (e : b_X1_refine_5_87 n v0 v1 v2 h = some (res, h1)) : gx_Z mX1_refine al al 0 0 87 [(0, .ref v0), (1, .int (gI v1)), (2, .int (gI v2))] [] (gi_cv h) (.inl (some (.int (gI res)))) (gi_cv h1) := by
  refine gy_iconst dX1_refine_87 ?_
  refine gx_istore_n (ls2 := [(3, .int (gI (0 : Int))), (0, .ref v0), (1, .int (gI v1)), (2, .int (gI v2))]) dX1_refine_88 rfl (Nat.le_of_ble_eq_true rfl) rfl ?_
  refine gy_iconst dX1_refine_89 ?_
  refine gx_istore (ls2 := [(4, .int (gI (0 : Int))), (3, .int (gI (0 : Int))), (0, .ref v0), (1, .int (gI v1)), (2, .int (gI v2))]) dX1_refine_90 (Nat.le_of_ble_eq_true rfl) rfl ?_
  refine gx_sub (ls2 := [(0, .ref v0), (1, .int (gI v1)), (2, .int (gI v2)), (3, .int (gI (0 : Int))), (4, .int (gI (0 : Int)))]) [2, 3, 4, 1, 0] rfl ?_
  exact zl_X1_refine_5_92  n _ _ _ _ _ _ e
set_option maxRecDepth 100000 in
def b_X1_refine_5_81 (n : Nat) (r13 : Nat → Int → Int → Int → gi_H → Option (Int × gi_H)) (v0 : Nat) (v1 : Int) (v2 : Int) (v3 : Int)  (h : gi_H) : Option (Int × gi_H) :=
  gx_nm (v3 + (1 : Int)) fun t37 => r13 v0 v1 v2 t37 h
set_option maxRecDepth 100000 in
theorem zb_X1_refine_5_81 {al : Bool} {n : Nat} {r13 : Nat → Int → Int → Int → gi_H → Option (Int × gi_H)} {res : Int} {h1 : gi_H} (hr13 : ∀ (x0 : Nat) (x1 : Int) (x2 : Int) (x3 : Int) (hh : gi_H), r13 x0 x1 x2 x3 hh = some (res, h1) → gx_Z mX1_refine al al 0 0 13 [(0, .ref x0), (1, .int (gI x1)), (2, .int (gI x2)), (3, .int (gI x3))] [] (gi_cv hh) (.inl (some (.int (gI res)))) (gi_cv h1)) {v0 : Nat} {v1 : Int} {v2 : Int} {v3 : Int}  {h : gi_H} (e : b_X1_refine_5_81 n r13 v0 v1 v2 v3 h = some (res, h1)) : gx_Z mX1_refine al al 0 0 81 [(0, .ref v0), (1, .int (gI v1)), (2, .int (gI v2)), (3, .int (gI v3))] [] (gi_cv h) (.inl (some (.int (gI res)))) (gi_cv h1) := by
  refine gx_nE e (fun t37 ht37 e => ?_)
  refine gy_iinc (v := t37) (ls2 := [(3, .int (gI t37)), (0, .ref v0), (1, .int (gI v1)), (2, .int (gI v2))]) dX1_refine_81 3 rfl ht37 (Nat.le_of_ble_eq_true rfl) rfl ?_
  refine gx_goto (tgt := 13) dX1_refine_84 (by decide) ?_
  refine gx_sub (ls2 := [(0, .ref v0), (1, .int (gI v1)), (2, .int (gI v2)), (3, .int (gI t37))]) [1, 2, 3, 0] rfl ?_
  exact hr13 _ _ _ _ _ e
set_option maxRecDepth 100000 in
def b_X1_refine_5_13 (n : Nat) (r13 : Nat → Int → Int → Int → gi_H → Option (Int × gi_H)) (v0 : Nat) (v1 : Int) (v2 : Int) (v3 : Int)  (h : gi_H) : Option (Int × gi_H) :=
  Option.bind (gi_gR h v0 5 0) fun t5 => Option.bind (gi_is h t5 2) fun _ => Option.bind (f_X3_grammar t5 h) fun q7 => Option.bind (gi_is h q7 3) fun _ => Option.bind (f_X4_count q7 h) fun q9 => Option.bind (gi_rg v3) fun _ => Option.bind (gi_rg q9) fun _ => if q9 ≤ v3 then (b_X1_refine_5_87 n  v0 v1 v2 h) else (Option.bind (gi_gR h v0 5 0) fun t28 => Option.bind (gi_is h t28 2) fun _ => Option.bind (f_X3_grammar t28 h) fun q30 => Option.bind (gi_is h q30 3) fun _ => Option.bind (f_X4_owner q30 v3 h) fun q32 => Option.bind (gi_is h v0 5) fun _ => Option.bind (f_X1_ofProduction_5 n v0 v3 v1 v2 h) fun q34 => Option.bind (gi_rg q32) fun _ => if q32 < 0 then (b_X1_refine_5_81 n r13 v0 v1 v2 v3 q34.2) else (if (16 : Int) ≤ q32 then (b_X1_refine_5_81 n r13 v0 v1 v2 v3 q34.2) else (Option.bind (gi_gR q34.2 v0 5 4) fun t39 => Option.bind (gi_gR q34.2 v0 5 4) fun t40 => Option.bind (gi_aI q34.2 1 t40 q32) fun t41 => Option.bind (gi_is q34.2 v0 5) fun _ => Option.bind (f_X6_either v0 t41 q34.1 q34.2) fun q43 => Option.bind (gi_s1 q34.2 t39 q32 q43) fun h44 => b_X1_refine_5_81 n r13 v0 v1 v2 v3 h44)))
set_option maxRecDepth 100000 in
theorem zb_X1_refine_5_13 {al : Bool} {n : Nat} {r13 : Nat → Int → Int → Int → gi_H → Option (Int × gi_H)} {res : Int} {h1 : gi_H} (hr13 : ∀ (x0 : Nat) (x1 : Int) (x2 : Int) (x3 : Int) (hh : gi_H), r13 x0 x1 x2 x3 hh = some (res, h1) → gx_Z mX1_refine al al 0 0 13 [(0, .ref x0), (1, .int (gI x1)), (2, .int (gI x2)), (3, .int (gI x3))] [] (gi_cv hh) (.inl (some (.int (gI res)))) (gi_cv h1)) {v0 : Nat} {v1 : Int} {v2 : Int} {v3 : Int}  {h : gi_H} (e : b_X1_refine_5_13 n r13 v0 v1 v2 v3 h = some (res, h1)) : gx_Z mX1_refine al al 0 0 13 [(0, .ref v0), (1, .int (gI v1)), (2, .int (gI v2)), (3, .int (gI v3))] [] (gi_cv h) (.inl (some (.int (gI res)))) (gi_cv h1) := by
  refine gx_iload_n dX1_refine_13 rfl 3 rfl ?_
  refine gx_aload_n dX1_refine_14 rfl 0 rfl ?_
  refine gx_bE e (fun t5 ht5 e => ?_)
  refine gy_fR ht5 dX1_refine_15 gf_RX1_15_5_0 (by decide) gkN_5_0 gkR_5_0 ?_
  refine gx_bE e (fun _ hu6 e => ?_)
  refine gx_bE e (fun q7 hq7 e => ?_)
  refine gx_callV (n := 0) (st := [.int (gI v3)]) (As := []) (b := t5) dX1_refine_18 (z_X3_grammar hq7) rfl ⟨rfl, gw_cw_X3_grammar, gw_6, gp_X3_grammar, ⟨Nat.le_of_ble_eq_true rfl, Nat.le_of_ble_eq_true rfl⟩⟩ (gi_isS hu6) (by decide) gw_552 gw_553 gw_554 rfl ⟨Nat.le_of_ble_eq_true rfl, Nat.le_of_ble_eq_true rfl⟩ (Nat.le_of_ble_eq_true rfl) (gy_k1 (x := .ref q7) (kc2 := 0) (ks2 := 0) ⟨rfl, rfl⟩ ?_) gy_kn
  refine gx_bE e (fun _ hu8 e => ?_)
  refine gx_bE e (fun q9 hq9 e => ?_)
  refine gx_callV (n := 0) (st := [.int (gI v3)]) (As := []) (b := q7) dX1_refine_21 (z_X4_count hq9) rfl ⟨rfl, gw_cw_X4_count, gw_3, gp_X4_count, ⟨Nat.le_of_ble_eq_true rfl, Nat.le_of_ble_eq_true rfl⟩⟩ (gi_isS hu8) (by decide) gw_556 gw_384 gw_385 rfl ⟨Nat.le_of_ble_eq_true rfl, Nat.le_of_ble_eq_true rfl⟩ (Nat.le_of_ble_eq_true rfl) (gy_k1 (x := .int (gI q9)) (kc2 := 0) (ks2 := 0) ⟨rfl, rfl⟩ ?_) gy_kn
  refine gx_bE e (fun _ g10 e => ?_)
  refine gx_bE e (fun _ g11 e => ?_)
  refine gx_iE e (fun c12 e => ?_) (fun c12 e => ?_)
  · refine gy_icmp_ge (tgt := 87) (gi_rgS g10) (gi_rgS g11) dX1_refine_24 (by decide) (fun _ => ?_) (fun z => absurd c12 z)
    refine gx_sub (ls2 := [(0, .ref v0), (1, .int (gI v1)), (2, .int (gI v2))]) [0, 1, 2] rfl ?_
    exact zb_X1_refine_5_87  e
  · refine gy_icmp_ge (tgt := 87) (gi_rgS g10) (gi_rgS g11) dX1_refine_24 (by decide) (fun z => absurd z c12) (fun _ => ?_)
    refine gx_aload_n dX1_refine_27 rfl 0 rfl ?_
    refine gx_bE e (fun t28 ht28 e => ?_)
    refine gy_fR ht28 dX1_refine_28 gf_RX1_15_5_0 (by decide) gkN_5_0 gkR_5_0 ?_
    refine gx_bE e (fun _ hu29 e => ?_)
    refine gx_bE e (fun q30 hq30 e => ?_)
    refine gx_callV (n := 0) (st := []) (As := []) (b := t28) dX1_refine_31 (z_X3_grammar hq30) rfl ⟨rfl, gw_cw_X3_grammar, gw_6, gp_X3_grammar, ⟨Nat.le_of_ble_eq_true rfl, Nat.le_of_ble_eq_true rfl⟩⟩ (gi_isS hu29) (by decide) gw_552 gw_553 gw_554 rfl ⟨Nat.le_of_ble_eq_true rfl, Nat.le_of_ble_eq_true rfl⟩ (Nat.le_of_ble_eq_true rfl) (gy_k1 (x := .ref q30) (kc2 := 0) (ks2 := 0) ⟨rfl, rfl⟩ ?_) gy_kn
    refine gx_iload_n dX1_refine_34 rfl 3 rfl ?_
    refine gx_bE e (fun _ hu31 e => ?_)
    refine gx_bE e (fun q32 hq32 e => ?_)
    refine gx_callV (n := 1) (st := []) (As := [.int (gI v3)]) (b := q30) dX1_refine_35 (z_X4_owner hq32) rfl ⟨rfl, gw_cw_X4_owner, gw_3, gp_X4_owner, ⟨Nat.le_of_ble_eq_true rfl, Nat.le_of_ble_eq_true rfl⟩⟩ (gi_isS hu31) (by decide) gw_557 gw_403 gw_404 rfl ⟨Nat.le_of_ble_eq_true rfl, Nat.le_of_ble_eq_true rfl⟩ (Nat.le_of_ble_eq_true rfl) (gy_k1 (x := .int (gI q32)) (kc2 := 0) (ks2 := 0) ⟨rfl, rfl⟩ ?_) gy_kn
    refine gx_istore (ls2 := [(4, .int (gI q32)), (0, .ref v0), (1, .int (gI v1)), (2, .int (gI v2)), (3, .int (gI v3))]) dX1_refine_38 (Nat.le_of_ble_eq_true rfl) rfl ?_
    refine gx_aload_n dX1_refine_40 rfl 1 rfl ?_
    refine gx_iload_n dX1_refine_41 rfl 4 rfl ?_
    refine gx_iload_n dX1_refine_42 rfl 2 rfl ?_
    refine gx_iload_n dX1_refine_43 rfl 3 rfl ?_
    refine gx_bE e (fun _ hu33 e => ?_)
    refine gx_bE e (fun q34 hq34 e => ?_)
    refine gx_callU (n := 3) (st := []) (As := [.int (gI v3), .int (gI v1), .int (gI v2)]) (b := v0) dX1_refine_44 (z_X1_ofProduction_5 hq34) rfl ⟨rfl, gw_cw_X1_ofProduction, gw_11, gp_X1_ofProduction, ⟨Nat.le_of_ble_eq_true rfl, Nat.le_of_ble_eq_true rfl⟩⟩ (gi_isS hu33) (by decide) (x := ⟨"Grammarsmith$Chart", "ofProduction", "(III)I"⟩) (owner := "Grammarsmith$Chart") gw_558 gw_1335 gz_1_ofProduction gw_560 rfl (by decide +kernel) ⟨Nat.le_of_ble_eq_true rfl, Nat.le_of_ble_eq_true rfl⟩ (Nat.le_of_ble_eq_true rfl) (gy_k1 (x := .int (gI q34.1)) (kc2 := 0) (ks2 := 0) ⟨rfl, rfl⟩ ?_) gy_kn
    refine gx_istore (ls2 := [(5, .int (gI q34.1)), (4, .int (gI q32)), (0, .ref v0), (1, .int (gI v1)), (2, .int (gI v2)), (3, .int (gI v3))]) dX1_refine_47 (Nat.le_of_ble_eq_true rfl) rfl ?_
    refine gx_iload dX1_refine_49 1 rfl ?_
    refine gx_bE e (fun _ g35 e => ?_)
    refine gx_iE e (fun c36 e => ?_) (fun c36 e => ?_)
    · refine gy_if_lt (tgt := 81) (gi_rgS g35) dX1_refine_51 (by decide) (fun _ => ?_) (fun z => absurd c36 z)
      refine gx_sub (ls2 := [(0, .ref v0), (1, .int (gI v1)), (2, .int (gI v2)), (3, .int (gI v3))]) [2, 3, 4, 5] rfl ?_
      exact zb_X1_refine_5_81 hr13 e
    · refine gy_if_lt (tgt := 81) (gi_rgS g35) dX1_refine_51 (by decide) (fun z => absurd z c36) (fun _ => ?_)
      refine gx_iload dX1_refine_54 1 rfl ?_
      refine gy_bipush dX1_refine_56 gcb_16 ?_
      refine gx_iE e (fun c38 e => ?_) (fun c38 e => ?_)
      · refine gy_icmp_ge (tgt := 81) (gi_rgS g35) (by decide) dX1_refine_58 (by decide) (fun _ => ?_) (fun z => absurd c38 z)
        refine gx_sub (ls2 := [(0, .ref v0), (1, .int (gI v1)), (2, .int (gI v2)), (3, .int (gI v3))]) [2, 3, 4, 5] rfl ?_
        exact zb_X1_refine_5_81 hr13 e
      · refine gy_icmp_ge (tgt := 81) (gi_rgS g35) (by decide) dX1_refine_58 (by decide) (fun z => absurd z c38) (fun _ => ?_)
        refine gx_aload_n dX1_refine_61 rfl 2 rfl ?_
        refine gx_bE e (fun t39 ht39 e => ?_)
        refine gy_fR ht39 dX1_refine_62 gf_RX1_9_5_4 (by decide) gkN_5_4 gkR_5_4 ?_
        refine gx_iload dX1_refine_65 1 rfl ?_
        refine gx_aload_n dX1_refine_67 rfl 2 rfl ?_
        refine gx_aload_n dX1_refine_68 rfl 2 rfl ?_
        refine gx_bE e (fun t40 ht40 e => ?_)
        refine gy_fR ht40 dX1_refine_69 gf_RX1_9_5_4 (by decide) gkN_5_4 gkR_5_4 ?_
        refine gx_iload dX1_refine_72 1 rfl ?_
        refine gx_bE e (fun t41 ht41 e => ?_)
        refine gy_l1 ht41 dX1_refine_74 ?_
        refine gx_iload dX1_refine_75 0 rfl ?_
        refine gx_bE e (fun _ hu42 e => ?_)
        refine gx_bE e (fun q43 hq43 e => ?_)
        refine gx_callA (n := 2) (st := [.int (gI q32), .ref t39]) (As := [.int (gI t41), .int (gI q34.1)]) (b := v0) dX1_refine_77 (z_X6_either hq43) rfl ⟨rfl, gw_cw_X6_either, gw_13, gp_X6_either, ⟨Nat.le_of_ble_eq_true rfl, Nat.le_of_ble_eq_true rfl⟩⟩ (gi_isS hu42) (by decide) (x := ⟨"Grammarsmith$Chart", "either", "(II)I"⟩) (owner := "Grammarsmith$Chart") gw_617 gw_619 gw_623 gw_624 (by decide +kernel) (by decide +kernel) ⟨Nat.le_of_ble_eq_true rfl, Nat.le_of_ble_eq_true rfl⟩ (Nat.le_of_ble_eq_true rfl) (gy_k1 (x := .int (gI q43)) (kc2 := 0) (ks2 := 0) ⟨rfl, rfl⟩ ?_) gy_kn
        refine gx_bE e (fun h44 hh44 e => ?_)
        refine gy_t1 hh44 dX1_refine_80 ?_
        refine gx_sub (ls2 := [(0, .ref v0), (1, .int (gI v1)), (2, .int (gI v2)), (3, .int (gI v3))]) [2, 3, 4, 5] rfl ?_
        exact zb_X1_refine_5_81 hr13 e
def l_X1_refine_5_13 (n : Nat)  : Nat → Nat → Int → Int → Int → gi_H → Option (Int × gi_H)
  | 0, _, _, _, _, _ => none
  | k + 1, v0, v1, v2, v3, h => b_X1_refine_5_13 n  (l_X1_refine_5_13 n  k) v0 v1 v2 v3 h
theorem zl_X1_refine_5_13 {al : Bool} {n : Nat}  {res : Int} {h1 : gi_H}  : ∀ (k : Nat) (v0 : Nat) (v1 : Int) (v2 : Int) (v3 : Int) (h : gi_H), l_X1_refine_5_13 n  k v0 v1 v2 v3 h = some (res, h1) → gx_Z mX1_refine al al 0 0 13 [(0, .ref v0), (1, .int (gI v1)), (2, .int (gI v2)), (3, .int (gI v3))] [] (gi_cv h) (.inl (some (.int (gI res)))) (gi_cv h1)
  | 0, _, _, _, _, _, e => gx_0E e
  | k + 1, _, _, _, _, _, e => zb_X1_refine_5_13 (n := n)  (zl_X1_refine_5_13  k) e
set_option maxRecDepth 100000 in
def f_X1_refine_5 (n : Nat) (v0 : Nat) (v1 : Int) (v2 : Int) (h : gi_H) : Option (Int × gi_H) :=
  Option.bind (gi_gR h v0 5 4) fun t1 => Option.bind (gi_is h v0 5) fun _ => Option.bind (f_X6_none v0 h) fun q3 => Option.bind (f_J7_fill_53178 n t1 q3 h) fun q4 => l_X1_refine_5_13 n  n v0 v1 v2 (0 : Int) q4
set_option maxRecDepth 100000 in
theorem z_X1_refine_5 {al : Bool} {n : Nat} {v0 : Nat} {v1 : Int} {v2 : Int} {h : gi_H} {res : Int} {h1 : gi_H} (e : f_X1_refine_5 n v0 v1 v2 h = some (res, h1)) : gx_Cw mX1_refine al [.ref v0, .int (gI v1), .int (gI v2)] (gi_cv h) (.inl (some (.int (gI res)))) (gi_cv h1) := by
  refine gx_enter (by decide +kernel) rfl (Nat.le_of_ble_eq_true rfl) ?_
  show gx_Z mX1_refine al al 0 0 0 [(0, .ref v0), (1, .int (gI v1)), (2, .int (gI v2))] [] (gi_cv h) (.inl (some (.int (gI res)))) (gi_cv h1)
  refine gx_aload_n dX1_refine_0 rfl 0 rfl ?_
  refine gx_bE e (fun t1 ht1 e => ?_)
  refine gy_fR ht1 dX1_refine_1 gf_RX1_9_5_4 (by decide) gkN_5_4 gkR_5_4 ?_
  refine gx_aload_n dX1_refine_4 rfl 0 rfl ?_
  refine gx_bE e (fun _ hu2 e => ?_)
  refine gx_bE e (fun q3 hq3 e => ?_)
  refine gx_callA (n := 0) (st := [.ref t1]) (As := []) (b := v0) dX1_refine_5 (z_X6_none hq3) rfl ⟨rfl, gw_cw_X6_none, gw_13, gp_X6_none, ⟨Nat.le_of_ble_eq_true rfl, Nat.le_of_ble_eq_true rfl⟩⟩ (gi_isS hu2) (by decide) (x := ⟨"Grammarsmith$Chart", "none", "()I"⟩) (owner := "Grammarsmith$Chart") gw_530 gw_532 gw_536 gw_537 (by decide +kernel) (by decide +kernel) ⟨Nat.le_of_ble_eq_true rfl, Nat.le_of_ble_eq_true rfl⟩ (Nat.le_of_ble_eq_true rfl) (gy_k1 (x := .int (gI q3)) (kc2 := 0) (ks2 := 0) ⟨rfl, rfl⟩ ?_) gy_kn
  refine gx_bE e (fun q4 hq4 e => ?_)
  refine gx_callS (n := 2) (st := []) (As := [.ref t1, .int (gI q3)]) dX1_refine_8 (z_J7_fill_53178 hq4) rfl ⟨rfl, gw_cw_J7_fill_53178, gw_5, gp_J7_fill_53178, ⟨Nat.le_of_ble_eq_true rfl, Nat.le_of_ble_eq_true rfl⟩⟩ gw_551 gw_98 ⟨Nat.le_of_ble_eq_true rfl, Nat.le_of_ble_eq_true rfl⟩ (Nat.le_of_ble_eq_true rfl) (gy_k0 (kc2 := 0) (ks2 := 0) ⟨rfl, rfl⟩ ?_) gy_kn
  refine gy_iconst dX1_refine_11 ?_
  refine gx_istore_n (ls2 := [(3, .int (gI (0 : Int))), (0, .ref v0), (1, .int (gI v1)), (2, .int (gI v2))]) dX1_refine_12 rfl (Nat.le_of_ble_eq_true rfl) rfl ?_
  refine gx_sub (ls2 := [(0, .ref v0), (1, .int (gI v1)), (2, .int (gI v2)), (3, .int (gI (0 : Int)))]) [1, 2, 3, 0] rfl ?_
  exact zl_X1_refine_5_13  n _ _ _ _ _ e
/-! X1_fill 5 -/
set_option maxRecDepth 100000 in
def b_X1_fill_5_30 (n : Nat) (r30 : Nat → Int → Int → Int → Int → gi_H → Option (gi_H)) (v0 : Nat) (v1 : Int) (v2 : Int) (v3 : Int) (v4 : Int)  (h : gi_H) : Option (gi_H) :=
  Option.bind (gi_rg v4) fun _ => if (1000000 : Int) ≤ v4 then (some h) else (Option.bind (gi_rg v3) fun _ => if v3 = 0 then (some h) else (Option.bind (gi_is h v0 5) fun _ => Option.bind (f_X1_refine_5 n v0 v1 v2 h) fun q8 => gx_nm (v4 + (1 : Int)) fun t9 => r30 v0 v1 v2 q8.1 t9 q8.2))
set_option maxRecDepth 100000 in
theorem zb_X1_fill_5_30 {al : Bool} {n : Nat} {r30 : Nat → Int → Int → Int → Int → gi_H → Option (gi_H)} {h1 : gi_H} (hr30 : ∀ (x0 : Nat) (x1 : Int) (x2 : Int) (x3 : Int) (x4 : Int) (hh : gi_H), r30 x0 x1 x2 x3 x4 hh = some h1 → gx_Z mX1_fill al al 0 0 30 [(0, .ref x0), (1, .int (gI x1)), (2, .int (gI x2)), (3, .int (gI x3)), (4, .int (gI x4))] [] (gi_cv hh) (.inl none) (gi_cv h1)) {v0 : Nat} {v1 : Int} {v2 : Int} {v3 : Int} {v4 : Int}  {h : gi_H} (e : b_X1_fill_5_30 n r30 v0 v1 v2 v3 v4 h = some h1) : gx_Z mX1_fill al al 0 0 30 [(0, .ref v0), (1, .int (gI v1)), (2, .int (gI v2)), (3, .int (gI v3)), (4, .int (gI v4))] [] (gi_cv h) (.inl none) (gi_cv h1) := by
  refine gx_iload dX1_fill_30 4 rfl ?_
  refine gy_ldc (n := 1000000) dX1_fill_32 gw_546 (by decide +kernel) ?_
  refine gx_bE e (fun _ g3 e => ?_)
  refine gx_iE e (fun c4 e => ?_) (fun c4 e => ?_)
  · refine gy_icmp_ge (tgt := 54) (gi_rgS g3) (by decide) dX1_fill_34 (by decide) (fun _ => ?_) (fun z => absurd c4 z)
    cases e
    exact gx_vret dX1_fill_54 rfl ⟨Nat.le_of_ble_eq_true rfl, Nat.le_of_ble_eq_true rfl⟩ (fun z => z)
  · refine gy_icmp_ge (tgt := 54) (gi_rgS g3) (by decide) dX1_fill_34 (by decide) (fun z => absurd z c4) (fun _ => ?_)
    refine gx_iload_n dX1_fill_37 rfl 3 rfl ?_
    refine gx_bE e (fun _ g5 e => ?_)
    refine gx_iE e (fun c6 e => ?_) (fun c6 e => ?_)
    · refine gy_if_eq (tgt := 54) (gi_rgS g5) dX1_fill_38 (by decide) (fun _ => ?_) (fun z => absurd c6 z)
      cases e
      exact gx_vret dX1_fill_54 rfl ⟨Nat.le_of_ble_eq_true rfl, Nat.le_of_ble_eq_true rfl⟩ (fun z => z)
    · refine gy_if_eq (tgt := 54) (gi_rgS g5) dX1_fill_38 (by decide) (fun z => absurd z c6) (fun _ => ?_)
      refine gx_aload_n dX1_fill_41 rfl 0 rfl ?_
      refine gx_iload_n dX1_fill_42 rfl 1 rfl ?_
      refine gx_iload_n dX1_fill_43 rfl 2 rfl ?_
      refine gx_bE e (fun _ hu7 e => ?_)
      refine gx_bE e (fun q8 hq8 e => ?_)
      refine gx_callU (n := 2) (st := []) (As := [.int (gI v1), .int (gI v2)]) (b := v0) dX1_fill_44 (z_X1_refine_5 hq8) rfl ⟨rfl, gw_cw_X1_refine, gw_11, gp_X1_refine, ⟨Nat.le_of_ble_eq_true rfl, Nat.le_of_ble_eq_true rfl⟩⟩ (gi_isS hu7) (by decide) (x := ⟨"Grammarsmith$Chart", "refine", "(II)Z"⟩) (owner := "Grammarsmith$Chart") gw_547 gw_1334 gz_1_refine gw_549 rfl (by decide +kernel) ⟨Nat.le_of_ble_eq_true rfl, Nat.le_of_ble_eq_true rfl⟩ (Nat.le_of_ble_eq_true rfl) (gy_k1 (x := .int (gI q8.1)) (kc2 := 0) (ks2 := 0) ⟨rfl, rfl⟩ ?_) gy_kn
      refine gx_istore_n (ls2 := [(3, .int (gI q8.1)), (0, .ref v0), (1, .int (gI v1)), (2, .int (gI v2)), (4, .int (gI v4))]) dX1_fill_47 rfl (Nat.le_of_ble_eq_true rfl) rfl ?_
      refine gx_nE e (fun t9 ht9 e => ?_)
      refine gy_iinc (v := t9) (ls2 := [(4, .int (gI t9)), (3, .int (gI q8.1)), (0, .ref v0), (1, .int (gI v1)), (2, .int (gI v2))]) dX1_fill_48 4 rfl ht9 (Nat.le_of_ble_eq_true rfl) rfl ?_
      refine gx_goto (tgt := 30) dX1_fill_51 (by decide) ?_
      refine gx_sub (ls2 := [(0, .ref v0), (1, .int (gI v1)), (2, .int (gI v2)), (3, .int (gI q8.1)), (4, .int (gI t9))]) [2, 3, 4, 1, 0] rfl ?_
      exact hr30 _ _ _ _ _ _ e
def l_X1_fill_5_30 (n : Nat)  : Nat → Nat → Int → Int → Int → Int → gi_H → Option (gi_H)
  | 0, _, _, _, _, _, _ => none
  | k + 1, v0, v1, v2, v3, v4, h => b_X1_fill_5_30 n  (l_X1_fill_5_30 n  k) v0 v1 v2 v3 v4 h
theorem zl_X1_fill_5_30 {al : Bool} {n : Nat}  {h1 : gi_H}  : ∀ (k : Nat) (v0 : Nat) (v1 : Int) (v2 : Int) (v3 : Int) (v4 : Int) (h : gi_H), l_X1_fill_5_30 n  k v0 v1 v2 v3 v4 h = some h1 → gx_Z mX1_fill al al 0 0 30 [(0, .ref v0), (1, .int (gI v1)), (2, .int (gI v2)), (3, .int (gI v3)), (4, .int (gI v4))] [] (gi_cv h) (.inl none) (gi_cv h1)
  | 0, _, _, _, _, _, _, e => gx_0E e
  | k + 1, _, _, _, _, _, _, e => zb_X1_fill_5_30 (n := n)  (zl_X1_fill_5_30  k) e
set_option maxRecDepth 100000 in
def b_X1_fill_5_25 (n : Nat)  (v0 : Nat) (v1 : Int) (v2 : Int)  (h : gi_H) : Option (gi_H) :=
  l_X1_fill_5_30 n  n v0 v1 v2 (1 : Int) (0 : Int) h
set_option maxRecDepth 100000 in
theorem zb_X1_fill_5_25 {al : Bool} {n : Nat}  {h1 : gi_H}  {v0 : Nat} {v1 : Int} {v2 : Int}  {h : gi_H} (e : b_X1_fill_5_25 n v0 v1 v2 h = some h1) : gx_Z mX1_fill al al 0 0 25 [(0, .ref v0), (1, .int (gI v1)), (2, .int (gI v2))] [] (gi_cv h) (.inl none) (gi_cv h1) := by
  refine gy_iconst dX1_fill_25 ?_
  refine gx_istore_n (ls2 := [(3, .int (gI (1 : Int))), (0, .ref v0), (1, .int (gI v1)), (2, .int (gI v2))]) dX1_fill_26 rfl (Nat.le_of_ble_eq_true rfl) rfl ?_
  refine gy_iconst dX1_fill_27 ?_
  refine gx_istore (ls2 := [(4, .int (gI (0 : Int))), (3, .int (gI (1 : Int))), (0, .ref v0), (1, .int (gI v1)), (2, .int (gI v2))]) dX1_fill_28 (Nat.le_of_ble_eq_true rfl) rfl ?_
  refine gx_sub (ls2 := [(0, .ref v0), (1, .int (gI v1)), (2, .int (gI v2)), (3, .int (gI (1 : Int))), (4, .int (gI (0 : Int)))]) [2, 3, 4, 1, 0] rfl ?_
  exact zl_X1_fill_5_30  n _ _ _ _ _ _ e
set_option maxRecDepth 100000 in
def b_X1_fill_5_2 (n : Nat) (r2 : Nat → Int → Int → Int → gi_H → Option (gi_H)) (v0 : Nat) (v1 : Int) (v2 : Int) (v3 : Int)  (h : gi_H) : Option (gi_H) :=
  Option.bind (gi_rg v3) fun _ => if (16 : Int) ≤ v3 then (b_X1_fill_5_25 n  v0 v1 v2 h) else (Option.bind (gi_is h v0 5) fun _ => Option.bind (f_X6_none v0 h) fun q11 => Option.bind (gi_is h v0 5) fun _ => Option.bind (f_X1_setWhole_5 v0 v3 v1 v2 q11 h) fun q13 => gx_nm (v3 + (1 : Int)) fun t14 => r2 v0 v1 v2 t14 q13)
set_option maxRecDepth 100000 in
theorem zb_X1_fill_5_2 {al : Bool} {n : Nat} {r2 : Nat → Int → Int → Int → gi_H → Option (gi_H)} {h1 : gi_H} (hr2 : ∀ (x0 : Nat) (x1 : Int) (x2 : Int) (x3 : Int) (hh : gi_H), r2 x0 x1 x2 x3 hh = some h1 → gx_Z mX1_fill al al 0 0 2 [(0, .ref x0), (1, .int (gI x1)), (2, .int (gI x2)), (3, .int (gI x3))] [] (gi_cv hh) (.inl none) (gi_cv h1)) {v0 : Nat} {v1 : Int} {v2 : Int} {v3 : Int}  {h : gi_H} (e : b_X1_fill_5_2 n r2 v0 v1 v2 v3 h = some h1) : gx_Z mX1_fill al al 0 0 2 [(0, .ref v0), (1, .int (gI v1)), (2, .int (gI v2)), (3, .int (gI v3))] [] (gi_cv h) (.inl none) (gi_cv h1) := by
  refine gx_iload_n dX1_fill_2 rfl 3 rfl ?_
  refine gy_bipush dX1_fill_3 gcb_16 ?_
  refine gx_bE e (fun _ g1 e => ?_)
  refine gx_iE e (fun c2 e => ?_) (fun c2 e => ?_)
  · refine gy_icmp_ge (tgt := 25) (gi_rgS g1) (by decide) dX1_fill_5 (by decide) (fun _ => ?_) (fun z => absurd c2 z)
    refine gx_sub (ls2 := [(0, .ref v0), (1, .int (gI v1)), (2, .int (gI v2))]) [0, 1, 2] rfl ?_
    exact zb_X1_fill_5_25  e
  · refine gy_icmp_ge (tgt := 25) (gi_rgS g1) (by decide) dX1_fill_5 (by decide) (fun z => absurd z c2) (fun _ => ?_)
    refine gx_aload_n dX1_fill_8 rfl 0 rfl ?_
    refine gx_iload_n dX1_fill_9 rfl 3 rfl ?_
    refine gx_iload_n dX1_fill_10 rfl 1 rfl ?_
    refine gx_iload_n dX1_fill_11 rfl 2 rfl ?_
    refine gx_aload_n dX1_fill_12 rfl 0 rfl ?_
    refine gx_bE e (fun _ hu10 e => ?_)
    refine gx_bE e (fun q11 hq11 e => ?_)
    refine gx_callA (n := 0) (st := [.int (gI v2), .int (gI v1), .int (gI v3), .ref v0]) (As := []) (b := v0) dX1_fill_13 (z_X6_none hq11) rfl ⟨rfl, gw_cw_X6_none, gw_13, gp_X6_none, ⟨Nat.le_of_ble_eq_true rfl, Nat.le_of_ble_eq_true rfl⟩⟩ (gi_isS hu10) (by decide) (x := ⟨"Grammarsmith$Chart", "none", "()I"⟩) (owner := "Grammarsmith$Chart") gw_530 gw_532 gw_536 gw_537 (by decide +kernel) (by decide +kernel) ⟨Nat.le_of_ble_eq_true rfl, Nat.le_of_ble_eq_true rfl⟩ (Nat.le_of_ble_eq_true rfl) (gy_k1 (x := .int (gI q11)) (kc2 := 0) (ks2 := 0) ⟨rfl, rfl⟩ ?_) gy_kn
    refine gx_bE e (fun _ hu12 e => ?_)
    refine gx_bE e (fun q13 hq13 e => ?_)
    refine gx_callU (n := 4) (st := []) (As := [.int (gI v3), .int (gI v1), .int (gI v2), .int (gI q11)]) (b := v0) dX1_fill_16 (z_X1_setWhole_5 hq13) rfl ⟨rfl, gw_cw_X1_setWhole, gw_11, gp_X1_setWhole, ⟨Nat.le_of_ble_eq_true rfl, Nat.le_of_ble_eq_true rfl⟩⟩ (gi_isS hu12) (by decide) (x := ⟨"Grammarsmith$Chart", "setWhole", "(IIII)V"⟩) (owner := "Grammarsmith$Chart") gw_539 gw_1333 gz_1_setWhole gw_541 rfl (by decide +kernel) ⟨Nat.le_of_ble_eq_true rfl, Nat.le_of_ble_eq_true rfl⟩ (Nat.le_of_ble_eq_true rfl) (gy_k0 (kc2 := 0) (ks2 := 0) ⟨rfl, rfl⟩ ?_) gy_kn
    refine gx_nE e (fun t14 ht14 e => ?_)
    refine gy_iinc (v := t14) (ls2 := [(3, .int (gI t14)), (0, .ref v0), (1, .int (gI v1)), (2, .int (gI v2))]) dX1_fill_19 3 rfl ht14 (Nat.le_of_ble_eq_true rfl) rfl ?_
    refine gx_goto (tgt := 2) dX1_fill_22 (by decide) ?_
    refine gx_sub (ls2 := [(0, .ref v0), (1, .int (gI v1)), (2, .int (gI v2)), (3, .int (gI t14))]) [1, 2, 3, 0] rfl ?_
    exact hr2 _ _ _ _ _ e
def l_X1_fill_5_2 (n : Nat)  : Nat → Nat → Int → Int → Int → gi_H → Option (gi_H)
  | 0, _, _, _, _, _ => none
  | k + 1, v0, v1, v2, v3, h => b_X1_fill_5_2 n  (l_X1_fill_5_2 n  k) v0 v1 v2 v3 h
theorem zl_X1_fill_5_2 {al : Bool} {n : Nat}  {h1 : gi_H}  : ∀ (k : Nat) (v0 : Nat) (v1 : Int) (v2 : Int) (v3 : Int) (h : gi_H), l_X1_fill_5_2 n  k v0 v1 v2 v3 h = some h1 → gx_Z mX1_fill al al 0 0 2 [(0, .ref v0), (1, .int (gI v1)), (2, .int (gI v2)), (3, .int (gI v3))] [] (gi_cv h) (.inl none) (gi_cv h1)
  | 0, _, _, _, _, _, e => gx_0E e
  | k + 1, _, _, _, _, _, e => zb_X1_fill_5_2 (n := n)  (zl_X1_fill_5_2  k) e
set_option maxRecDepth 100000 in
def f_X1_fill_5 (n : Nat) (v0 : Nat) (v1 : Int) (v2 : Int) (h : gi_H) : Option (gi_H) :=
  l_X1_fill_5_2 n  n v0 v1 v2 (0 : Int) h
set_option maxRecDepth 100000 in
theorem z_X1_fill_5 {al : Bool} {n : Nat} {v0 : Nat} {v1 : Int} {v2 : Int} {h : gi_H} {h1 : gi_H} (e : f_X1_fill_5 n v0 v1 v2 h = some h1) : gx_Cw mX1_fill al [.ref v0, .int (gI v1), .int (gI v2)] (gi_cv h) (.inl none) (gi_cv h1) := by
  refine gx_enter (by decide +kernel) rfl (Nat.le_of_ble_eq_true rfl) ?_
  show gx_Z mX1_fill al al 0 0 0 [(0, .ref v0), (1, .int (gI v1)), (2, .int (gI v2))] [] (gi_cv h) (.inl none) (gi_cv h1)
  refine gy_iconst dX1_fill_0 ?_
  refine gx_istore_n (ls2 := [(3, .int (gI (0 : Int))), (0, .ref v0), (1, .int (gI v1)), (2, .int (gI v2))]) dX1_fill_1 rfl (Nat.le_of_ble_eq_true rfl) rfl ?_
  refine gx_sub (ls2 := [(0, .ref v0), (1, .int (gI v1)), (2, .int (gI v2)), (3, .int (gI (0 : Int)))]) [1, 2, 3, 0] rfl ?_
  exact zl_X1_fill_5_2  n _ _ _ _ _ e
/-! X1_measure 5 -/
set_option maxRecDepth 100000 in
def b_X1_measure_5_47 (n : Nat)  (v0 : Nat) (v2 : Int)  (h : gi_H) : Option (Int × gi_H) :=
  Option.bind (gi_gR h v0 5 0) fun t6 => Option.bind (gi_is h t6 2) fun _ => Option.bind (f_X3_grammar t6 h) fun q8 => Option.bind (gi_is h q8 3) fun _ => Option.bind (f_X4_top q8 h) fun q10 => Option.bind (gi_is h v0 5) fun _ => Option.bind (f_X1_whole_5 v0 q10 (0 : Int) v2 h) fun q12 => some (q12, h)
set_option maxRecDepth 100000 in
theorem zb_X1_measure_5_47 {al : Bool} {n : Nat}  {res : Int} {h1 : gi_H}  {v0 : Nat} {v2 : Int}  {h : gi_H} (e : b_X1_measure_5_47 n v0 v2 h = some (res, h1)) : gx_Z mX1_measure al al 0 0 47 [(0, .ref v0), (2, .int (gI v2))] [] (gi_cv h) (.inl (some (.int (gI res)))) (gi_cv h1) := by
  refine gx_aload_n dX1_measure_47 rfl 0 rfl ?_
  refine gx_aload_n dX1_measure_48 rfl 0 rfl ?_
  refine gx_bE e (fun t6 ht6 e => ?_)
  refine gy_fR ht6 dX1_measure_49 gf_RX1_15_5_0 (by decide) gkN_5_0 gkR_5_0 ?_
  refine gx_bE e (fun _ hu7 e => ?_)
  refine gx_bE e (fun q8 hq8 e => ?_)
  refine gx_callV (n := 0) (st := [.ref v0]) (As := []) (b := t6) dX1_measure_52 (z_X3_grammar hq8) rfl ⟨rfl, gw_cw_X3_grammar, gw_6, gp_X3_grammar, ⟨Nat.le_of_ble_eq_true rfl, Nat.le_of_ble_eq_true rfl⟩⟩ (gi_isS hu7) (by decide) gw_552 gw_553 gw_554 rfl ⟨Nat.le_of_ble_eq_true rfl, Nat.le_of_ble_eq_true rfl⟩ (Nat.le_of_ble_eq_true rfl) (gy_k1 (x := .ref q8) (kc2 := 0) (ks2 := 0) ⟨rfl, rfl⟩ ?_) gy_kn
  refine gx_bE e (fun _ hu9 e => ?_)
  refine gx_bE e (fun q10 hq10 e => ?_)
  refine gx_callV (n := 0) (st := [.ref v0]) (As := []) (b := q8) dX1_measure_55 (z_X4_top hq10) rfl ⟨rfl, gw_cw_X4_top, gw_3, gp_X4_top, ⟨Nat.le_of_ble_eq_true rfl, Nat.le_of_ble_eq_true rfl⟩⟩ (gi_isS hu9) (by decide) gw_645 gw_430 gw_431 rfl ⟨Nat.le_of_ble_eq_true rfl, Nat.le_of_ble_eq_true rfl⟩ (Nat.le_of_ble_eq_true rfl) (gy_k1 (x := .int (gI q10)) (kc2 := 0) (ks2 := 0) ⟨rfl, rfl⟩ ?_) gy_kn
  refine gy_iconst dX1_measure_58 ?_
  refine gx_iload_n dX1_measure_59 rfl 1 rfl ?_
  refine gx_bE e (fun _ hu11 e => ?_)
  refine gx_bE e (fun q12 hq12 e => ?_)
  refine gx_callU (n := 3) (st := []) (As := [.int (gI q10), .int (gI (0 : Int)), .int (gI v2)]) (b := v0) dX1_measure_60 (z_X1_whole_5 hq12) rfl ⟨rfl, gw_cw_X1_whole, gw_11, gp_X1_whole, ⟨Nat.le_of_ble_eq_true rfl, Nat.le_of_ble_eq_true rfl⟩⟩ (gi_isS hu11) (by decide) (x := ⟨"Grammarsmith$Chart", "whole", "(III)I"⟩) (owner := "Grammarsmith$Chart") gw_602 gw_1338 gz_1_whole gw_604 rfl (by decide +kernel) ⟨Nat.le_of_ble_eq_true rfl, Nat.le_of_ble_eq_true rfl⟩ (Nat.le_of_ble_eq_true rfl) (gy_k1 (x := .int (gI q12)) (kc2 := 0) (ks2 := 0) ⟨rfl, rfl⟩ ?_) gy_kn
  cases e
  exact gx_iret dX1_measure_63 rfl ⟨Nat.le_of_ble_eq_true rfl, Nat.le_of_ble_eq_true rfl⟩ (fun z => z)
set_option maxRecDepth 100000 in
def b_X1_measure_5_41 (n : Nat) (r9 : Nat → Int → Int → gi_H → Option (Int × gi_H)) (v0 : Nat) (v2 : Int) (v3 : Int)  (h : gi_H) : Option (Int × gi_H) :=
  gx_nm (v3 + (1 : Int)) fun t16 => r9 v0 v2 t16 h
set_option maxRecDepth 100000 in
theorem zb_X1_measure_5_41 {al : Bool} {n : Nat} {r9 : Nat → Int → Int → gi_H → Option (Int × gi_H)} {res : Int} {h1 : gi_H} (hr9 : ∀ (x0 : Nat) (x2 : Int) (x3 : Int) (hh : gi_H), r9 x0 x2 x3 hh = some (res, h1) → gx_Z mX1_measure al al 0 0 9 [(0, .ref x0), (2, .int (gI x2)), (3, .int (gI x3))] [] (gi_cv hh) (.inl (some (.int (gI res)))) (gi_cv h1)) {v0 : Nat} {v2 : Int} {v3 : Int}  {h : gi_H} (e : b_X1_measure_5_41 n r9 v0 v2 v3 h = some (res, h1)) : gx_Z mX1_measure al al 0 0 41 [(0, .ref v0), (2, .int (gI v2)), (3, .int (gI v3))] [] (gi_cv h) (.inl (some (.int (gI res)))) (gi_cv h1) := by
  refine gx_nE e (fun t16 ht16 e => ?_)
  refine gy_iinc (v := t16) (ls2 := [(3, .int (gI t16)), (0, .ref v0), (2, .int (gI v2))]) dX1_measure_41 2 rfl ht16 (Nat.le_of_ble_eq_true rfl) rfl ?_
  refine gx_goto (tgt := 9) dX1_measure_44 (by decide) ?_
  refine gx_sub (ls2 := [(0, .ref v0), (2, .int (gI v2)), (3, .int (gI t16))]) [1, 2, 0] rfl ?_
  exact hr9 _ _ _ _ e
set_option maxRecDepth 100000 in
def b_X1_measure_5_17 (n : Nat) (r9 : Nat → Int → Int → gi_H → Option (Int × gi_H)) (r17 : Nat → Int → Int → Int → gi_H → Option (Int × gi_H)) (v0 : Nat) (v2 : Int) (v3 : Int) (v4 : Int)  (h : gi_H) : Option (Int × gi_H) :=
  Option.bind (gi_rg (v4 + v3)) fun _ => Option.bind (gi_rg v2) fun _ => if v2 < (v4 + v3) then (b_X1_measure_5_41 n r9 v0 v2 v3 h) else (Option.bind (gi_is h v0 5) fun _ => Option.bind (f_X1_fill_5 n v0 v4 (v4 + v3) h) fun q18 => gx_nm (v4 + (1 : Int)) fun t19 => r17 v0 v2 v3 t19 q18)
set_option maxRecDepth 100000 in
theorem zb_X1_measure_5_17 {al : Bool} {n : Nat} {r9 : Nat → Int → Int → gi_H → Option (Int × gi_H)} {r17 : Nat → Int → Int → Int → gi_H → Option (Int × gi_H)} {res : Int} {h1 : gi_H} (hr9 : ∀ (x0 : Nat) (x2 : Int) (x3 : Int) (hh : gi_H), r9 x0 x2 x3 hh = some (res, h1) → gx_Z mX1_measure al al 0 0 9 [(0, .ref x0), (2, .int (gI x2)), (3, .int (gI x3))] [] (gi_cv hh) (.inl (some (.int (gI res)))) (gi_cv h1)) (hr17 : ∀ (x0 : Nat) (x2 : Int) (x3 : Int) (x4 : Int) (hh : gi_H), r17 x0 x2 x3 x4 hh = some (res, h1) → gx_Z mX1_measure al al 0 0 17 [(0, .ref x0), (2, .int (gI x2)), (3, .int (gI x3)), (4, .int (gI x4))] [] (gi_cv hh) (.inl (some (.int (gI res)))) (gi_cv h1)) {v0 : Nat} {v2 : Int} {v3 : Int} {v4 : Int}  {h : gi_H} (e : b_X1_measure_5_17 n r9 r17 v0 v2 v3 v4 h = some (res, h1)) : gx_Z mX1_measure al al 0 0 17 [(0, .ref v0), (2, .int (gI v2)), (3, .int (gI v3)), (4, .int (gI v4))] [] (gi_cv h) (.inl (some (.int (gI res)))) (gi_cv h1) := by
  refine gx_iload dX1_measure_17 3 rfl ?_
  refine gx_iload_n dX1_measure_19 rfl 2 rfl ?_
  refine gy_iadd dX1_measure_20 ?_
  refine gx_iload_n dX1_measure_21 rfl 1 rfl ?_
  refine gx_bE e (fun _ g13 e => ?_)
  refine gx_bE e (fun _ g14 e => ?_)
  refine gx_iE e (fun c15 e => ?_) (fun c15 e => ?_)
  · refine gy_icmp_gt (tgt := 41) (gi_rgS g13) (gi_rgS g14) dX1_measure_22 (by decide) (fun _ => ?_) (fun z => absurd c15 z)
    refine gx_sub (ls2 := [(0, .ref v0), (2, .int (gI v2)), (3, .int (gI v3))]) [0, 1, 2] rfl ?_
    exact zb_X1_measure_5_41 hr9 e
  · refine gy_icmp_gt (tgt := 41) (gi_rgS g13) (gi_rgS g14) dX1_measure_22 (by decide) (fun z => absurd z c15) (fun _ => ?_)
    refine gx_aload_n dX1_measure_25 rfl 0 rfl ?_
    refine gx_iload dX1_measure_26 3 rfl ?_
    refine gx_iload dX1_measure_28 3 rfl ?_
    refine gx_iload_n dX1_measure_30 rfl 2 rfl ?_
    refine gy_iadd dX1_measure_31 ?_
    refine gx_bE e (fun _ hu17 e => ?_)
    refine gx_bE e (fun q18 hq18 e => ?_)
    refine gx_callU (n := 2) (st := []) (As := [.int (gI v4), .int (gI (v4 + v3))]) (b := v0) dX1_measure_32 (z_X1_fill_5 hq18) rfl ⟨rfl, gw_cw_X1_fill, gw_11, gp_X1_fill, ⟨Nat.le_of_ble_eq_true rfl, Nat.le_of_ble_eq_true rfl⟩⟩ (gi_isS hu17) (by decide) (x := ⟨"Grammarsmith$Chart", "fill", "(II)V"⟩) (owner := "Grammarsmith$Chart") gw_526 gw_1332 gz_1_fill gw_528 rfl (by decide +kernel) ⟨Nat.le_of_ble_eq_true rfl, Nat.le_of_ble_eq_true rfl⟩ (Nat.le_of_ble_eq_true rfl) (gy_k0 (kc2 := 0) (ks2 := 0) ⟨rfl, rfl⟩ ?_) gy_kn
    refine gx_nE e (fun t19 ht19 e => ?_)
    refine gy_iinc (v := t19) (ls2 := [(4, .int (gI t19)), (0, .ref v0), (2, .int (gI v2)), (3, .int (gI v3))]) dX1_measure_35 3 rfl ht19 (Nat.le_of_ble_eq_true rfl) rfl ?_
    refine gx_goto (tgt := 17) dX1_measure_38 (by decide) ?_
    refine gx_sub (ls2 := [(0, .ref v0), (2, .int (gI v2)), (3, .int (gI v3)), (4, .int (gI t19))]) [1, 2, 3, 0] rfl ?_
    exact hr17 _ _ _ _ _ e
def l_X1_measure_5_17 (n : Nat) (r9 : Nat → Int → Int → gi_H → Option (Int × gi_H)) : Nat → Nat → Int → Int → Int → gi_H → Option (Int × gi_H)
  | 0, _, _, _, _, _ => none
  | k + 1, v0, v2, v3, v4, h => b_X1_measure_5_17 n r9 (l_X1_measure_5_17 n r9 k) v0 v2 v3 v4 h
theorem zl_X1_measure_5_17 {al : Bool} {n : Nat} {r9 : Nat → Int → Int → gi_H → Option (Int × gi_H)} {res : Int} {h1 : gi_H} (hr9 : ∀ (x0 : Nat) (x2 : Int) (x3 : Int) (hh : gi_H), r9 x0 x2 x3 hh = some (res, h1) → gx_Z mX1_measure al al 0 0 9 [(0, .ref x0), (2, .int (gI x2)), (3, .int (gI x3))] [] (gi_cv hh) (.inl (some (.int (gI res)))) (gi_cv h1)) : ∀ (k : Nat) (v0 : Nat) (v2 : Int) (v3 : Int) (v4 : Int) (h : gi_H), l_X1_measure_5_17 n r9 k v0 v2 v3 v4 h = some (res, h1) → gx_Z mX1_measure al al 0 0 17 [(0, .ref v0), (2, .int (gI v2)), (3, .int (gI v3)), (4, .int (gI v4))] [] (gi_cv h) (.inl (some (.int (gI res)))) (gi_cv h1)
  | 0, _, _, _, _, _, e => gx_0E e
  | k + 1, _, _, _, _, _, e => zb_X1_measure_5_17 (n := n) hr9 (zl_X1_measure_5_17 hr9 k) e
set_option maxRecDepth 100000 in
def b_X1_measure_5_9 (n : Nat) (r9 : Nat → Int → Int → gi_H → Option (Int × gi_H)) (v0 : Nat) (v2 : Int) (v3 : Int)  (h : gi_H) : Option (Int × gi_H) :=
  Option.bind (gi_rg v3) fun _ => Option.bind (gi_rg v2) fun _ => if v2 < v3 then (b_X1_measure_5_47 n  v0 v2 h) else (l_X1_measure_5_17 n r9 n v0 v2 v3 (0 : Int) h)
set_option maxRecDepth 100000 in
theorem zb_X1_measure_5_9 {al : Bool} {n : Nat} {r9 : Nat → Int → Int → gi_H → Option (Int × gi_H)} {res : Int} {h1 : gi_H} (hr9 : ∀ (x0 : Nat) (x2 : Int) (x3 : Int) (hh : gi_H), r9 x0 x2 x3 hh = some (res, h1) → gx_Z mX1_measure al al 0 0 9 [(0, .ref x0), (2, .int (gI x2)), (3, .int (gI x3))] [] (gi_cv hh) (.inl (some (.int (gI res)))) (gi_cv h1)) {v0 : Nat} {v2 : Int} {v3 : Int}  {h : gi_H} (e : b_X1_measure_5_9 n r9 v0 v2 v3 h = some (res, h1)) : gx_Z mX1_measure al al 0 0 9 [(0, .ref v0), (2, .int (gI v2)), (3, .int (gI v3))] [] (gi_cv h) (.inl (some (.int (gI res)))) (gi_cv h1) := by
  refine gx_iload_n dX1_measure_9 rfl 2 rfl ?_
  refine gx_iload_n dX1_measure_10 rfl 1 rfl ?_
  refine gx_bE e (fun _ g3 e => ?_)
  refine gx_bE e (fun _ g4 e => ?_)
  refine gx_iE e (fun c5 e => ?_) (fun c5 e => ?_)
  · refine gy_icmp_gt (tgt := 47) (gi_rgS g3) (gi_rgS g4) dX1_measure_11 (by decide) (fun _ => ?_) (fun z => absurd c5 z)
    refine gx_sub (ls2 := [(0, .ref v0), (2, .int (gI v2))]) [0, 1] rfl ?_
    exact zb_X1_measure_5_47  e
  · refine gy_icmp_gt (tgt := 47) (gi_rgS g3) (gi_rgS g4) dX1_measure_11 (by decide) (fun z => absurd z c5) (fun _ => ?_)
    refine gy_iconst dX1_measure_14 ?_
    refine gx_istore (ls2 := [(4, .int (gI (0 : Int))), (0, .ref v0), (2, .int (gI v2)), (3, .int (gI v3))]) dX1_measure_15 (Nat.le_of_ble_eq_true rfl) rfl ?_
    refine gx_sub (ls2 := [(0, .ref v0), (2, .int (gI v2)), (3, .int (gI v3)), (4, .int (gI (0 : Int)))]) [1, 2, 3, 0] rfl ?_
    exact zl_X1_measure_5_17 hr9 n _ _ _ _ _ e
def l_X1_measure_5_9 (n : Nat)  : Nat → Nat → Int → Int → gi_H → Option (Int × gi_H)
  | 0, _, _, _, _ => none
  | k + 1, v0, v2, v3, h => b_X1_measure_5_9 n  (l_X1_measure_5_9 n  k) v0 v2 v3 h
theorem zl_X1_measure_5_9 {al : Bool} {n : Nat}  {res : Int} {h1 : gi_H}  : ∀ (k : Nat) (v0 : Nat) (v2 : Int) (v3 : Int) (h : gi_H), l_X1_measure_5_9 n  k v0 v2 v3 h = some (res, h1) → gx_Z mX1_measure al al 0 0 9 [(0, .ref v0), (2, .int (gI v2)), (3, .int (gI v3))] [] (gi_cv h) (.inl (some (.int (gI res)))) (gi_cv h1)
  | 0, _, _, _, _, e => gx_0E e
  | k + 1, _, _, _, _, e => zb_X1_measure_5_9 (n := n)  (zl_X1_measure_5_9  k) e
set_option maxRecDepth 100000 in
def f_X1_measure_5 (n : Nat) (v0 : Nat) (v1 : Int) (h : gi_H) : Option (Int × gi_H) :=
  Option.bind (gi_rg v1) fun _ => gx_nm (gi_min v1 (12 : Int)) fun t2 => l_X1_measure_5_9 n  n v0 t2 (0 : Int) h
set_option maxRecDepth 100000 in
theorem z_X1_measure_5 {al : Bool} {n : Nat} {v0 : Nat} {v1 : Int} {h : gi_H} {res : Int} {h1 : gi_H} (e : f_X1_measure_5 n v0 v1 h = some (res, h1)) : gx_Cw mX1_measure al [.ref v0, .int (gI v1)] (gi_cv h) (.inl (some (.int (gI res)))) (gi_cv h1) := by
  refine gx_enter (by decide +kernel) rfl (Nat.le_of_ble_eq_true rfl) ?_
  show gx_Z mX1_measure al al 0 0 0 [(0, .ref v0), (1, .int (gI v1))] [] (gi_cv h) (.inl (some (.int (gI res)))) (gi_cv h1)
  refine gx_iload_n dX1_measure_0 rfl 1 rfl ?_
  refine gy_bipush dX1_measure_1 gcb_12 ?_
  refine gx_bE e (fun _ g1 e => ?_)
  refine gy_mmin (gi_rgS g1) (by decide) dX1_measure_3 gw_525 (Nat.le_of_ble_eq_true rfl) (Nat.le_of_ble_eq_true rfl) ⟨Nat.le_of_ble_eq_true rfl, Nat.le_of_ble_eq_true rfl⟩ ?_
  refine gx_nE e (fun t2 ht2 e => ?_)
  rw [ht2]
  refine gx_istore_n (ls2 := [(2, .int (gI t2)), (0, .ref v0), (1, .int (gI v1))]) dX1_measure_6 rfl (Nat.le_of_ble_eq_true rfl) rfl ?_
  refine gy_iconst dX1_measure_7 ?_
  refine gx_istore_n (ls2 := [(3, .int (gI (0 : Int))), (2, .int (gI t2)), (0, .ref v0), (1, .int (gI v1))]) dX1_measure_8 rfl (Nat.le_of_ble_eq_true rfl) rfl ?_
  refine gx_sub (ls2 := [(0, .ref v0), (2, .int (gI t2)), (3, .int (gI (0 : Int)))]) [2, 1, 0] rfl ?_
  exact zl_X1_measure_5_9  n _ _ _ _ e
/-! X11_repair  -/
set_option maxRecDepth 100000 in
def f_X11_repair (n : Nat) (v0 : Nat) (h : gi_H) : Option (Int × gi_H) :=
  Option.bind (gi_gR h v0 9 8) fun t1 => Option.bind (gi_is h t1 2) fun _ => Option.bind (f_X3_learn n t1 h) fun q3 => Option.bind (gi_gR q3 v0 9 8) fun t4 => Option.bind (gi_gR q3 v0 9 1) fun t5 => Option.bind (gi_is q3 t5 3) fun _ => Option.bind (f_X4_top t5 q3) fun q7 => Option.bind (gi_is q3 t4 2) fun _ => Option.bind (f_X3_isProductive t4 q7 q3) fun q9 => Option.bind (gi_rg q9) fun _ => if q9 = 0 then (some ((-1 : Int), q3)) else (Option.bind (gi_gR q3 v0 9 16) fun t12 => Option.bind (gi_gI q3 v0 9 7) fun t13 => if gi_S q3 t12 = (0, 1) then (Option.bind (gi_is q3 t12 1) fun _ => Option.bind (f_X1_measure_1 n t12 t13 q3) fun q16 => some (q16.1, q16.2)) else (Option.bind (gi_is q3 t12 5) fun _ => Option.bind (f_X1_measure_5 n t12 t13 q3) fun q18 => some (q18.1, q18.2)))
set_option maxRecDepth 100000 in
theorem z_X11_repair {al : Bool} {n : Nat} {v0 : Nat} {h : gi_H} {res : Int} {h1 : gi_H} (e : f_X11_repair n v0 h = some (res, h1)) : gx_Cw mX11_repair al [.ref v0] (gi_cv h) (.inl (some (.int (gI res)))) (gi_cv h1) := by
  refine gx_enter (by decide +kernel) rfl (Nat.le_of_ble_eq_true rfl) ?_
  show gx_Z mX11_repair al al 0 0 0 [(0, .ref v0)] [] (gi_cv h) (.inl (some (.int (gI res)))) (gi_cv h1)
  refine gx_aload_n dX11_repair_0 rfl 0 rfl ?_
  refine gx_bE e (fun t1 ht1 e => ?_)
  refine gy_fR ht1 dX11_repair_1 gf_RX11_52_9_8 (by decide) gkN_9_8 gkR_9_8 ?_
  refine gx_bE e (fun _ hu2 e => ?_)
  refine gx_bE e (fun q3 hq3 e => ?_)
  refine gx_callV (n := 0) (st := []) (As := []) (b := t1) dX11_repair_4 (z_X3_learn hq3) rfl ⟨rfl, gw_cw_X3_learn, gw_6, gp_X3_learn, ⟨Nat.le_of_ble_eq_true rfl, Nat.le_of_ble_eq_true rfl⟩⟩ (gi_isS hu2) (by decide) gw_391 gw_392 gw_393 rfl ⟨Nat.le_of_ble_eq_true rfl, Nat.le_of_ble_eq_true rfl⟩ (Nat.le_of_ble_eq_true rfl) (gy_k0 (kc2 := 0) (ks2 := 0) ⟨rfl, rfl⟩ ?_) gy_kn
  refine gx_aload_n dX11_repair_7 rfl 0 rfl ?_
  refine gx_bE e (fun t4 ht4 e => ?_)
  refine gy_fR ht4 dX11_repair_8 gf_RX11_52_9_8 (by decide) gkN_9_8 gkR_9_8 ?_
  refine gx_aload_n dX11_repair_11 rfl 0 rfl ?_
  refine gx_bE e (fun t5 ht5 e => ?_)
  refine gy_fR ht5 dX11_repair_12 gf_RX11_35_9_1 (by decide) gkN_9_1 gkR_9_1 ?_
  refine gx_bE e (fun _ hu6 e => ?_)
  refine gx_bE e (fun q7 hq7 e => ?_)
  refine gx_callV (n := 0) (st := [.ref t4]) (As := []) (b := t5) dX11_repair_15 (z_X4_top hq7) rfl ⟨rfl, gw_cw_X4_top, gw_3, gp_X4_top, ⟨Nat.le_of_ble_eq_true rfl, Nat.le_of_ble_eq_true rfl⟩⟩ (gi_isS hu6) (by decide) gw_510 gw_430 gw_431 rfl ⟨Nat.le_of_ble_eq_true rfl, Nat.le_of_ble_eq_true rfl⟩ (Nat.le_of_ble_eq_true rfl) (gy_k1 (x := .int (gI q7)) (kc2 := 0) (ks2 := 0) ⟨rfl, rfl⟩ ?_) gy_kn
  refine gx_bE e (fun _ hu8 e => ?_)
  refine gx_bE e (fun q9 hq9 e => ?_)
  refine gx_callV (n := 1) (st := []) (As := [.int (gI q7)]) (b := t4) dX11_repair_18 (z_X3_isProductive hq9) rfl ⟨rfl, gw_cw_X3_isProductive, gw_6, gp_X3_isProductive, ⟨Nat.le_of_ble_eq_true rfl, Nat.le_of_ble_eq_true rfl⟩⟩ (gi_isS hu8) (by decide) gw_511 gw_512 gw_513 rfl ⟨Nat.le_of_ble_eq_true rfl, Nat.le_of_ble_eq_true rfl⟩ (Nat.le_of_ble_eq_true rfl) (gy_k1 (x := .int (gI q9)) (kc2 := 0) (ks2 := 0) ⟨rfl, rfl⟩ ?_) gy_kn
  refine gx_bE e (fun _ g10 e => ?_)
  refine gx_iE e (fun c11 e => ?_) (fun c11 e => ?_)
  · refine gy_if_ne (tgt := 26) (gi_rgS g10) dX11_repair_21 (by decide) (fun z => absurd c11 z) (fun _ => ?_)
    refine gy_iconst dX11_repair_24 ?_
    cases e
    exact gx_iret dX11_repair_25 rfl ⟨Nat.le_of_ble_eq_true rfl, Nat.le_of_ble_eq_true rfl⟩ (fun z => z)
  · refine gy_if_ne (tgt := 26) (gi_rgS g10) dX11_repair_21 (by decide) (fun _ => ?_) (fun z => absurd z c11)
    refine gx_aload_n dX11_repair_26 rfl 0 rfl ?_
    refine gx_bE e (fun t12 ht12 e => ?_)
    refine gy_fR ht12 dX11_repair_27 gf_RX11_98_9_16 (by decide) gkN_9_16 gkR_9_16 ?_
    refine gx_aload_n dX11_repair_30 rfl 0 rfl ?_
    refine gx_bE e (fun t13 ht13 e => ?_)
    refine gy_fI ht13 dX11_repair_31 gf_RX11_252_9_7 (by decide) gkN_9_7 gkR_9_7 ?_
    refine gx_iE e (fun c14 e => ?_) (fun c14 e => ?_)
    · refine gx_bE e (fun _ hu15 e => ?_)
      refine gx_bE e (fun q16 hq16 e => ?_)
      refine gx_callU (n := 1) (st := []) (As := [.int (gI t13)]) (b := t12) dX11_repair_34 (z_X1_measure_1 hq16) rfl ⟨rfl, gw_cw_X1_measure, gw_11, gp_X1_measure, ⟨Nat.le_of_ble_eq_true rfl, Nat.le_of_ble_eq_true rfl⟩⟩ (gi_isS hu15) (by decide) (x := ⟨"Grammarsmith$Chart", "measure", "(I)I"⟩) (owner := "Grammarsmith$Chart") gw_519 gw_521 gw_522 gw_520 rfl (by decide +kernel) ⟨Nat.le_of_ble_eq_true rfl, Nat.le_of_ble_eq_true rfl⟩ (Nat.le_of_ble_eq_true rfl) (gy_k1 (x := .int (gI q16.1)) (kc2 := 0) (ks2 := 0) ⟨rfl, rfl⟩ ?_) gy_kn
      cases e
      exact gx_iret dX11_repair_37 rfl ⟨Nat.le_of_ble_eq_true rfl, Nat.le_of_ble_eq_true rfl⟩ (fun z => z)
    · refine gx_bE e (fun _ hu17 e => ?_)
      refine gx_bE e (fun q18 hq18 e => ?_)
      refine gx_callU (n := 1) (st := []) (As := [.int (gI t13)]) (b := t12) dX11_repair_34 (z_X1_measure_5 hq18) rfl ⟨rfl, gw_cw_X1_measure, gw_11, gp_X1_measure, ⟨Nat.le_of_ble_eq_true rfl, Nat.le_of_ble_eq_true rfl⟩⟩ (gi_isS hu17) (by decide) (x := ⟨"Grammarsmith$Chart", "measure", "(I)I"⟩) (owner := "Grammarsmith$Chart") gw_519 gw_521 gw_523 gw_520 rfl (by decide +kernel) ⟨Nat.le_of_ble_eq_true rfl, Nat.le_of_ble_eq_true rfl⟩ (Nat.le_of_ble_eq_true rfl) (gy_k1 (x := .int (gI q18.1)) (kc2 := 0) (ks2 := 0) ⟨rfl, rfl⟩ ?_) gy_kn
      cases e
      exact gx_iret dX11_repair_37 rfl ⟨Nat.le_of_ble_eq_true rfl, Nat.le_of_ble_eq_true rfl⟩ (fun z => z)
/-! X11_put  -/
set_option maxRecDepth 100000 in
def b_X11_put_19 (n : Nat)    (h : gi_H) : Option ((Int ⊕ String) × gi_H) :=
  some (.inr gx_IOB, h)
set_option maxRecDepth 100000 in
theorem zb_X11_put_19 {n : Nat}  {res : Int ⊕ String} {h1 : gi_H}    {h : gi_H} (e : b_X11_put_19 n  h = some (res, h1)) : gx_Z mX11_put false false 0 0 19 [] [] (gi_cv h) (gx_oI res) (gi_cv h1) := by
  cases e
  exact gx_throw rfl gt_151_255_155 rfl dX11_put_19 dX11_put_22 dX11_put_23 dX11_put_25 dX11_put_28 (Nat.le_of_ble_eq_true rfl) (Nat.le_of_ble_eq_true rfl) ⟨Nat.le_of_ble_eq_true rfl, Nat.le_of_ble_eq_true rfl⟩
set_option maxRecDepth 100000 in
def b_X11_put_79 (n : Nat)  (v0 : Nat) (v1 : Int) (v2 : Int)  (h : gi_H) : Option ((Int ⊕ String) × gi_H) :=
  Option.bind (gi_gR h v0 9 6) fun t16 => Option.bind (gi_s1 h t16 v1 v2) fun h17 => Option.bind (gi_gI h17 v0 9 7) fun t18 => Option.bind (gi_pI h17 v0 9 7 (t18 + (1 : Int))) fun h19 => Option.bind (gi_gI h19 v0 9 7) fun t20 => some (.inl t20, h19)
set_option maxRecDepth 100000 in
theorem zb_X11_put_79 {n : Nat}  {res : Int ⊕ String} {h1 : gi_H}  {v0 : Nat} {v1 : Int} {v2 : Int}  {h : gi_H} (e : b_X11_put_79 n v0 v1 v2 h = some (res, h1)) : gx_Z mX11_put false false 0 0 79 [(0, .ref v0), (1, .int (gI v1)), (2, .int (gI v2))] [] (gi_cv h) (gx_oI res) (gi_cv h1) := by
  refine gx_aload_n dX11_put_79 rfl 0 rfl ?_
  refine gx_bE e (fun t16 ht16 e => ?_)
  refine gy_fR ht16 dX11_put_80 gf_RX11_49_9_6 (by decide) gkN_9_6 gkR_9_6 ?_
  refine gx_iload_n dX11_put_83 rfl 1 rfl ?_
  refine gx_iload_n dX11_put_84 rfl 2 rfl ?_
  refine gx_bE e (fun h17 hh17 e => ?_)
  refine gy_t1 hh17 dX11_put_85 ?_
  refine gx_aload_n dX11_put_86 rfl 0 rfl ?_
  refine gx_dup dX11_put_87 rfl ?_
  refine gx_bE e (fun t18 ht18 e => ?_)
  refine gy_fI ht18 dX11_put_88 gf_RX11_252_9_7 (by decide) gkN_9_7 gkR_9_7 ?_
  refine gy_iconst dX11_put_91 ?_
  refine gy_iadd dX11_put_92 ?_
  refine gx_bE e (fun h19 hh19 e => ?_)
  refine gy_qI hh19 dX11_put_93 gf_RX11_252_9_7 (by decide) gkN_9_7 rfl (Or.inl rfl) ?_
  refine gx_aload_n dX11_put_96 rfl 0 rfl ?_
  refine gx_bE e (fun t20 ht20 e => ?_)
  refine gy_fI ht20 dX11_put_97 gf_RX11_252_9_7 (by decide) gkN_9_7 gkR_9_7 ?_
  cases e
  exact gx_iret dX11_put_100 rfl ⟨Nat.le_of_ble_eq_true rfl, Nat.le_of_ble_eq_true rfl⟩ (fun z => z)
set_option maxRecDepth 100000 in
def b_X11_put_54 (n : Nat) (r54 : Nat → Int → Int → Int → gi_H → Option ((Int ⊕ String) × gi_H)) (v0 : Nat) (v1 : Int) (v2 : Int) (v3 : Int)  (h : gi_H) : Option ((Int ⊕ String) × gi_H) :=
  Option.bind (gi_rg v3) fun _ => Option.bind (gi_rg v1) fun _ => if v3 ≤ v1 then (b_X11_put_79 n  v0 v1 v2 h) else (Option.bind (gi_gR h v0 9 6) fun t21 => Option.bind (gi_gR h v0 9 6) fun t22 => Option.bind (gi_aI h 1 t22 (v3 - (1 : Int))) fun t23 => Option.bind (gi_s1 h t21 v3 t23) fun h24 => gx_nm (v3 + (-1 : Int)) fun t25 => r54 v0 v1 v2 t25 h24)
set_option maxRecDepth 100000 in
theorem zb_X11_put_54 {n : Nat} {r54 : Nat → Int → Int → Int → gi_H → Option ((Int ⊕ String) × gi_H)} {res : Int ⊕ String} {h1 : gi_H} (hr54 : ∀ (x0 : Nat) (x1 : Int) (x2 : Int) (x3 : Int) (hh : gi_H), r54 x0 x1 x2 x3 hh = some (res, h1) → gx_Z mX11_put false false 0 0 54 [(0, .ref x0), (1, .int (gI x1)), (2, .int (gI x2)), (3, .int (gI x3))] [] (gi_cv hh) (gx_oI res) (gi_cv h1)) {v0 : Nat} {v1 : Int} {v2 : Int} {v3 : Int}  {h : gi_H} (e : b_X11_put_54 n r54 v0 v1 v2 v3 h = some (res, h1)) : gx_Z mX11_put false false 0 0 54 [(0, .ref v0), (1, .int (gI v1)), (2, .int (gI v2)), (3, .int (gI v3))] [] (gi_cv h) (gx_oI res) (gi_cv h1) := by
  refine gx_iload_n dX11_put_54 rfl 3 rfl ?_
  refine gx_iload_n dX11_put_55 rfl 1 rfl ?_
  refine gx_bE e (fun _ g13 e => ?_)
  refine gx_bE e (fun _ g14 e => ?_)
  refine gx_iE e (fun c15 e => ?_) (fun c15 e => ?_)
  · refine gy_icmp_le (tgt := 79) (gi_rgS g13) (gi_rgS g14) dX11_put_56 (by decide) (fun _ => ?_) (fun z => absurd c15 z)
    refine gx_sub (ls2 := [(0, .ref v0), (1, .int (gI v1)), (2, .int (gI v2))]) [0, 1, 2] rfl ?_
    exact zb_X11_put_79  e
  · refine gy_icmp_le (tgt := 79) (gi_rgS g13) (gi_rgS g14) dX11_put_56 (by decide) (fun z => absurd z c15) (fun _ => ?_)
    refine gx_aload_n dX11_put_59 rfl 0 rfl ?_
    refine gx_bE e (fun t21 ht21 e => ?_)
    refine gy_fR ht21 dX11_put_60 gf_RX11_49_9_6 (by decide) gkN_9_6 gkR_9_6 ?_
    refine gx_iload_n dX11_put_63 rfl 3 rfl ?_
    refine gx_aload_n dX11_put_64 rfl 0 rfl ?_
    refine gx_bE e (fun t22 ht22 e => ?_)
    refine gy_fR ht22 dX11_put_65 gf_RX11_49_9_6 (by decide) gkN_9_6 gkR_9_6 ?_
    refine gx_iload_n dX11_put_68 rfl 3 rfl ?_
    refine gy_iconst dX11_put_69 ?_
    refine gy_isub dX11_put_70 ?_
    refine gx_bE e (fun t23 ht23 e => ?_)
    refine gy_l1 ht23 dX11_put_71 ?_
    refine gx_bE e (fun h24 hh24 e => ?_)
    refine gy_t1 hh24 dX11_put_72 ?_
    refine gx_nE e (fun t25 ht25 e => ?_)
    refine gy_iinc (v := t25) (ls2 := [(3, .int (gI t25)), (0, .ref v0), (1, .int (gI v1)), (2, .int (gI v2))]) dX11_put_73 3 rfl ht25 (Nat.le_of_ble_eq_true rfl) rfl ?_
    refine gx_goto (tgt := 54) dX11_put_76 (by decide) ?_
    refine gx_sub (ls2 := [(0, .ref v0), (1, .int (gI v1)), (2, .int (gI v2)), (3, .int (gI t25))]) [1, 2, 3, 0] rfl ?_
    exact hr54 _ _ _ _ _ e
def l_X11_put_54 (n : Nat)  : Nat → Nat → Int → Int → Int → gi_H → Option ((Int ⊕ String) × gi_H)
  | 0, _, _, _, _, _ => none
  | k + 1, v0, v1, v2, v3, h => b_X11_put_54 n  (l_X11_put_54 n  k) v0 v1 v2 v3 h
theorem zl_X11_put_54 {n : Nat}  {res : Int ⊕ String} {h1 : gi_H}  : ∀ (k : Nat) (v0 : Nat) (v1 : Int) (v2 : Int) (v3 : Int) (h : gi_H), l_X11_put_54 n  k v0 v1 v2 v3 h = some (res, h1) → gx_Z mX11_put false false 0 0 54 [(0, .ref v0), (1, .int (gI v1)), (2, .int (gI v2)), (3, .int (gI v3))] [] (gi_cv h) (gx_oI res) (gi_cv h1)
  | 0, _, _, _, _, _, e => gx_0E e
  | k + 1, _, _, _, _, _, e => zb_X11_put_54 (n := n)  (zl_X11_put_54  k) e
set_option maxRecDepth 100000 in
def f_X11_put (n : Nat) (v0 : Nat) (v1 : Int) (v2 : Int) (h : gi_H) : Option ((Int ⊕ String) × gi_H) :=
  Option.bind (gi_rg v1) fun _ => if v1 < 0 then (b_X11_put_19 n   h) else (Option.bind (gi_gI h v0 9 7) fun t3 => Option.bind (gi_rg t3) fun _ => if t3 < v1 then (b_X11_put_19 n   h) else (Option.bind (f_X11_isTerminal v2 h) fun q6 => Option.bind (gi_rg q6) fun _ => if q6 = 0 then (b_X11_put_19 n   h) else (Option.bind (gi_gI h v0 9 7) fun t9 => Option.bind (gi_rg t9) fun _ => if t9 < (12 : Int) then (Option.bind (gi_gI h v0 9 7) fun t12 => l_X11_put_54 n  n v0 v1 v2 t12 h) else (some (.inr gx_ISE, h)))))
set_option maxRecDepth 100000 in
theorem z_X11_put {n : Nat} {v0 : Nat} {v1 : Int} {v2 : Int} {h : gi_H} {res : Int ⊕ String} {h1 : gi_H} (e : f_X11_put n v0 v1 v2 h = some (res, h1)) : gx_Cw mX11_put false [.ref v0, .int (gI v1), .int (gI v2)] (gi_cv h) (gx_oI res) (gi_cv h1) := by
  refine gx_enter (by decide +kernel) rfl (Nat.le_of_ble_eq_true rfl) ?_
  show gx_Z mX11_put false false 0 0 0 [(0, .ref v0), (1, .int (gI v1)), (2, .int (gI v2))] [] (gi_cv h) (gx_oI res) (gi_cv h1)
  refine gx_iload_n dX11_put_0 rfl 1 rfl ?_
  refine gx_bE e (fun _ g1 e => ?_)
  refine gx_iE e (fun c2 e => ?_) (fun c2 e => ?_)
  · refine gy_if_lt (tgt := 19) (gi_rgS g1) dX11_put_1 (by decide) (fun _ => ?_) (fun z => absurd c2 z)
    refine gx_sub (ls2 := []) [] rfl ?_
    exact zb_X11_put_19  e
  · refine gy_if_lt (tgt := 19) (gi_rgS g1) dX11_put_1 (by decide) (fun z => absurd z c2) (fun _ => ?_)
    refine gx_iload_n dX11_put_4 rfl 1 rfl ?_
    refine gx_aload_n dX11_put_5 rfl 0 rfl ?_
    refine gx_bE e (fun t3 ht3 e => ?_)
    refine gy_fI ht3 dX11_put_6 gf_RX11_252_9_7 (by decide) gkN_9_7 gkR_9_7 ?_
    refine gx_bE e (fun _ g4 e => ?_)
    refine gx_iE e (fun c5 e => ?_) (fun c5 e => ?_)
    · refine gy_icmp_gt (tgt := 19) (gi_rgS g1) (gi_rgS g4) dX11_put_9 (by decide) (fun _ => ?_) (fun z => absurd c5 z)
      refine gx_sub (ls2 := []) [] rfl ?_
      exact zb_X11_put_19  e
    · refine gy_icmp_gt (tgt := 19) (gi_rgS g1) (gi_rgS g4) dX11_put_9 (by decide) (fun z => absurd z c5) (fun _ => ?_)
      refine gx_iload_n dX11_put_12 rfl 2 rfl ?_
      refine gx_bE e (fun q6 hq6 e => ?_)
      refine gx_callS (n := 1) (st := []) (As := [.int (gI v2)]) dX11_put_13 (z_X11_isTerminal hq6) rfl ⟨rfl, gw_cw_X11_isTerminal, gw_1, gp_X11_isTerminal, ⟨Nat.le_of_ble_eq_true rfl, Nat.le_of_ble_eq_true rfl⟩⟩ gw_906 gw_582 ⟨Nat.le_of_ble_eq_true rfl, Nat.le_of_ble_eq_true rfl⟩ (Nat.le_of_ble_eq_true rfl) (gy_k1 (x := .int (gI q6)) (kc2 := 0) (ks2 := 0) ⟨rfl, rfl⟩ ?_) gy_kn
      refine gx_bE e (fun _ g7 e => ?_)
      refine gx_iE e (fun c8 e => ?_) (fun c8 e => ?_)
      · refine gy_if_ne (tgt := 29) (gi_rgS g7) dX11_put_16 (by decide) (fun z => absurd c8 z) (fun _ => ?_)
        refine gx_sub (ls2 := []) [] rfl ?_
        exact zb_X11_put_19  e
      · refine gy_if_ne (tgt := 29) (gi_rgS g7) dX11_put_16 (by decide) (fun _ => ?_) (fun z => absurd z c8)
        refine gx_aload_n dX11_put_29 rfl 0 rfl ?_
        refine gx_bE e (fun t9 ht9 e => ?_)
        refine gy_fI ht9 dX11_put_30 gf_RX11_252_9_7 (by decide) gkN_9_7 gkR_9_7 ?_
        refine gy_bipush dX11_put_33 gcb_12 ?_
        refine gx_bE e (fun _ g10 e => ?_)
        refine gx_iE e (fun c11 e => ?_) (fun c11 e => ?_)
        · refine gy_icmp_lt (tgt := 49) (gi_rgS g10) (by decide) dX11_put_35 (by decide) (fun _ => ?_) (fun z => absurd c11 z)
          refine gx_aload_n dX11_put_49 rfl 0 rfl ?_
          refine gx_bE e (fun t12 ht12 e => ?_)
          refine gy_fI ht12 dX11_put_50 gf_RX11_252_9_7 (by decide) gkN_9_7 gkR_9_7 ?_
          refine gx_istore_n (ls2 := [(3, .int (gI t12)), (0, .ref v0), (1, .int (gI v1)), (2, .int (gI v2))]) dX11_put_53 rfl (Nat.le_of_ble_eq_true rfl) rfl ?_
          refine gx_sub (ls2 := [(0, .ref v0), (1, .int (gI v1)), (2, .int (gI v2)), (3, .int (gI t12))]) [1, 2, 3, 0] rfl ?_
          exact zl_X11_put_54  n _ _ _ _ _ e
        · refine gy_icmp_lt (tgt := 49) (gi_rgS g10) (by decide) dX11_put_35 (by decide) (fun z => absurd z c11) (fun _ => ?_)
          cases e
          exact gx_throwW rfl gt_116_257_120 rfl dX11_put_38 dX11_put_41 dX11_put_42 dX11_put_45 dX11_put_48 (Nat.le_of_ble_eq_true rfl) (Nat.le_of_ble_eq_true rfl) ⟨Nat.le_of_ble_eq_true rfl, Nat.le_of_ble_eq_true rfl⟩
/-! L_put  -/
set_option maxRecDepth 100000 in
def f_L_put (n : Nat) (v0 : Nat) (v1 : Int) (v2 : Int) (h : gi_H) : Option (Int × gi_H) :=
  Option.bind (gi_is h v0 9) fun _ => Option.bind (f_X11_put n v0 v1 v2 h) fun q2 => gx_sm q2.1 (fun t3 => some (t3, q2.2)) (fun t3 => if t3 = gx_IOB then (some ((-101 : Int), q2.2)) else (if t3 = gx_ISE then (some ((-103 : Int), q2.2)) else (none)))
set_option maxRecDepth 100000 in
theorem z_L_put {n : Nat} {v0 : Nat} {v1 : Int} {v2 : Int} {h : gi_H} {res : Int} {h1 : gi_H} (e : f_L_put n v0 v1 v2 h = some (res, h1)) : gx_Cw mL_put false [.ref v0, .int (gI v1), .int (gI v2)] (gi_cv h) (.inl (some (.int (gI res)))) (gi_cv h1) := by
  refine gx_enter (by decide +kernel) rfl (Nat.le_of_ble_eq_true rfl) ?_
  show gx_Z mL_put false false 0 0 0 [(0, .ref v0), (1, .int (gI v1)), (2, .int (gI v2))] [] (gi_cv h) (.inl (some (.int (gI res)))) (gi_cv h1)
  refine gx_aload_n dL_put_0 rfl 0 rfl ?_
  refine gx_iload_n dL_put_1 rfl 1 rfl ?_
  refine gx_iload_n dL_put_2 rfl 2 rfl ?_
  refine gx_bE e (fun _ hu1 e => ?_)
  refine gx_bE e (fun q2 hq2 e => ?_)
  refine gx_smE e (fun t3 ht3 e => ?_) (fun t3 ht3 e => ?_)
  · have zq2 := z_X11_put hq2
    rw [ht3] at zq2
    refine gx_callV (n := 2) (st := []) (As := [.int (gI v1), .int (gI v2)]) (b := v0) dL_put_3 zq2 rfl ⟨rfl, gw_cw_X11_put, gw_1, gp_X11_put, ⟨Nat.le_of_ble_eq_true rfl, Nat.le_of_ble_eq_true rfl⟩⟩ (gi_isS hu1) (by decide) gw_930 gw_931 gw_932 rfl ⟨Nat.le_of_ble_eq_true rfl, Nat.le_of_ble_eq_true rfl⟩ (Nat.le_of_ble_eq_true rfl) (gy_k1 (x := .int (gI t3)) (kc2 := 1) (ks2 := 6) ⟨rfl, rfl⟩ ?_) gy_kn
    cases e
    exact gx_iret dL_put_6 rfl ⟨Nat.le_of_ble_eq_true rfl, Nat.le_of_ble_eq_true rfl⟩ (fun z => z)
  · have zq2 := z_X11_put hq2
    rw [ht3] at zq2
    refine gx_callV (n := 2) (st := []) (As := [.int (gI v1), .int (gI v2)]) (b := v0) dL_put_3 zq2 rfl ⟨rfl, gw_cw_X11_put, gw_1, gp_X11_put, ⟨Nat.le_of_ble_eq_true rfl, Nat.le_of_ble_eq_true rfl⟩⟩ (gi_isS hu1) (by decide) gw_930 gw_931 gw_932 rfl ⟨Nat.le_of_ble_eq_true rfl, Nat.le_of_ble_eq_true rfl⟩ (Nat.le_of_ble_eq_true rfl) gy_kN (gy_kE (kc2 := 1) (ks2 := 6) ⟨rfl, rfl⟩ ?_)
    refine gx_iE e (fun c4 e => ?_) (fun c4 e => ?_)
    · rw [c4]
      refine gx_catch (ls2 := [(0, .ref v0), (1, .int (gI v1)), (2, .int (gI v2))]) [] (x := (0, 6, 7, 33)) rfl (fun z hz => by cases hz) (by decide +kernel) (by decide) gw_866 (by decide +kernel) (Nat.le_of_ble_eq_true rfl) (Or.inl ⟨3, rfl, rfl, dL_put_7⟩) rfl ?_
      refine gy_bipush dL_put_8 gcb_m101 ?_
      cases e
      exact gx_iret dL_put_10 rfl ⟨Nat.le_of_ble_eq_true rfl, Nat.le_of_ble_eq_true rfl⟩ (fun z => z)
    refine gx_iE e (fun c5 e => ?_) (fun c5 e => ?_)
    · rw [c5]
      refine gx_catch (ls2 := [(0, .ref v0), (1, .int (gI v1)), (2, .int (gI v2))]) [(0, 6, 7, 33)] (x := (0, 6, 11, 17)) rfl (by refine List.forall_mem_cons.mpr ⟨⟨by decide, "java/lang/IndexOutOfBoundsException", gw_866, by decide +kernel⟩, ?_⟩;  exact fun z hz => absurd hz List.not_mem_nil) (by decide +kernel) (by decide) gw_655 (by decide +kernel) (Nat.le_of_ble_eq_true rfl) (Or.inl ⟨3, rfl, rfl, dL_put_11⟩) rfl ?_
      refine gy_bipush dL_put_12 gcb_m103 ?_
      cases e
      exact gx_iret dL_put_14 rfl ⟨Nat.le_of_ble_eq_true rfl, Nat.le_of_ble_eq_true rfl⟩ (fun z => z)
    cases e
/-! X11_cut  -/
set_option maxRecDepth 100000 in
def b_X11_cut_12 (n : Nat)    (h : gi_H) : Option ((Int ⊕ String) × gi_H) :=
  some (.inr gx_IOB, h)
set_option maxRecDepth 100000 in
theorem zb_X11_cut_12 {n : Nat}  {res : Int ⊕ String} {h1 : gi_H}    {h : gi_H} (e : b_X11_cut_12 n  h = some (res, h1)) : gx_Z mX11_cut false false 0 0 12 [] [] (gi_cv h) (gx_oI res) (gi_cv h1) := by
  cases e
  exact gx_throw rfl gt_151_227_155 rfl dX11_cut_12 dX11_cut_15 dX11_cut_16 dX11_cut_18 dX11_cut_21 (Nat.le_of_ble_eq_true rfl) (Nat.le_of_ble_eq_true rfl) ⟨Nat.le_of_ble_eq_true rfl, Nat.le_of_ble_eq_true rfl⟩
set_option maxRecDepth 100000 in
def b_X11_cut_59 (n : Nat)  (v0 : Nat) (v2 : Int)  (h : gi_H) : Option ((Int ⊕ String) × gi_H) :=
  Option.bind (gi_gI h v0 9 7) fun t10 => Option.bind (gi_pI h v0 9 7 (t10 - (1 : Int))) fun h11 => some (.inl v2, h11)
set_option maxRecDepth 100000 in
theorem zb_X11_cut_59 {n : Nat}  {res : Int ⊕ String} {h1 : gi_H}  {v0 : Nat} {v2 : Int}  {h : gi_H} (e : b_X11_cut_59 n v0 v2 h = some (res, h1)) : gx_Z mX11_cut false false 0 0 59 [(0, .ref v0), (2, .int (gI v2))] [] (gi_cv h) (gx_oI res) (gi_cv h1) := by
  refine gx_aload_n dX11_cut_59 rfl 0 rfl ?_
  refine gx_dup dX11_cut_60 rfl ?_
  refine gx_bE e (fun t10 ht10 e => ?_)
  refine gy_fI ht10 dX11_cut_61 gf_RX11_252_9_7 (by decide) gkN_9_7 gkR_9_7 ?_
  refine gy_iconst dX11_cut_64 ?_
  refine gy_isub dX11_cut_65 ?_
  refine gx_bE e (fun h11 hh11 e => ?_)
  refine gy_qI hh11 dX11_cut_66 gf_RX11_252_9_7 (by decide) gkN_9_7 rfl (Or.inl rfl) ?_
  refine gx_iload_n dX11_cut_69 rfl 1 rfl ?_
  cases e
  exact gx_iret dX11_cut_70 rfl ⟨Nat.le_of_ble_eq_true rfl, Nat.le_of_ble_eq_true rfl⟩ (fun z => z)
set_option maxRecDepth 100000 in
def b_X11_cut_31 (n : Nat) (r31 : Nat → Int → Int → gi_H → Option ((Int ⊕ String) × gi_H)) (v0 : Nat) (v2 : Int) (v3 : Int)  (h : gi_H) : Option ((Int ⊕ String) × gi_H) :=
  Option.bind (gi_rg (v3 + (1 : Int))) fun _ => if (13 : Int) ≤ (v3 + (1 : Int)) then (b_X11_cut_59 n  v0 v2 h) else (Option.bind (gi_gR h v0 9 6) fun t12 => Option.bind (gi_gR h v0 9 6) fun t13 => Option.bind (gi_aI h 1 t13 (v3 + (1 : Int))) fun t14 => Option.bind (gi_s1 h t12 v3 t14) fun h15 => gx_nm (v3 + (1 : Int)) fun t16 => r31 v0 v2 t16 h15)
set_option maxRecDepth 100000 in
theorem zb_X11_cut_31 {n : Nat} {r31 : Nat → Int → Int → gi_H → Option ((Int ⊕ String) × gi_H)} {res : Int ⊕ String} {h1 : gi_H} (hr31 : ∀ (x0 : Nat) (x2 : Int) (x3 : Int) (hh : gi_H), r31 x0 x2 x3 hh = some (res, h1) → gx_Z mX11_cut false false 0 0 31 [(0, .ref x0), (2, .int (gI x2)), (3, .int (gI x3))] [] (gi_cv hh) (gx_oI res) (gi_cv h1)) {v0 : Nat} {v2 : Int} {v3 : Int}  {h : gi_H} (e : b_X11_cut_31 n r31 v0 v2 v3 h = some (res, h1)) : gx_Z mX11_cut false false 0 0 31 [(0, .ref v0), (2, .int (gI v2)), (3, .int (gI v3))] [] (gi_cv h) (gx_oI res) (gi_cv h1) := by
  refine gx_iload_n dX11_cut_31 rfl 2 rfl ?_
  refine gy_iconst dX11_cut_32 ?_
  refine gy_iadd dX11_cut_33 ?_
  refine gy_bipush dX11_cut_34 gcb_13 ?_
  refine gx_bE e (fun _ g8 e => ?_)
  refine gx_iE e (fun c9 e => ?_) (fun c9 e => ?_)
  · refine gy_icmp_ge (tgt := 59) (gi_rgS g8) (by decide) dX11_cut_36 (by decide) (fun _ => ?_) (fun z => absurd c9 z)
    refine gx_sub (ls2 := [(0, .ref v0), (2, .int (gI v2))]) [0, 1] rfl ?_
    exact zb_X11_cut_59  e
  · refine gy_icmp_ge (tgt := 59) (gi_rgS g8) (by decide) dX11_cut_36 (by decide) (fun z => absurd z c9) (fun _ => ?_)
    refine gx_aload_n dX11_cut_39 rfl 0 rfl ?_
    refine gx_bE e (fun t12 ht12 e => ?_)
    refine gy_fR ht12 dX11_cut_40 gf_RX11_49_9_6 (by decide) gkN_9_6 gkR_9_6 ?_
    refine gx_iload_n dX11_cut_43 rfl 2 rfl ?_
    refine gx_aload_n dX11_cut_44 rfl 0 rfl ?_
    refine gx_bE e (fun t13 ht13 e => ?_)
    refine gy_fR ht13 dX11_cut_45 gf_RX11_49_9_6 (by decide) gkN_9_6 gkR_9_6 ?_
    refine gx_iload_n dX11_cut_48 rfl 2 rfl ?_
    refine gy_iconst dX11_cut_49 ?_
    refine gy_iadd dX11_cut_50 ?_
    refine gx_bE e (fun t14 ht14 e => ?_)
    refine gy_l1 ht14 dX11_cut_51 ?_
    refine gx_bE e (fun h15 hh15 e => ?_)
    refine gy_t1 hh15 dX11_cut_52 ?_
    refine gx_nE e (fun t16 ht16 e => ?_)
    refine gy_iinc (v := t16) (ls2 := [(3, .int (gI t16)), (0, .ref v0), (2, .int (gI v2))]) dX11_cut_53 2 rfl ht16 (Nat.le_of_ble_eq_true rfl) rfl ?_
    refine gx_goto (tgt := 31) dX11_cut_56 (by decide) ?_
    refine gx_sub (ls2 := [(0, .ref v0), (2, .int (gI v2)), (3, .int (gI t16))]) [1, 2, 0] rfl ?_
    exact hr31 _ _ _ _ e
def l_X11_cut_31 (n : Nat)  : Nat → Nat → Int → Int → gi_H → Option ((Int ⊕ String) × gi_H)
  | 0, _, _, _, _ => none
  | k + 1, v0, v2, v3, h => b_X11_cut_31 n  (l_X11_cut_31 n  k) v0 v2 v3 h
theorem zl_X11_cut_31 {n : Nat}  {res : Int ⊕ String} {h1 : gi_H}  : ∀ (k : Nat) (v0 : Nat) (v2 : Int) (v3 : Int) (h : gi_H), l_X11_cut_31 n  k v0 v2 v3 h = some (res, h1) → gx_Z mX11_cut false false 0 0 31 [(0, .ref v0), (2, .int (gI v2)), (3, .int (gI v3))] [] (gi_cv h) (gx_oI res) (gi_cv h1)
  | 0, _, _, _, _, e => gx_0E e
  | k + 1, _, _, _, _, e => zb_X11_cut_31 (n := n)  (zl_X11_cut_31  k) e
set_option maxRecDepth 100000 in
def f_X11_cut (n : Nat) (v0 : Nat) (v1 : Int) (h : gi_H) : Option ((Int ⊕ String) × gi_H) :=
  Option.bind (gi_rg v1) fun _ => if v1 < 0 then (b_X11_cut_12 n   h) else (Option.bind (gi_gI h v0 9 7) fun t3 => Option.bind (gi_rg t3) fun _ => if v1 < t3 then (Option.bind (gi_gR h v0 9 6) fun t6 => Option.bind (gi_aI h 1 t6 v1) fun t7 => l_X11_cut_31 n  n v0 t7 v1 h) else (b_X11_cut_12 n   h))
set_option maxRecDepth 100000 in
theorem z_X11_cut {n : Nat} {v0 : Nat} {v1 : Int} {h : gi_H} {res : Int ⊕ String} {h1 : gi_H} (e : f_X11_cut n v0 v1 h = some (res, h1)) : gx_Cw mX11_cut false [.ref v0, .int (gI v1)] (gi_cv h) (gx_oI res) (gi_cv h1) := by
  refine gx_enter (by decide +kernel) rfl (Nat.le_of_ble_eq_true rfl) ?_
  show gx_Z mX11_cut false false 0 0 0 [(0, .ref v0), (1, .int (gI v1))] [] (gi_cv h) (gx_oI res) (gi_cv h1)
  refine gx_iload_n dX11_cut_0 rfl 1 rfl ?_
  refine gx_bE e (fun _ g1 e => ?_)
  refine gx_iE e (fun c2 e => ?_) (fun c2 e => ?_)
  · refine gy_if_lt (tgt := 12) (gi_rgS g1) dX11_cut_1 (by decide) (fun _ => ?_) (fun z => absurd c2 z)
    refine gx_sub (ls2 := []) [] rfl ?_
    exact zb_X11_cut_12  e
  · refine gy_if_lt (tgt := 12) (gi_rgS g1) dX11_cut_1 (by decide) (fun z => absurd z c2) (fun _ => ?_)
    refine gx_iload_n dX11_cut_4 rfl 1 rfl ?_
    refine gx_aload_n dX11_cut_5 rfl 0 rfl ?_
    refine gx_bE e (fun t3 ht3 e => ?_)
    refine gy_fI ht3 dX11_cut_6 gf_RX11_252_9_7 (by decide) gkN_9_7 gkR_9_7 ?_
    refine gx_bE e (fun _ g4 e => ?_)
    refine gx_iE e (fun c5 e => ?_) (fun c5 e => ?_)
    · refine gy_icmp_lt (tgt := 22) (gi_rgS g1) (gi_rgS g4) dX11_cut_9 (by decide) (fun _ => ?_) (fun z => absurd c5 z)
      refine gx_aload_n dX11_cut_22 rfl 0 rfl ?_
      refine gx_bE e (fun t6 ht6 e => ?_)
      refine gy_fR ht6 dX11_cut_23 gf_RX11_49_9_6 (by decide) gkN_9_6 gkR_9_6 ?_
      refine gx_iload_n dX11_cut_26 rfl 1 rfl ?_
      refine gx_bE e (fun t7 ht7 e => ?_)
      refine gy_l1 ht7 dX11_cut_27 ?_
      refine gx_istore_n (ls2 := [(2, .int (gI t7)), (0, .ref v0), (1, .int (gI v1))]) dX11_cut_28 rfl (Nat.le_of_ble_eq_true rfl) rfl ?_
      refine gx_iload_n dX11_cut_29 rfl 2 rfl ?_
      refine gx_istore_n (ls2 := [(3, .int (gI v1)), (2, .int (gI t7)), (0, .ref v0), (1, .int (gI v1))]) dX11_cut_30 rfl (Nat.le_of_ble_eq_true rfl) rfl ?_
      refine gx_sub (ls2 := [(0, .ref v0), (2, .int (gI t7)), (3, .int (gI v1))]) [2, 1, 0] rfl ?_
      exact zl_X11_cut_31  n _ _ _ _ e
    · refine gy_icmp_lt (tgt := 22) (gi_rgS g1) (gi_rgS g4) dX11_cut_9 (by decide) (fun z => absurd z c5) (fun _ => ?_)
      refine gx_sub (ls2 := []) [] rfl ?_
      exact zb_X11_cut_12  e
/-! L_cut  -/
set_option maxRecDepth 100000 in
def f_L_cut (n : Nat) (v0 : Nat) (v1 : Int) (h : gi_H) : Option (Int × gi_H) :=
  Option.bind (gi_is h v0 9) fun _ => Option.bind (f_X11_cut n v0 v1 h) fun q2 => gx_sm q2.1 (fun t3 => some (t3, q2.2)) (fun t3 => if t3 = gx_IOB then (some ((-101 : Int), q2.2)) else (none))
set_option maxRecDepth 100000 in
theorem z_L_cut {n : Nat} {v0 : Nat} {v1 : Int} {h : gi_H} {res : Int} {h1 : gi_H} (e : f_L_cut n v0 v1 h = some (res, h1)) : gx_Cw mL_cut false [.ref v0, .int (gI v1)] (gi_cv h) (.inl (some (.int (gI res)))) (gi_cv h1) := by
  refine gx_enter (by decide +kernel) rfl (Nat.le_of_ble_eq_true rfl) ?_
  show gx_Z mL_cut false false 0 0 0 [(0, .ref v0), (1, .int (gI v1))] [] (gi_cv h) (.inl (some (.int (gI res)))) (gi_cv h1)
  refine gx_aload_n dL_cut_0 rfl 0 rfl ?_
  refine gx_iload_n dL_cut_1 rfl 1 rfl ?_
  refine gx_bE e (fun _ hu1 e => ?_)
  refine gx_bE e (fun q2 hq2 e => ?_)
  refine gx_smE e (fun t3 ht3 e => ?_) (fun t3 ht3 e => ?_)
  · have zq2 := z_X11_cut hq2
    rw [ht3] at zq2
    refine gx_callV (n := 1) (st := []) (As := [.int (gI v1)]) (b := v0) dL_cut_2 zq2 rfl ⟨rfl, gw_cw_X11_cut, gw_1, gp_X11_cut, ⟨Nat.le_of_ble_eq_true rfl, Nat.le_of_ble_eq_true rfl⟩⟩ (gi_isS hu1) (by decide) gw_939 gw_940 gw_941 rfl ⟨Nat.le_of_ble_eq_true rfl, Nat.le_of_ble_eq_true rfl⟩ (Nat.le_of_ble_eq_true rfl) (gy_k1 (x := .int (gI t3)) (kc2 := 1) (ks2 := 6) ⟨rfl, rfl⟩ ?_) gy_kn
    cases e
    exact gx_iret dL_cut_5 rfl ⟨Nat.le_of_ble_eq_true rfl, Nat.le_of_ble_eq_true rfl⟩ (fun z => z)
  · have zq2 := z_X11_cut hq2
    rw [ht3] at zq2
    refine gx_callV (n := 1) (st := []) (As := [.int (gI v1)]) (b := v0) dL_cut_2 zq2 rfl ⟨rfl, gw_cw_X11_cut, gw_1, gp_X11_cut, ⟨Nat.le_of_ble_eq_true rfl, Nat.le_of_ble_eq_true rfl⟩⟩ (gi_isS hu1) (by decide) gw_939 gw_940 gw_941 rfl ⟨Nat.le_of_ble_eq_true rfl, Nat.le_of_ble_eq_true rfl⟩ (Nat.le_of_ble_eq_true rfl) gy_kN (gy_kE (kc2 := 1) (ks2 := 6) ⟨rfl, rfl⟩ ?_)
    refine gx_iE e (fun c4 e => ?_) (fun c4 e => ?_)
    · rw [c4]
      refine gx_catch (ls2 := [(0, .ref v0), (1, .int (gI v1))]) [] (x := (0, 5, 6, 33)) rfl (fun z hz => by cases hz) (by decide +kernel) (by decide) gw_866 (by decide +kernel) (Nat.le_of_ble_eq_true rfl) (Or.inl ⟨2, rfl, rfl, dL_cut_6⟩) rfl ?_
      refine gy_bipush dL_cut_7 gcb_m101 ?_
      cases e
      exact gx_iret dL_cut_9 rfl ⟨Nat.le_of_ble_eq_true rfl, Nat.le_of_ble_eq_true rfl⟩ (fun z => z)
    cases e
/-! X11_requireKind  -/
set_option maxRecDepth 100000 in
def b_X11_requireKind_9    (h : gi_H) : Option ((Unit ⊕ String) × gi_H) :=
  some (.inr gx_IOB, h)
set_option maxRecDepth 100000 in
theorem zb_X11_requireKind_9  {res : Unit ⊕ String} {h1 : gi_H}    {h : gi_H} (e : b_X11_requireKind_9  h = some (res, h1)) : gx_Z mX11_requireKind false false 0 0 9 [] [] (gi_cv h) (gx_oV res) (gi_cv h1) := by
  cases e
  exact gx_throwW rfl gt_151_278_155 rfl dX11_requireKind_9 dX11_requireKind_12 dX11_requireKind_13 dX11_requireKind_16 dX11_requireKind_19 (Nat.le_of_ble_eq_true rfl) (Nat.le_of_ble_eq_true rfl) ⟨Nat.le_of_ble_eq_true rfl, Nat.le_of_ble_eq_true rfl⟩
set_option maxRecDepth 100000 in
def f_X11_requireKind (v0 : Int) (h : gi_H) : Option ((Unit ⊕ String) × gi_H) :=
  Option.bind (gi_rg v0) fun _ => if v0 < 0 then (b_X11_requireKind_9   h) else (if v0 ≤ (3 : Int) then (some (.inl (), h)) else (b_X11_requireKind_9   h))
set_option maxRecDepth 100000 in
theorem z_X11_requireKind {v0 : Int} {h : gi_H} {res : Unit ⊕ String} {h1 : gi_H} (e : f_X11_requireKind v0 h = some (res, h1)) : gx_Cw mX11_requireKind false [.int (gI v0)] (gi_cv h) (gx_oV res) (gi_cv h1) := by
  refine gx_enter (by decide +kernel) rfl (Nat.le_of_ble_eq_true rfl) ?_
  show gx_Z mX11_requireKind false false 0 0 0 [(0, .int (gI v0))] [] (gi_cv h) (gx_oV res) (gi_cv h1)
  refine gx_iload_n dX11_requireKind_0 rfl 0 rfl ?_
  refine gx_bE e (fun _ g1 e => ?_)
  refine gx_iE e (fun c2 e => ?_) (fun c2 e => ?_)
  · refine gy_if_lt (tgt := 9) (gi_rgS g1) dX11_requireKind_1 (by decide) (fun _ => ?_) (fun z => absurd c2 z)
    refine gx_sub (ls2 := []) [] rfl ?_
    exact zb_X11_requireKind_9  e
  · refine gy_if_lt (tgt := 9) (gi_rgS g1) dX11_requireKind_1 (by decide) (fun z => absurd z c2) (fun _ => ?_)
    refine gx_iload_n dX11_requireKind_4 rfl 0 rfl ?_
    refine gy_iconst dX11_requireKind_5 ?_
    refine gx_iE e (fun c3 e => ?_) (fun c3 e => ?_)
    · refine gy_icmp_le (tgt := 20) (gi_rgS g1) (by decide) dX11_requireKind_6 (by decide) (fun _ => ?_) (fun z => absurd c3 z)
      cases e
      exact gx_vret dX11_requireKind_20 rfl ⟨Nat.le_of_ble_eq_true rfl, Nat.le_of_ble_eq_true rfl⟩ (fun z => z)
    · refine gy_icmp_le (tgt := 20) (gi_rgS g1) (by decide) dX11_requireKind_6 (by decide) (fun z => absurd z c3) (fun _ => ?_)
      refine gx_sub (ls2 := []) [] rfl ?_
      exact zb_X11_requireKind_9  e
/-! X0_addState  -/
set_option maxRecDepth 100000 in
def b_X0_addState_16 (n : Nat)  (v0 : Nat)  (h : gi_H) : Option (Int × gi_H) :=
  Option.bind (gi_pZ h v0 0 3 (1 : Int)) fun h4 => some ((-1 : Int), h4)
set_option maxRecDepth 100000 in
theorem zb_X0_addState_16 {al : Bool} {n : Nat}  {res : Int} {h1 : gi_H}  {v0 : Nat}  {h : gi_H} (e : b_X0_addState_16 n v0 h = some (res, h1)) : gx_Z mX0_addState al al 0 0 16 [(0, .ref v0)] [] (gi_cv h) (.inl (some (.int (gI res)))) (gi_cv h1) := by
  refine gx_aload_n dX0_addState_16 rfl 0 rfl ?_
  refine gy_iconst dX0_addState_17 ?_
  refine gx_bE e (fun h4 hh4 e => ?_)
  refine gy_qZ hh4 dX0_addState_18 gf_RX0_39_0_3 (by decide) gkN_0_3 rfl (Or.inl rfl) ?_
  refine gy_iconst dX0_addState_21 ?_
  cases e
  exact gx_iret dX0_addState_22 rfl ⟨Nat.le_of_ble_eq_true rfl, Nat.le_of_ble_eq_true rfl⟩ (fun z => z)
set_option maxRecDepth 100000 in
def b_X0_addState_97 (n : Nat)  (v0 : Nat) (v1 : Int) (v2 : Int)  (h : gi_H) : Option (Int × gi_H) :=
  Option.bind (gi_gR h v0 0 7) fun t15 => Option.bind (gi_s1 h t15 v2 v1) fun h16 => Option.bind (gi_gR h16 v0 0 8) fun t17 => Option.bind (gi_s4 h16 t17 v2 (1 : Int)) fun h18 => some (v2, h18)
set_option maxRecDepth 100000 in
theorem zb_X0_addState_97 {al : Bool} {n : Nat}  {res : Int} {h1 : gi_H}  {v0 : Nat} {v1 : Int} {v2 : Int}  {h : gi_H} (e : b_X0_addState_97 n v0 v1 v2 h = some (res, h1)) : gx_Z mX0_addState al al 0 0 97 [(0, .ref v0), (1, .int (gI v1)), (2, .int (gI v2))] [] (gi_cv h) (.inl (some (.int (gI res)))) (gi_cv h1) := by
  refine gx_aload_n dX0_addState_97 rfl 0 rfl ?_
  refine gx_bE e (fun t15 ht15 e => ?_)
  refine gy_fR ht15 dX0_addState_98 gf_RX0_18_0_7 (by decide) gkN_0_7 gkR_0_7 ?_
  refine gx_iload_n dX0_addState_101 rfl 2 rfl ?_
  refine gx_iload_n dX0_addState_102 rfl 1 rfl ?_
  refine gx_bE e (fun h16 hh16 e => ?_)
  refine gy_t1 hh16 dX0_addState_103 ?_
  refine gx_aload_n dX0_addState_104 rfl 0 rfl ?_
  refine gx_bE e (fun t17 ht17 e => ?_)
  refine gy_fR ht17 dX0_addState_105 gf_RX0_21_0_8 (by decide) gkN_0_8 gkR_0_8 ?_
  refine gx_iload_n dX0_addState_108 rfl 2 rfl ?_
  refine gy_iconst dX0_addState_109 ?_
  refine gx_bE e (fun h18 hh18 e => ?_)
  refine gy_t4 hh18 dX0_addState_110 ?_
  refine gx_iload_n dX0_addState_111 rfl 2 rfl ?_
  cases e
  exact gx_iret dX0_addState_112 rfl ⟨Nat.le_of_ble_eq_true rfl, Nat.le_of_ble_eq_true rfl⟩ (fun z => z)
set_option maxRecDepth 100000 in
def b_X0_addState_73 (n : Nat) (r73 : Nat → Int → Int → Int → gi_H → Option (Int × gi_H)) (v0 : Nat) (v1 : Int) (v2 : Int) (v3 : Int)  (h : gi_H) : Option (Int × gi_H) :=
  Option.bind (gi_rg v3) fun _ => if (32 : Int) ≤ v3 then (b_X0_addState_97 n  v0 v1 v2 h) else (Option.bind (gi_gR h v0 0 6) fun t19 => Option.bind (gi_s1 h t19 ((v2 * (32 : Int)) + v3) (-1 : Int)) fun h20 => gx_nm (v3 + (1 : Int)) fun t21 => r73 v0 v1 v2 t21 h20)
set_option maxRecDepth 100000 in
theorem zb_X0_addState_73 {al : Bool} {n : Nat} {r73 : Nat → Int → Int → Int → gi_H → Option (Int × gi_H)} {res : Int} {h1 : gi_H} (hr73 : ∀ (x0 : Nat) (x1 : Int) (x2 : Int) (x3 : Int) (hh : gi_H), r73 x0 x1 x2 x3 hh = some (res, h1) → gx_Z mX0_addState al al 0 0 73 [(0, .ref x0), (1, .int (gI x1)), (2, .int (gI x2)), (3, .int (gI x3))] [] (gi_cv hh) (.inl (some (.int (gI res)))) (gi_cv h1)) {v0 : Nat} {v1 : Int} {v2 : Int} {v3 : Int}  {h : gi_H} (e : b_X0_addState_73 n r73 v0 v1 v2 v3 h = some (res, h1)) : gx_Z mX0_addState al al 0 0 73 [(0, .ref v0), (1, .int (gI v1)), (2, .int (gI v2)), (3, .int (gI v3))] [] (gi_cv h) (.inl (some (.int (gI res)))) (gi_cv h1) := by
  refine gx_iload_n dX0_addState_73 rfl 3 rfl ?_
  refine gy_bipush dX0_addState_74 gcb_32 ?_
  refine gx_bE e (fun _ g13 e => ?_)
  refine gx_iE e (fun c14 e => ?_) (fun c14 e => ?_)
  · refine gy_icmp_ge (tgt := 97) (gi_rgS g13) (by decide) dX0_addState_76 (by decide) (fun _ => ?_) (fun z => absurd c14 z)
    refine gx_sub (ls2 := [(0, .ref v0), (1, .int (gI v1)), (2, .int (gI v2))]) [0, 1, 2] rfl ?_
    exact zb_X0_addState_97  e
  · refine gy_icmp_ge (tgt := 97) (gi_rgS g13) (by decide) dX0_addState_76 (by decide) (fun z => absurd z c14) (fun _ => ?_)
    refine gx_aload_n dX0_addState_79 rfl 0 rfl ?_
    refine gx_bE e (fun t19 ht19 e => ?_)
    refine gy_fR ht19 dX0_addState_80 gf_RX0_15_0_6 (by decide) gkN_0_6 gkR_0_6 ?_
    refine gx_iload_n dX0_addState_83 rfl 2 rfl ?_
    refine gy_bipush dX0_addState_84 gcb_32 ?_
    refine gy_imul dX0_addState_86 ?_
    refine gx_iload_n dX0_addState_87 rfl 3 rfl ?_
    refine gy_iadd dX0_addState_88 ?_
    refine gy_iconst dX0_addState_89 ?_
    refine gx_bE e (fun h20 hh20 e => ?_)
    refine gy_t1 hh20 dX0_addState_90 ?_
    refine gx_nE e (fun t21 ht21 e => ?_)
    refine gy_iinc (v := t21) (ls2 := [(3, .int (gI t21)), (0, .ref v0), (1, .int (gI v1)), (2, .int (gI v2))]) dX0_addState_91 3 rfl ht21 (Nat.le_of_ble_eq_true rfl) rfl ?_
    refine gx_goto (tgt := 73) dX0_addState_94 (by decide) ?_
    refine gx_sub (ls2 := [(0, .ref v0), (1, .int (gI v1)), (2, .int (gI v2)), (3, .int (gI t21))]) [1, 2, 3, 0] rfl ?_
    exact hr73 _ _ _ _ _ e
def l_X0_addState_73 (n : Nat)  : Nat → Nat → Int → Int → Int → gi_H → Option (Int × gi_H)
  | 0, _, _, _, _, _ => none
  | k + 1, v0, v1, v2, v3, h => b_X0_addState_73 n  (l_X0_addState_73 n  k) v0 v1 v2 v3 h
theorem zl_X0_addState_73 {al : Bool} {n : Nat}  {res : Int} {h1 : gi_H}  : ∀ (k : Nat) (v0 : Nat) (v1 : Int) (v2 : Int) (v3 : Int) (h : gi_H), l_X0_addState_73 n  k v0 v1 v2 v3 h = some (res, h1) → gx_Z mX0_addState al al 0 0 73 [(0, .ref v0), (1, .int (gI v1)), (2, .int (gI v2)), (3, .int (gI v3))] [] (gi_cv h) (.inl (some (.int (gI res)))) (gi_cv h1)
  | 0, _, _, _, _, _, e => gx_0E e
  | k + 1, _, _, _, _, _, e => zb_X0_addState_73 (n := n)  (zl_X0_addState_73  k) e
set_option maxRecDepth 100000 in
def b_X0_addState_71 (n : Nat)  (v0 : Nat) (v1 : Int) (v2 : Int)  (h : gi_H) : Option (Int × gi_H) :=
  l_X0_addState_73 n  n v0 v1 v2 (0 : Int) h
set_option maxRecDepth 100000 in
theorem zb_X0_addState_71 {al : Bool} {n : Nat}  {res : Int} {h1 : gi_H}  {v0 : Nat} {v1 : Int} {v2 : Int}  {h : gi_H} (e : b_X0_addState_71 n v0 v1 v2 h = some (res, h1)) : gx_Z mX0_addState al al 0 0 71 [(0, .ref v0), (1, .int (gI v1)), (2, .int (gI v2))] [] (gi_cv h) (.inl (some (.int (gI res)))) (gi_cv h1) := by
  refine gy_iconst dX0_addState_71 ?_
  refine gx_istore_n (ls2 := [(3, .int (gI (0 : Int))), (0, .ref v0), (1, .int (gI v1)), (2, .int (gI v2))]) dX0_addState_72 rfl (Nat.le_of_ble_eq_true rfl) rfl ?_
  refine gx_sub (ls2 := [(0, .ref v0), (1, .int (gI v1)), (2, .int (gI v2)), (3, .int (gI (0 : Int)))]) [1, 2, 3, 0] rfl ?_
  exact zl_X0_addState_73  n _ _ _ _ _ e
set_option maxRecDepth 100000 in
def b_X0_addState_40 (n : Nat) (r40 : Nat → Int → Int → Int → gi_H → Option (Int × gi_H)) (v0 : Nat) (v1 : Int) (v2 : Int) (v3 : Int)  (h : gi_H) : Option (Int × gi_H) :=
  Option.bind (gi_rg v3) fun _ => if (150 : Int) ≤ v3 then (b_X0_addState_71 n  v0 v1 v2 h) else (Option.bind (gi_gR h v0 0 5) fun t22 => Option.bind (gi_gR h v0 0 9) fun t23 => Option.bind (gi_aI h 1 t23 v3) fun t24 => Option.bind (gi_s1 h t22 ((v2 * (150 : Int)) + v3) t24) fun h25 => gx_nm (v3 + (1 : Int)) fun t26 => r40 v0 v1 v2 t26 h25)
set_option maxRecDepth 100000 in
theorem zb_X0_addState_40 {al : Bool} {n : Nat} {r40 : Nat → Int → Int → Int → gi_H → Option (Int × gi_H)} {res : Int} {h1 : gi_H} (hr40 : ∀ (x0 : Nat) (x1 : Int) (x2 : Int) (x3 : Int) (hh : gi_H), r40 x0 x1 x2 x3 hh = some (res, h1) → gx_Z mX0_addState al al 0 0 40 [(0, .ref x0), (1, .int (gI x1)), (2, .int (gI x2)), (3, .int (gI x3))] [] (gi_cv hh) (.inl (some (.int (gI res)))) (gi_cv h1)) {v0 : Nat} {v1 : Int} {v2 : Int} {v3 : Int}  {h : gi_H} (e : b_X0_addState_40 n r40 v0 v1 v2 v3 h = some (res, h1)) : gx_Z mX0_addState al al 0 0 40 [(0, .ref v0), (1, .int (gI v1)), (2, .int (gI v2)), (3, .int (gI v3))] [] (gi_cv h) (.inl (some (.int (gI res)))) (gi_cv h1) := by
  refine gx_iload_n dX0_addState_40 rfl 3 rfl ?_
  refine gy_sipush dX0_addState_41 gcs_150 ?_
  refine gx_bE e (fun _ g11 e => ?_)
  refine gx_iE e (fun c12 e => ?_) (fun c12 e => ?_)
  · refine gy_icmp_ge (tgt := 71) (gi_rgS g11) (by decide) dX0_addState_44 (by decide) (fun _ => ?_) (fun z => absurd c12 z)
    refine gx_sub (ls2 := [(0, .ref v0), (1, .int (gI v1)), (2, .int (gI v2))]) [0, 1, 2] rfl ?_
    exact zb_X0_addState_71  e
  · refine gy_icmp_ge (tgt := 71) (gi_rgS g11) (by decide) dX0_addState_44 (by decide) (fun z => absurd z c12) (fun _ => ?_)
    refine gx_aload_n dX0_addState_47 rfl 0 rfl ?_
    refine gx_bE e (fun t22 ht22 e => ?_)
    refine gy_fR ht22 dX0_addState_48 gf_RX0_9_0_5 (by decide) gkN_0_5 gkR_0_5 ?_
    refine gx_iload_n dX0_addState_51 rfl 2 rfl ?_
    refine gy_sipush dX0_addState_52 gcs_150 ?_
    refine gy_imul dX0_addState_55 ?_
    refine gx_iload_n dX0_addState_56 rfl 3 rfl ?_
    refine gy_iadd dX0_addState_57 ?_
    refine gx_aload_n dX0_addState_58 rfl 0 rfl ?_
    refine gx_bE e (fun t23 ht23 e => ?_)
    refine gy_fR ht23 dX0_addState_59 gf_RX0_25_0_9 (by decide) gkN_0_9 gkR_0_9 ?_
    refine gx_iload_n dX0_addState_62 rfl 3 rfl ?_
    refine gx_bE e (fun t24 ht24 e => ?_)
    refine gy_l1 ht24 dX0_addState_63 ?_
    refine gx_bE e (fun h25 hh25 e => ?_)
    refine gy_t1 hh25 dX0_addState_64 ?_
    refine gx_nE e (fun t26 ht26 e => ?_)
    refine gy_iinc (v := t26) (ls2 := [(3, .int (gI t26)), (0, .ref v0), (1, .int (gI v1)), (2, .int (gI v2))]) dX0_addState_65 3 rfl ht26 (Nat.le_of_ble_eq_true rfl) rfl ?_
    refine gx_goto (tgt := 40) dX0_addState_68 (by decide) ?_
    refine gx_sub (ls2 := [(0, .ref v0), (1, .int (gI v1)), (2, .int (gI v2)), (3, .int (gI t26))]) [1, 2, 3, 0] rfl ?_
    exact hr40 _ _ _ _ _ e
def l_X0_addState_40 (n : Nat)  : Nat → Nat → Int → Int → Int → gi_H → Option (Int × gi_H)
  | 0, _, _, _, _, _ => none
  | k + 1, v0, v1, v2, v3, h => b_X0_addState_40 n  (l_X0_addState_40 n  k) v0 v1 v2 v3 h
theorem zl_X0_addState_40 {al : Bool} {n : Nat}  {res : Int} {h1 : gi_H}  : ∀ (k : Nat) (v0 : Nat) (v1 : Int) (v2 : Int) (v3 : Int) (h : gi_H), l_X0_addState_40 n  k v0 v1 v2 v3 h = some (res, h1) → gx_Z mX0_addState al al 0 0 40 [(0, .ref v0), (1, .int (gI v1)), (2, .int (gI v2)), (3, .int (gI v3))] [] (gi_cv h) (.inl (some (.int (gI res)))) (gi_cv h1)
  | 0, _, _, _, _, _, e => gx_0E e
  | k + 1, _, _, _, _, _, e => zb_X0_addState_40 (n := n)  (zl_X0_addState_40  k) e
set_option maxRecDepth 100000 in
def f_X0_addState (n : Nat) (v0 : Nat) (v1 : Int) (h : gi_H) : Option (Int × gi_H) :=
  Option.bind (gi_gI h v0 0 4) fun t1 => Option.bind (gi_rg t1) fun _ => if t1 < 0 then (b_X0_addState_16 n  v0 h) else (Option.bind (gi_gI h v0 0 4) fun t5 => Option.bind (gi_rg t5) fun _ => if t5 < (80 : Int) then (Option.bind (gi_gI h v0 0 4) fun t8 => Option.bind (gi_gI h v0 0 4) fun t9 => Option.bind (gi_pI h v0 0 4 (t9 + (1 : Int))) fun h10 => l_X0_addState_40 n  n v0 v1 t8 (0 : Int) h10) else (b_X0_addState_16 n  v0 h))
set_option maxRecDepth 100000 in
theorem z_X0_addState {al : Bool} {n : Nat} {v0 : Nat} {v1 : Int} {h : gi_H} {res : Int} {h1 : gi_H} (e : f_X0_addState n v0 v1 h = some (res, h1)) : gx_Cw mX0_addState al [.ref v0, .int (gI v1)] (gi_cv h) (.inl (some (.int (gI res)))) (gi_cv h1) := by
  refine gx_enter (by decide +kernel) rfl (Nat.le_of_ble_eq_true rfl) ?_
  show gx_Z mX0_addState al al 0 0 0 [(0, .ref v0), (1, .int (gI v1))] [] (gi_cv h) (.inl (some (.int (gI res)))) (gi_cv h1)
  refine gx_aload_n dX0_addState_0 rfl 0 rfl ?_
  refine gx_bE e (fun t1 ht1 e => ?_)
  refine gy_fI ht1 dX0_addState_1 gf_RX0_42_0_4 (by decide) gkN_0_4 gkR_0_4 ?_
  refine gx_bE e (fun _ g2 e => ?_)
  refine gx_iE e (fun c3 e => ?_) (fun c3 e => ?_)
  · refine gy_if_lt (tgt := 16) (gi_rgS g2) dX0_addState_4 (by decide) (fun _ => ?_) (fun z => absurd c3 z)
    refine gx_sub (ls2 := [(0, .ref v0)]) [0] rfl ?_
    exact zb_X0_addState_16  e
  · refine gy_if_lt (tgt := 16) (gi_rgS g2) dX0_addState_4 (by decide) (fun z => absurd z c3) (fun _ => ?_)
    refine gx_aload_n dX0_addState_7 rfl 0 rfl ?_
    refine gx_bE e (fun t5 ht5 e => ?_)
    refine gy_fI ht5 dX0_addState_8 gf_RX0_42_0_4 (by decide) gkN_0_4 gkR_0_4 ?_
    refine gy_bipush dX0_addState_11 gcb_80 ?_
    refine gx_bE e (fun _ g6 e => ?_)
    refine gx_iE e (fun c7 e => ?_) (fun c7 e => ?_)
    · refine gy_icmp_lt (tgt := 23) (gi_rgS g6) (by decide) dX0_addState_13 (by decide) (fun _ => ?_) (fun z => absurd c7 z)
      refine gx_aload_n dX0_addState_23 rfl 0 rfl ?_
      refine gx_bE e (fun t8 ht8 e => ?_)
      refine gy_fI ht8 dX0_addState_24 gf_RX0_42_0_4 (by decide) gkN_0_4 gkR_0_4 ?_
      refine gx_istore_n (ls2 := [(2, .int (gI t8)), (0, .ref v0), (1, .int (gI v1))]) dX0_addState_27 rfl (Nat.le_of_ble_eq_true rfl) rfl ?_
      refine gx_aload_n dX0_addState_28 rfl 1 rfl ?_
      refine gx_dup dX0_addState_29 rfl ?_
      refine gx_bE e (fun t9 ht9 e => ?_)
      refine gy_fI ht9 dX0_addState_30 gf_RX0_42_0_4 (by decide) gkN_0_4 gkR_0_4 ?_
      refine gy_iconst dX0_addState_33 ?_
      refine gy_iadd dX0_addState_34 ?_
      refine gx_bE e (fun h10 hh10 e => ?_)
      refine gy_qI hh10 dX0_addState_35 gf_RX0_42_0_4 (by decide) gkN_0_4 rfl (Or.inl rfl) ?_
      refine gy_iconst dX0_addState_38 ?_
      refine gx_istore_n (ls2 := [(3, .int (gI (0 : Int))), (2, .int (gI t8)), (0, .ref v0), (1, .int (gI v1))]) dX0_addState_39 rfl (Nat.le_of_ble_eq_true rfl) rfl ?_
      refine gx_sub (ls2 := [(0, .ref v0), (1, .int (gI v1)), (2, .int (gI t8)), (3, .int (gI (0 : Int)))]) [2, 3, 1, 0] rfl ?_
      exact zl_X0_addState_40  n _ _ _ _ _ e
    · refine gy_icmp_lt (tgt := 23) (gi_rgS g6) (by decide) dX0_addState_13 (by decide) (fun z => absurd z c7) (fun _ => ?_)
      refine gx_sub (ls2 := [(0, .ref v0)]) [0] rfl ?_
      exact zb_X0_addState_16  e
/-! X0_row  -/
set_option maxRecDepth 100000 in
def b_X0_row_26  (v0 : Nat) (v1 : Int) (v2 : Int) (s0 : Int) (h : gi_H) : Option (Int) :=
  Option.bind (gi_rg s0) fun _ => if s0 = 0 then (some (0 : Int)) else (Option.bind (gi_gR h v0 0 5) fun t5 => Option.bind (gi_aI h 1 t5 ((v1 * (150 : Int)) + v2)) fun t6 => some t6)
set_option maxRecDepth 100000 in
theorem zb_X0_row_26 {al : Bool}  {res : Int}  {v0 : Nat} {v1 : Int} {v2 : Int} {s0 : Int} {h : gi_H} (e : b_X0_row_26 v0 v1 v2 s0 h = some res) : gx_Z mX0_row al al 0 0 26 [(0, .ref v0), (1, .int (gI v1)), (2, .int (gI v2))] [.int (gI s0)] (gi_cv h) (.inl (some (.int (gI res)))) (gi_cv h) := by
  refine gx_istore_n (ls2 := [(3, .int (gI s0)), (0, .ref v0), (1, .int (gI v1)), (2, .int (gI v2))]) dX0_row_26 rfl (Nat.le_of_ble_eq_true rfl) rfl ?_
  refine gx_iload_n dX0_row_27 rfl 0 rfl ?_
  refine gx_bE e (fun _ g3 e => ?_)
  refine gx_iE e (fun c4 e => ?_) (fun c4 e => ?_)
  · refine gy_if_eq (tgt := 46) (gi_rgS g3) dX0_row_28 (by decide) (fun _ => ?_) (fun z => absurd c4 z)
    refine gy_iconst dX0_row_46 ?_
    cases e
    exact gx_iret dX0_row_47 rfl ⟨Nat.le_of_ble_eq_true rfl, Nat.le_of_ble_eq_true rfl⟩ (fun z => z)
  · refine gy_if_eq (tgt := 46) (gi_rgS g3) dX0_row_28 (by decide) (fun z => absurd z c4) (fun _ => ?_)
    refine gx_aload_n dX0_row_31 rfl 1 rfl ?_
    refine gx_bE e (fun t5 ht5 e => ?_)
    refine gy_fR ht5 dX0_row_32 gf_RX0_9_0_5 (by decide) gkN_0_5 gkR_0_5 ?_
    refine gx_iload_n dX0_row_35 rfl 2 rfl ?_
    refine gy_sipush dX0_row_36 gcs_150 ?_
    refine gy_imul dX0_row_39 ?_
    refine gx_iload_n dX0_row_40 rfl 3 rfl ?_
    refine gy_iadd dX0_row_41 ?_
    refine gx_bE e (fun t6 ht6 e => ?_)
    refine gy_l1 ht6 dX0_row_42 ?_
    refine gx_goto (tgt := 47) dX0_row_43 (by decide) ?_
    cases e
    exact gx_iret dX0_row_47 rfl ⟨Nat.le_of_ble_eq_true rfl, Nat.le_of_ble_eq_true rfl⟩ (fun z => z)
set_option maxRecDepth 100000 in
def b_X0_row_25  (v0 : Nat) (v1 : Int) (v2 : Int)  (h : gi_H) : Option (Int) :=
  b_X0_row_26  v0 v1 v2 (0 : Int) h
set_option maxRecDepth 100000 in
theorem zb_X0_row_25 {al : Bool}  {res : Int}  {v0 : Nat} {v1 : Int} {v2 : Int}  {h : gi_H} (e : b_X0_row_25 v0 v1 v2 h = some res) : gx_Z mX0_row al al 0 0 25 [(0, .ref v0), (1, .int (gI v1)), (2, .int (gI v2))] [] (gi_cv h) (.inl (some (.int (gI res)))) (gi_cv h) := by
  refine gy_iconst dX0_row_25 ?_
  exact zb_X0_row_26  e
set_option maxRecDepth 100000 in
def f_X0_row (v0 : Nat) (v1 : Int) (v2 : Int) (h : gi_H) : Option (Int) :=
  Option.bind (gi_rg v1) fun _ => if v1 < 0 then (b_X0_row_25  v0 v1 v2 h) else (if (80 : Int) ≤ v1 then (b_X0_row_25  v0 v1 v2 h) else (Option.bind (gi_rg v2) fun _ => if v2 < 0 then (b_X0_row_25  v0 v1 v2 h) else (if (150 : Int) ≤ v2 then (b_X0_row_25  v0 v1 v2 h) else (b_X0_row_26  v0 v1 v2 (1 : Int) h))))
set_option maxRecDepth 100000 in
theorem z_X0_row {al : Bool} {v0 : Nat} {v1 : Int} {v2 : Int} {h : gi_H} {res : Int} (e : f_X0_row v0 v1 v2 h = some res) : gx_Cw mX0_row al [.ref v0, .int (gI v1), .int (gI v2)] (gi_cv h) (.inl (some (.int (gI res)))) (gi_cv h) := by
  refine gx_enter (by decide +kernel) rfl (Nat.le_of_ble_eq_true rfl) ?_
  show gx_Z mX0_row al al 0 0 0 [(0, .ref v0), (1, .int (gI v1)), (2, .int (gI v2))] [] (gi_cv h) (.inl (some (.int (gI res)))) (gi_cv h)
  refine gx_iload_n dX0_row_0 rfl 1 rfl ?_
  refine gx_bE e (fun _ g1 e => ?_)
  refine gx_iE e (fun c2 e => ?_) (fun c2 e => ?_)
  · refine gy_if_lt (tgt := 25) (gi_rgS g1) dX0_row_1 (by decide) (fun _ => ?_) (fun z => absurd c2 z)
    exact zb_X0_row_25  e
  · refine gy_if_lt (tgt := 25) (gi_rgS g1) dX0_row_1 (by decide) (fun z => absurd z c2) (fun _ => ?_)
    refine gx_iload_n dX0_row_4 rfl 1 rfl ?_
    refine gy_bipush dX0_row_5 gcb_80 ?_
    refine gx_iE e (fun c7 e => ?_) (fun c7 e => ?_)
    · refine gy_icmp_ge (tgt := 25) (gi_rgS g1) (by decide) dX0_row_7 (by decide) (fun _ => ?_) (fun z => absurd c7 z)
      exact zb_X0_row_25  e
    · refine gy_icmp_ge (tgt := 25) (gi_rgS g1) (by decide) dX0_row_7 (by decide) (fun z => absurd z c7) (fun _ => ?_)
      refine gx_iload_n dX0_row_10 rfl 2 rfl ?_
      refine gx_bE e (fun _ g8 e => ?_)
      refine gx_iE e (fun c9 e => ?_) (fun c9 e => ?_)
      · refine gy_if_lt (tgt := 25) (gi_rgS g8) dX0_row_11 (by decide) (fun _ => ?_) (fun z => absurd c9 z)
        exact zb_X0_row_25  e
      · refine gy_if_lt (tgt := 25) (gi_rgS g8) dX0_row_11 (by decide) (fun z => absurd z c9) (fun _ => ?_)
        refine gx_iload_n dX0_row_14 rfl 2 rfl ?_
        refine gy_sipush dX0_row_15 gcs_150 ?_
        refine gx_iE e (fun c10 e => ?_) (fun c10 e => ?_)
        · refine gy_icmp_ge (tgt := 25) (gi_rgS g8) (by decide) dX0_row_18 (by decide) (fun _ => ?_) (fun z => absurd c10 z)
          exact zb_X0_row_25  e
        · refine gy_icmp_ge (tgt := 25) (gi_rgS g8) (by decide) dX0_row_18 (by decide) (fun z => absurd z c10) (fun _ => ?_)
          refine gy_iconst dX0_row_21 ?_
          refine gx_goto (tgt := 26) dX0_row_22 (by decide) ?_
          exact zb_X0_row_26  e
/-! X3_front  -/
set_option maxRecDepth 100000 in
def b_X3_front_20    (h : gi_H) : Option (Int) :=
  some (-1 : Int)
set_option maxRecDepth 100000 in
theorem zb_X3_front_20 {al : Bool}  {res : Int}    {h : gi_H} (e : b_X3_front_20  h = some res) : gx_Z mX3_front al al 0 0 20 [] [] (gi_cv h) (.inl (some (.int (gI res)))) (gi_cv h) := by
  refine gy_iconst dX3_front_20 ?_
  cases e
  exact gx_iret dX3_front_21 rfl ⟨Nat.le_of_ble_eq_true rfl, Nat.le_of_ble_eq_true rfl⟩ (fun z => z)
set_option maxRecDepth 100000 in
def f_X3_front (v0 : Nat) (v1 : Int) (h : gi_H) : Option (Int) :=
  Option.bind (gi_rg v1) fun _ => if v1 < 0 then (b_X3_front_20   h) else (if (150 : Int) ≤ v1 then (b_X3_front_20   h) else (Option.bind (gi_gR h v0 2 12) fun t4 => Option.bind (gi_aI h 1 t4 v1) fun t5 => some t5))
set_option maxRecDepth 100000 in
theorem z_X3_front {al : Bool} {v0 : Nat} {v1 : Int} {h : gi_H} {res : Int} (e : f_X3_front v0 v1 h = some res) : gx_Cw mX3_front al [.ref v0, .int (gI v1)] (gi_cv h) (.inl (some (.int (gI res)))) (gi_cv h) := by
  refine gx_enter (by decide +kernel) rfl (Nat.le_of_ble_eq_true rfl) ?_
  show gx_Z mX3_front al al 0 0 0 [(0, .ref v0), (1, .int (gI v1))] [] (gi_cv h) (.inl (some (.int (gI res)))) (gi_cv h)
  refine gx_iload_n dX3_front_0 rfl 1 rfl ?_
  refine gx_bE e (fun _ g1 e => ?_)
  refine gx_iE e (fun c2 e => ?_) (fun c2 e => ?_)
  · refine gy_if_lt (tgt := 20) (gi_rgS g1) dX3_front_1 (by decide) (fun _ => ?_) (fun z => absurd c2 z)
    refine gx_sub (ls2 := []) [] rfl ?_
    exact zb_X3_front_20  e
  · refine gy_if_lt (tgt := 20) (gi_rgS g1) dX3_front_1 (by decide) (fun z => absurd z c2) (fun _ => ?_)
    refine gx_iload_n dX3_front_4 rfl 1 rfl ?_
    refine gy_sipush dX3_front_5 gcs_150 ?_
    refine gx_iE e (fun c3 e => ?_) (fun c3 e => ?_)
    · refine gy_icmp_ge (tgt := 20) (gi_rgS g1) (by decide) dX3_front_8 (by decide) (fun _ => ?_) (fun z => absurd c3 z)
      refine gx_sub (ls2 := []) [] rfl ?_
      exact zb_X3_front_20  e
    · refine gy_icmp_ge (tgt := 20) (gi_rgS g1) (by decide) dX3_front_8 (by decide) (fun z => absurd z c3) (fun _ => ?_)
      refine gx_aload_n dX3_front_11 rfl 0 rfl ?_
      refine gx_bE e (fun t4 ht4 e => ?_)
      refine gy_fR ht4 dX3_front_12 gf_RX3_31_2_12 (by decide) gkN_2_12 gkR_2_12 ?_
      refine gx_iload_n dX3_front_15 rfl 1 rfl ?_
      refine gx_bE e (fun t5 ht5 e => ?_)
      refine gy_l1 ht5 dX3_front_16 ?_
      refine gx_goto (tgt := 21) dX3_front_17 (by decide) ?_
      cases e
      exact gx_iret dX3_front_21 rfl ⟨Nat.le_of_ble_eq_true rfl, Nat.le_of_ble_eq_true rfl⟩ (fun z => z)
/-! X3_rest  -/
set_option maxRecDepth 100000 in
def b_X3_rest_20    (h : gi_H) : Option (Int) :=
  some (0 : Int)
set_option maxRecDepth 100000 in
theorem zb_X3_rest_20 {al : Bool}  {res : Int}    {h : gi_H} (e : b_X3_rest_20  h = some res) : gx_Z mX3_rest al al 0 0 20 [] [] (gi_cv h) (.inl (some (.int (gI res)))) (gi_cv h) := by
  refine gy_iconst dX3_rest_20 ?_
  cases e
  exact gx_iret dX3_rest_21 rfl ⟨Nat.le_of_ble_eq_true rfl, Nat.le_of_ble_eq_true rfl⟩ (fun z => z)
set_option maxRecDepth 100000 in
def f_X3_rest (v0 : Nat) (v1 : Int) (h : gi_H) : Option (Int) :=
  Option.bind (gi_rg v1) fun _ => if v1 < 0 then (b_X3_rest_20   h) else (if (150 : Int) ≤ v1 then (b_X3_rest_20   h) else (Option.bind (gi_gR h v0 2 13) fun t4 => Option.bind (gi_aI h 1 t4 v1) fun t5 => some t5))
set_option maxRecDepth 100000 in
theorem z_X3_rest {al : Bool} {v0 : Nat} {v1 : Int} {h : gi_H} {res : Int} (e : f_X3_rest v0 v1 h = some res) : gx_Cw mX3_rest al [.ref v0, .int (gI v1)] (gi_cv h) (.inl (some (.int (gI res)))) (gi_cv h) := by
  refine gx_enter (by decide +kernel) rfl (Nat.le_of_ble_eq_true rfl) ?_
  show gx_Z mX3_rest al al 0 0 0 [(0, .ref v0), (1, .int (gI v1))] [] (gi_cv h) (.inl (some (.int (gI res)))) (gi_cv h)
  refine gx_iload_n dX3_rest_0 rfl 1 rfl ?_
  refine gx_bE e (fun _ g1 e => ?_)
  refine gx_iE e (fun c2 e => ?_) (fun c2 e => ?_)
  · refine gy_if_lt (tgt := 20) (gi_rgS g1) dX3_rest_1 (by decide) (fun _ => ?_) (fun z => absurd c2 z)
    refine gx_sub (ls2 := []) [] rfl ?_
    exact zb_X3_rest_20  e
  · refine gy_if_lt (tgt := 20) (gi_rgS g1) dX3_rest_1 (by decide) (fun z => absurd z c2) (fun _ => ?_)
    refine gx_iload_n dX3_rest_4 rfl 1 rfl ?_
    refine gy_sipush dX3_rest_5 gcs_150 ?_
    refine gx_iE e (fun c3 e => ?_) (fun c3 e => ?_)
    · refine gy_icmp_ge (tgt := 20) (gi_rgS g1) (by decide) dX3_rest_8 (by decide) (fun _ => ?_) (fun z => absurd c3 z)
      refine gx_sub (ls2 := []) [] rfl ?_
      exact zb_X3_rest_20  e
    · refine gy_icmp_ge (tgt := 20) (gi_rgS g1) (by decide) dX3_rest_8 (by decide) (fun z => absurd z c3) (fun _ => ?_)
      refine gx_aload_n dX3_rest_11 rfl 0 rfl ?_
      refine gx_bE e (fun t4 ht4 e => ?_)
      refine gy_fR ht4 dX3_rest_12 gf_RX3_34_2_13 (by decide) gkN_2_13 gkR_2_13 ?_
      refine gx_iload_n dX3_rest_15 rfl 1 rfl ?_
      refine gx_bE e (fun t5 ht5 e => ?_)
      refine gy_l1 ht5 dX3_rest_16 ?_
      refine gx_goto (tgt := 21) dX3_rest_17 (by decide) ?_
      cases e
      exact gx_iret dX3_rest_21 rfl ⟨Nat.le_of_ble_eq_true rfl, Nat.le_of_ble_eq_true rfl⟩ (fun z => z)
/-! X0_widen  -/
set_option maxRecDepth 100000 in
def f_X0_widen (v0 : Nat) (v1 : Int) (v2 : Int) (v3 : Int) (h : gi_H) : Option (Int × gi_H) :=
  Option.bind (gi_rg v1) fun _ => if v1 < 0 then (some ((0 : Int), h)) else (if (80 : Int) ≤ v1 then (some ((0 : Int), h)) else (Option.bind (gi_rg v2) fun _ => if v2 < 0 then (some ((0 : Int), h)) else (if v2 < (150 : Int) then (Option.bind (gi_gR h v0 0 5) fun t7 => Option.bind (gi_aI h 1 t7 ((v1 * (150 : Int)) + v2)) fun t8 => Option.bind (gi_gR h v0 0 5) fun t9 => Option.bind (gi_s1 h t9 ((v1 * (150 : Int)) + v2) (gi_or t8 v3)) fun h10 => Option.bind (gi_rg (gi_or t8 v3)) fun _ => Option.bind (gi_rg t8) fun _ => if (gi_or t8 v3) = t8 then (some ((0 : Int), h10)) else (some ((1 : Int), h10))) else (some ((0 : Int), h)))))
set_option maxRecDepth 100000 in
theorem z_X0_widen {al : Bool} {v0 : Nat} {v1 : Int} {v2 : Int} {v3 : Int} {h : gi_H} {res : Int} {h1 : gi_H} (e : f_X0_widen v0 v1 v2 v3 h = some (res, h1)) : gx_Cw mX0_widen al [.ref v0, .int (gI v1), .int (gI v2), .int (gI v3)] (gi_cv h) (.inl (some (.int (gI res)))) (gi_cv h1) := by
  refine gx_enter (by decide +kernel) rfl (Nat.le_of_ble_eq_true rfl) ?_
  show gx_Z mX0_widen al al 0 0 0 [(0, .ref v0), (1, .int (gI v1)), (2, .int (gI v2)), (3, .int (gI v3))] [] (gi_cv h) (.inl (some (.int (gI res)))) (gi_cv h1)
  refine gx_iload_n dX0_widen_0 rfl 1 rfl ?_
  refine gx_bE e (fun _ g1 e => ?_)
  refine gx_iE e (fun c2 e => ?_) (fun c2 e => ?_)
  · refine gy_if_lt (tgt := 21) (gi_rgS g1) dX0_widen_1 (by decide) (fun _ => ?_) (fun z => absurd c2 z)
    refine gy_iconst dX0_widen_21 ?_
    cases e
    exact gx_zret (by decide +kernel) dX0_widen_22 rfl ⟨Nat.le_of_ble_eq_true rfl, Nat.le_of_ble_eq_true rfl⟩ (fun z => z)
  · refine gy_if_lt (tgt := 21) (gi_rgS g1) dX0_widen_1 (by decide) (fun z => absurd z c2) (fun _ => ?_)
    refine gx_iload_n dX0_widen_4 rfl 1 rfl ?_
    refine gy_bipush dX0_widen_5 gcb_80 ?_
    refine gx_iE e (fun c3 e => ?_) (fun c3 e => ?_)
    · refine gy_icmp_ge (tgt := 21) (gi_rgS g1) (by decide) dX0_widen_7 (by decide) (fun _ => ?_) (fun z => absurd c3 z)
      refine gy_iconst dX0_widen_21 ?_
      cases e
      exact gx_zret (by decide +kernel) dX0_widen_22 rfl ⟨Nat.le_of_ble_eq_true rfl, Nat.le_of_ble_eq_true rfl⟩ (fun z => z)
    · refine gy_icmp_ge (tgt := 21) (gi_rgS g1) (by decide) dX0_widen_7 (by decide) (fun z => absurd z c3) (fun _ => ?_)
      refine gx_iload_n dX0_widen_10 rfl 2 rfl ?_
      refine gx_bE e (fun _ g4 e => ?_)
      refine gx_iE e (fun c5 e => ?_) (fun c5 e => ?_)
      · refine gy_if_lt (tgt := 21) (gi_rgS g4) dX0_widen_11 (by decide) (fun _ => ?_) (fun z => absurd c5 z)
        refine gy_iconst dX0_widen_21 ?_
        cases e
        exact gx_zret (by decide +kernel) dX0_widen_22 rfl ⟨Nat.le_of_ble_eq_true rfl, Nat.le_of_ble_eq_true rfl⟩ (fun z => z)
      · refine gy_if_lt (tgt := 21) (gi_rgS g4) dX0_widen_11 (by decide) (fun z => absurd z c5) (fun _ => ?_)
        refine gx_iload_n dX0_widen_14 rfl 2 rfl ?_
        refine gy_sipush dX0_widen_15 gcs_150 ?_
        refine gx_iE e (fun c6 e => ?_) (fun c6 e => ?_)
        · refine gy_icmp_lt (tgt := 23) (gi_rgS g4) (by decide) dX0_widen_18 (by decide) (fun _ => ?_) (fun z => absurd c6 z)
          refine gx_aload_n dX0_widen_23 rfl 0 rfl ?_
          refine gx_bE e (fun t7 ht7 e => ?_)
          refine gy_fR ht7 dX0_widen_24 gf_RX0_9_0_5 (by decide) gkN_0_5 gkR_0_5 ?_
          refine gx_iload_n dX0_widen_27 rfl 1 rfl ?_
          refine gy_sipush dX0_widen_28 gcs_150 ?_
          refine gy_imul dX0_widen_31 ?_
          refine gx_iload_n dX0_widen_32 rfl 2 rfl ?_
          refine gy_iadd dX0_widen_33 ?_
          refine gx_bE e (fun t8 ht8 e => ?_)
          refine gy_l1 ht8 dX0_widen_34 ?_
          refine gx_istore (ls2 := [(4, .int (gI t8)), (0, .ref v0), (1, .int (gI v1)), (2, .int (gI v2)), (3, .int (gI v3))]) dX0_widen_35 (Nat.le_of_ble_eq_true rfl) rfl ?_
          refine gx_aload_n dX0_widen_37 rfl 1 rfl ?_
          refine gx_bE e (fun t9 ht9 e => ?_)
          refine gy_fR ht9 dX0_widen_38 gf_RX0_9_0_5 (by decide) gkN_0_5 gkR_0_5 ?_
          refine gx_iload_n dX0_widen_41 rfl 2 rfl ?_
          refine gy_sipush dX0_widen_42 gcs_150 ?_
          refine gy_imul dX0_widen_45 ?_
          refine gx_iload_n dX0_widen_46 rfl 3 rfl ?_
          refine gy_iadd dX0_widen_47 ?_
          refine gx_iload dX0_widen_48 0 rfl ?_
          refine gx_iload_n dX0_widen_50 rfl 4 rfl ?_
          refine gy_ior dX0_widen_51 ?_
          refine gx_bE e (fun h10 hh10 e => ?_)
          refine gy_t1 hh10 dX0_widen_52 ?_
          refine gx_iload dX0_widen_53 0 rfl ?_
          refine gx_iload_n dX0_widen_55 rfl 4 rfl ?_
          refine gy_ior dX0_widen_56 ?_
          refine gx_iload dX0_widen_57 0 rfl ?_
          refine gx_bE e (fun _ g11 e => ?_)
          refine gx_bE e (fun _ g12 e => ?_)
          refine gx_iE e (fun c13 e => ?_) (fun c13 e => ?_)
          · refine gy_icmp_eq (tgt := 66) (gi_rgS g11) (gi_rgS g12) dX0_widen_59 (by decide) (fun _ => ?_) (fun z => absurd c13 z)
            refine gy_iconst dX0_widen_66 ?_
            cases e
            exact gx_zret (by decide +kernel) dX0_widen_67 rfl ⟨Nat.le_of_ble_eq_true rfl, Nat.le_of_ble_eq_true rfl⟩ (fun z => z)
          · refine gy_icmp_eq (tgt := 66) (gi_rgS g11) (gi_rgS g12) dX0_widen_59 (by decide) (fun z => absurd z c13) (fun _ => ?_)
            refine gy_iconst dX0_widen_62 ?_
            refine gx_goto (tgt := 67) dX0_widen_63 (by decide) ?_
            cases e
            exact gx_zret (by decide +kernel) dX0_widen_67 rfl ⟨Nat.le_of_ble_eq_true rfl, Nat.le_of_ble_eq_true rfl⟩ (fun z => z)
        · refine gy_icmp_lt (tgt := 23) (gi_rgS g4) (by decide) dX0_widen_18 (by decide) (fun z => absurd z c6) (fun _ => ?_)
          refine gy_iconst dX0_widen_21 ?_
          cases e
          exact gx_zret (by decide +kernel) dX0_widen_22 rfl ⟨Nat.le_of_ble_eq_true rfl, Nat.le_of_ble_eq_true rfl⟩ (fun z => z)
/-! X0_addItems  -/
set_option maxRecDepth 100000 in
def b_X0_addItems_92 (n : Nat) (r50 : Nat → Int → Int → Int → Nat → Int → Int → gi_H → Option (Int × gi_H)) (v0 : Nat) (v1 : Int) (v3 : Int) (v4 : Int) (v5 : Nat) (v6 : Int) (v7 : Int)  (h : gi_H) : Option (Int × gi_H) :=
  gx_nm (v7 + (1 : Int)) fun t28 => r50 v0 v1 v3 v4 v5 v6 t28 h
set_option maxRecDepth 100000 in
theorem zb_X0_addItems_92 {al : Bool} {n : Nat} {r50 : Nat → Int → Int → Int → Nat → Int → Int → gi_H → Option (Int × gi_H)} {res : Int} {h1 : gi_H} (hr50 : ∀ (x0 : Nat) (x1 : Int) (x3 : Int) (x4 : Int) (x5 : Nat) (x6 : Int) (x7 : Int) (hh : gi_H), r50 x0 x1 x3 x4 x5 x6 x7 hh = some (res, h1) → gx_Z mX0_addItems al al 0 0 50 [(0, .ref x0), (1, .int (gI x1)), (3, .int (gI x3)), (4, .int (gI x4)), (5, .ref x5), (6, .int (gI x6)), (7, .int (gI x7))] [] (gi_cv hh) (.inl (some (.int (gI res)))) (gi_cv h1)) {v0 : Nat} {v1 : Int} {v3 : Int} {v4 : Int} {v5 : Nat} {v6 : Int} {v7 : Int}  {h : gi_H} (e : b_X0_addItems_92 n r50 v0 v1 v3 v4 v5 v6 v7 h = some (res, h1)) : gx_Z mX0_addItems al al 0 0 92 [(0, .ref v0), (1, .int (gI v1)), (3, .int (gI v3)), (4, .int (gI v4)), (5, .ref v5), (6, .int (gI v6)), (7, .int (gI v7))] [] (gi_cv h) (.inl (some (.int (gI res)))) (gi_cv h1) := by
  refine gx_nE e (fun t28 ht28 e => ?_)
  refine gy_iinc (v := t28) (ls2 := [(7, .int (gI t28)), (0, .ref v0), (1, .int (gI v1)), (3, .int (gI v3)), (4, .int (gI v4)), (5, .ref v5), (6, .int (gI v6))]) dX0_addItems_92 6 rfl ht28 (Nat.le_of_ble_eq_true rfl) rfl ?_
  refine gx_goto (tgt := 50) dX0_addItems_95 (by decide) ?_
  refine gx_sub (ls2 := [(0, .ref v0), (1, .int (gI v1)), (3, .int (gI v3)), (4, .int (gI v4)), (5, .ref v5), (6, .int (gI v6)), (7, .int (gI t28))]) [1, 2, 3, 4, 5, 6, 0] rfl ?_
  exact hr50 _ _ _ _ _ _ _ _ e
set_option maxRecDepth 100000 in
def b_X0_addItems_50 (n : Nat) (r50 : Nat → Int → Int → Int → Nat → Int → Int → gi_H → Option (Int × gi_H)) (v0 : Nat) (v1 : Int) (v3 : Int) (v4 : Int) (v5 : Nat) (v6 : Int) (v7 : Int)  (h : gi_H) : Option (Int × gi_H) :=
  Option.bind (gi_is h v5 3) fun _ => Option.bind (f_X4_count v5 h) fun q15 => Option.bind (gi_rg v7) fun _ => Option.bind (gi_rg q15) fun _ => if q15 ≤ v7 then (Option.bind (gi_zo v6) fun _ => some (v6, h)) else (Option.bind (gi_is h v5 3) fun _ => Option.bind (f_X4_owner v5 v7 h) fun q21 => Option.bind (gi_rg q21) fun _ => Option.bind (gi_rg v4) fun _ => if q21 = v4 then (Option.bind (gi_is h v0 0) fun _ => Option.bind (f_X0_widen v0 v1 (v7 * (6 : Int)) (gi_or (512 : Int) v3) h) fun q26 => gx_nm (gi_or v6 q26.1) fun t27 => b_X0_addItems_92 n r50 v0 v1 v3 v4 v5 t27 v7 q26.2) else (b_X0_addItems_92 n r50 v0 v1 v3 v4 v5 v6 v7 h))
set_option maxRecDepth 100000 in
theorem zb_X0_addItems_50 {al : Bool} {n : Nat} {r50 : Nat → Int → Int → Int → Nat → Int → Int → gi_H → Option (Int × gi_H)} {res : Int} {h1 : gi_H} (hr50 : ∀ (x0 : Nat) (x1 : Int) (x3 : Int) (x4 : Int) (x5 : Nat) (x6 : Int) (x7 : Int) (hh : gi_H), r50 x0 x1 x3 x4 x5 x6 x7 hh = some (res, h1) → gx_Z mX0_addItems al al 0 0 50 [(0, .ref x0), (1, .int (gI x1)), (3, .int (gI x3)), (4, .int (gI x4)), (5, .ref x5), (6, .int (gI x6)), (7, .int (gI x7))] [] (gi_cv hh) (.inl (some (.int (gI res)))) (gi_cv h1)) {v0 : Nat} {v1 : Int} {v3 : Int} {v4 : Int} {v5 : Nat} {v6 : Int} {v7 : Int}  {h : gi_H} (e : b_X0_addItems_50 n r50 v0 v1 v3 v4 v5 v6 v7 h = some (res, h1)) : gx_Z mX0_addItems al al 0 0 50 [(0, .ref v0), (1, .int (gI v1)), (3, .int (gI v3)), (4, .int (gI v4)), (5, .ref v5), (6, .int (gI v6)), (7, .int (gI v7))] [] (gi_cv h) (.inl (some (.int (gI res)))) (gi_cv h1) := by
  refine gx_iload dX0_addItems_50 6 rfl ?_
  refine gx_aload dX0_addItems_52 4 rfl ?_
  refine gx_bE e (fun _ hu14 e => ?_)
  refine gx_bE e (fun q15 hq15 e => ?_)
  refine gx_callV (n := 0) (st := [.int (gI v7)]) (As := []) (b := v5) dX0_addItems_54 (z_X4_count hq15) rfl ⟨rfl, gw_cw_X4_count, gw_3, gp_X4_count, ⟨Nat.le_of_ble_eq_true rfl, Nat.le_of_ble_eq_true rfl⟩⟩ (gi_isS hu14) (by decide) gw_1012 gw_384 gw_385 rfl ⟨Nat.le_of_ble_eq_true rfl, Nat.le_of_ble_eq_true rfl⟩ (Nat.le_of_ble_eq_true rfl) (gy_k1 (x := .int (gI q15)) (kc2 := 0) (ks2 := 0) ⟨rfl, rfl⟩ ?_) gy_kn
  refine gx_bE e (fun _ g16 e => ?_)
  refine gx_bE e (fun _ g17 e => ?_)
  refine gx_iE e (fun c18 e => ?_) (fun c18 e => ?_)
  · refine gy_icmp_ge (tgt := 98) (gi_rgS g16) (gi_rgS g17) dX0_addItems_57 (by decide) (fun _ => ?_) (fun z => absurd c18 z)
    refine gx_iload dX0_addItems_98 5 rfl ?_
    refine gx_bE e (fun _ hu19 e => ?_)
    cases e
    exact gx_zret (gi_zoS hu19) dX0_addItems_100 rfl ⟨Nat.le_of_ble_eq_true rfl, Nat.le_of_ble_eq_true rfl⟩ (fun z => z)
  · refine gy_icmp_ge (tgt := 98) (gi_rgS g16) (gi_rgS g17) dX0_addItems_57 (by decide) (fun z => absurd z c18) (fun _ => ?_)
    refine gx_aload dX0_addItems_60 4 rfl ?_
    refine gx_iload dX0_addItems_62 6 rfl ?_
    refine gx_bE e (fun _ hu20 e => ?_)
    refine gx_bE e (fun q21 hq21 e => ?_)
    refine gx_callV (n := 1) (st := []) (As := [.int (gI v7)]) (b := v5) dX0_addItems_64 (z_X4_owner hq21) rfl ⟨rfl, gw_cw_X4_owner, gw_3, gp_X4_owner, ⟨Nat.le_of_ble_eq_true rfl, Nat.le_of_ble_eq_true rfl⟩⟩ (gi_isS hu20) (by decide) gw_1013 gw_403 gw_404 rfl ⟨Nat.le_of_ble_eq_true rfl, Nat.le_of_ble_eq_true rfl⟩ (Nat.le_of_ble_eq_true rfl) (gy_k1 (x := .int (gI q21)) (kc2 := 0) (ks2 := 0) ⟨rfl, rfl⟩ ?_) gy_kn
    refine gx_iload dX0_addItems_67 3 rfl ?_
    refine gx_bE e (fun _ g22 e => ?_)
    refine gx_bE e (fun _ g23 e => ?_)
    refine gx_iE e (fun c24 e => ?_) (fun c24 e => ?_)
    · refine gy_icmp_ne (tgt := 92) (gi_rgS g22) (gi_rgS g23) dX0_addItems_69 (by decide) (fun z => absurd c24 z) (fun _ => ?_)
      refine gx_iload dX0_addItems_72 5 rfl ?_
      refine gx_aload_n dX0_addItems_74 rfl 0 rfl ?_
      refine gx_iload_n dX0_addItems_75 rfl 1 rfl ?_
      refine gx_iload dX0_addItems_76 6 rfl ?_
      refine gy_bipush dX0_addItems_78 gcb_6 ?_
      refine gy_imul dX0_addItems_80 ?_
      refine gy_sipush dX0_addItems_81 gcs_512 ?_
      refine gx_iload_n dX0_addItems_84 rfl 2 rfl ?_
      refine gy_ior dX0_addItems_85 ?_
      refine gx_bE e (fun _ hu25 e => ?_)
      refine gx_bE e (fun q26 hq26 e => ?_)
      refine gx_callV (n := 3) (st := [.int (gI v6)]) (As := [.int (gI v1), .int (gI (v7 * (6 : Int))), .int (gI (gi_or (512 : Int) v3))]) (b := v0) dX0_addItems_86 (z_X0_widen hq26) rfl ⟨rfl, gw_cw_X0_widen, gw_7, gp_X0_widen, ⟨Nat.le_of_ble_eq_true rfl, Nat.le_of_ble_eq_true rfl⟩⟩ (gi_isS hu25) (by decide) gw_1014 gw_1016 gs_29 rfl ⟨Nat.le_of_ble_eq_true rfl, Nat.le_of_ble_eq_true rfl⟩ (Nat.le_of_ble_eq_true rfl) (gy_k1 (x := .int (gI q26.1)) (kc2 := 0) (ks2 := 0) ⟨rfl, rfl⟩ ?_) gy_kn
      refine gy_ior dX0_addItems_89 ?_
      refine gx_nE e (fun t27 ht27 e => ?_)
      rw [ht27]
      refine gx_istore (ls2 := [(6, .int (gI t27)), (0, .ref v0), (1, .int (gI v1)), (3, .int (gI v3)), (4, .int (gI v4)), (5, .ref v5), (7, .int (gI v7))]) dX0_addItems_90 (Nat.le_of_ble_eq_true rfl) rfl ?_
      refine gx_sub (ls2 := [(0, .ref v0), (1, .int (gI v1)), (3, .int (gI v3)), (4, .int (gI v4)), (5, .ref v5), (6, .int (gI t27)), (7, .int (gI v7))]) [1, 2, 3, 4, 5, 0, 6] rfl ?_
      exact zb_X0_addItems_92 hr50 e
    · refine gy_icmp_ne (tgt := 92) (gi_rgS g22) (gi_rgS g23) dX0_addItems_69 (by decide) (fun _ => ?_) (fun z => absurd z c24)
      exact zb_X0_addItems_92 hr50 e
def l_X0_addItems_50 (n : Nat)  : Nat → Nat → Int → Int → Int → Nat → Int → Int → gi_H → Option (Int × gi_H)
  | 0, _, _, _, _, _, _, _, _ => none
  | k + 1, v0, v1, v3, v4, v5, v6, v7, h => b_X0_addItems_50 n  (l_X0_addItems_50 n  k) v0 v1 v3 v4 v5 v6 v7 h
theorem zl_X0_addItems_50 {al : Bool} {n : Nat}  {res : Int} {h1 : gi_H}  : ∀ (k : Nat) (v0 : Nat) (v1 : Int) (v3 : Int) (v4 : Int) (v5 : Nat) (v6 : Int) (v7 : Int) (h : gi_H), l_X0_addItems_50 n  k v0 v1 v3 v4 v5 v6 v7 h = some (res, h1) → gx_Z mX0_addItems al al 0 0 50 [(0, .ref v0), (1, .int (gI v1)), (3, .int (gI v3)), (4, .int (gI v4)), (5, .ref v5), (6, .int (gI v6)), (7, .int (gI v7))] [] (gi_cv h) (.inl (some (.int (gI res)))) (gi_cv h1)
  | 0, _, _, _, _, _, _, _, _, e => gx_0E e
  | k + 1, _, _, _, _, _, _, _, _, e => zb_X0_addItems_50 (n := n)  (zl_X0_addItems_50  k) e
set_option maxRecDepth 100000 in
def f_X0_addItems (n : Nat) (v0 : Nat) (v1 : Int) (v2 : Int) (h : gi_H) : Option (Int × gi_H) :=
  Option.bind (gi_gR h v0 0 0) fun t1 => Option.bind (gi_is h t1 2) fun _ => Option.bind (f_X3_rest t1 v2 h) fun q3 => Option.bind (gi_is h v0 0) fun _ => Option.bind (f_X0_row v0 v1 v2 h) fun q5 => Option.bind (f_X11_behindOf q3 (gi_and q5 (511 : Int)) h) fun q6 => Option.bind (gi_gR h v0 0 0) fun t7 => Option.bind (gi_is h t7 2) fun _ => Option.bind (f_X3_front t7 v2 h) fun q9 => gx_nm (q9 - (16 : Int)) fun t10 => Option.bind (gi_gR h v0 0 0) fun t11 => Option.bind (gi_is h t11 2) fun _ => Option.bind (f_X3_grammar t11 h) fun q13 => l_X0_addItems_50 n  n v0 v1 q6 t10 q13 (0 : Int) (0 : Int) h
set_option maxRecDepth 100000 in
theorem z_X0_addItems {al : Bool} {n : Nat} {v0 : Nat} {v1 : Int} {v2 : Int} {h : gi_H} {res : Int} {h1 : gi_H} (e : f_X0_addItems n v0 v1 v2 h = some (res, h1)) : gx_Cw mX0_addItems al [.ref v0, .int (gI v1), .int (gI v2)] (gi_cv h) (.inl (some (.int (gI res)))) (gi_cv h1) := by
  refine gx_enter (by decide +kernel) rfl (Nat.le_of_ble_eq_true rfl) ?_
  show gx_Z mX0_addItems al al 0 0 0 [(0, .ref v0), (1, .int (gI v1)), (2, .int (gI v2))] [] (gi_cv h) (.inl (some (.int (gI res)))) (gi_cv h1)
  refine gx_aload_n dX0_addItems_0 rfl 0 rfl ?_
  refine gx_bE e (fun t1 ht1 e => ?_)
  refine gy_fR ht1 dX0_addItems_1 gf_RX0_28_0_0 (by decide) gkN_0_0 gkR_0_0 ?_
  refine gx_iload_n dX0_addItems_4 rfl 2 rfl ?_
  refine gx_bE e (fun _ hu2 e => ?_)
  refine gx_bE e (fun q3 hq3 e => ?_)
  refine gx_callV (n := 1) (st := []) (As := [.int (gI v2)]) (b := t1) dX0_addItems_5 (z_X3_rest hq3) rfl ⟨rfl, gw_cw_X3_rest, gw_6, gp_X3_rest, ⟨Nat.le_of_ble_eq_true rfl, Nat.le_of_ble_eq_true rfl⟩⟩ (gi_isS hu2) (by decide) gw_1006 gw_1007 gw_1008 rfl ⟨Nat.le_of_ble_eq_true rfl, Nat.le_of_ble_eq_true rfl⟩ (Nat.le_of_ble_eq_true rfl) (gy_k1 (x := .int (gI q3)) (kc2 := 0) (ks2 := 0) ⟨rfl, rfl⟩ ?_) gy_kn
  refine gx_aload_n dX0_addItems_8 rfl 0 rfl ?_
  refine gx_iload_n dX0_addItems_9 rfl 1 rfl ?_
  refine gx_iload_n dX0_addItems_10 rfl 2 rfl ?_
  refine gx_bE e (fun _ hu4 e => ?_)
  refine gx_bE e (fun q5 hq5 e => ?_)
  refine gx_callV (n := 2) (st := [.int (gI q3)]) (As := [.int (gI v1), .int (gI v2)]) (b := v0) dX0_addItems_11 (z_X0_row hq5) rfl ⟨rfl, gw_cw_X0_row, gw_7, gp_X0_row, ⟨Nat.le_of_ble_eq_true rfl, Nat.le_of_ble_eq_true rfl⟩⟩ (gi_isS hu4) (by decide) gw_993 gw_994 gw_995 rfl ⟨Nat.le_of_ble_eq_true rfl, Nat.le_of_ble_eq_true rfl⟩ (Nat.le_of_ble_eq_true rfl) (gy_k1 (x := .int (gI q5)) (kc2 := 0) (ks2 := 0) ⟨rfl, rfl⟩ ?_) gy_kn
  refine gy_sipush dX0_addItems_14 gcs_511 ?_
  refine gy_iand dX0_addItems_17 ?_
  refine gx_bE e (fun q6 hq6 e => ?_)
  refine gx_callSN (n := 2) (st := []) (As := [.int (gI q3), .int (gI (gi_and q5 (511 : Int)))]) dX0_addItems_18 (z_X11_behindOf hq6) rfl ⟨rfl, gw_cw_X11_behindOf, gw_1, gp_X11_behindOf, ⟨Nat.le_of_ble_eq_true rfl, Nat.le_of_ble_eq_true rfl⟩⟩ (host := "Grammarsmith") (by decide +kernel) gw_445 ⟨Nat.le_of_ble_eq_true rfl, Nat.le_of_ble_eq_true rfl⟩ (Nat.le_of_ble_eq_true rfl) (gy_k1 (x := .int (gI q6)) (kc2 := 0) (ks2 := 0) ⟨rfl, rfl⟩ ?_) gy_kn
  refine gx_istore_n (ls2 := [(3, .int (gI q6)), (0, .ref v0), (1, .int (gI v1)), (2, .int (gI v2))]) dX0_addItems_21 rfl (Nat.le_of_ble_eq_true rfl) rfl ?_
  refine gx_aload_n dX0_addItems_22 rfl 1 rfl ?_
  refine gx_bE e (fun t7 ht7 e => ?_)
  refine gy_fR ht7 dX0_addItems_23 gf_RX0_28_0_0 (by decide) gkN_0_0 gkR_0_0 ?_
  refine gx_iload_n dX0_addItems_26 rfl 3 rfl ?_
  refine gx_bE e (fun _ hu8 e => ?_)
  refine gx_bE e (fun q9 hq9 e => ?_)
  refine gx_callV (n := 1) (st := []) (As := [.int (gI v2)]) (b := t7) dX0_addItems_27 (z_X3_front hq9) rfl ⟨rfl, gw_cw_X3_front, gw_6, gp_X3_front, ⟨Nat.le_of_ble_eq_true rfl, Nat.le_of_ble_eq_true rfl⟩⟩ (gi_isS hu8) (by decide) gw_997 gw_998 gw_999 rfl ⟨Nat.le_of_ble_eq_true rfl, Nat.le_of_ble_eq_true rfl⟩ (Nat.le_of_ble_eq_true rfl) (gy_k1 (x := .int (gI q9)) (kc2 := 0) (ks2 := 0) ⟨rfl, rfl⟩ ?_) gy_kn
  refine gy_bipush dX0_addItems_30 gcb_16 ?_
  refine gy_isub dX0_addItems_32 ?_
  refine gx_nE e (fun t10 ht10 e => ?_)
  rw [ht10]
  refine gx_istore (ls2 := [(4, .int (gI t10)), (3, .int (gI q6)), (0, .ref v0), (1, .int (gI v1)), (2, .int (gI v2))]) dX0_addItems_33 (Nat.le_of_ble_eq_true rfl) rfl ?_
  refine gx_aload_n dX0_addItems_35 rfl 2 rfl ?_
  refine gx_bE e (fun t11 ht11 e => ?_)
  refine gy_fR ht11 dX0_addItems_36 gf_RX0_28_0_0 (by decide) gkN_0_0 gkR_0_0 ?_
  refine gx_bE e (fun _ hu12 e => ?_)
  refine gx_bE e (fun q13 hq13 e => ?_)
  refine gx_callV (n := 0) (st := []) (As := []) (b := t11) dX0_addItems_39 (z_X3_grammar hq13) rfl ⟨rfl, gw_cw_X3_grammar, gw_6, gp_X3_grammar, ⟨Nat.le_of_ble_eq_true rfl, Nat.le_of_ble_eq_true rfl⟩⟩ (gi_isS hu12) (by decide) gw_1011 gw_553 gw_554 rfl ⟨Nat.le_of_ble_eq_true rfl, Nat.le_of_ble_eq_true rfl⟩ (Nat.le_of_ble_eq_true rfl) (gy_k1 (x := .ref q13) (kc2 := 0) (ks2 := 0) ⟨rfl, rfl⟩ ?_) gy_kn
  refine gx_astore (ls2 := [(5, .ref q13), (4, .int (gI t10)), (3, .int (gI q6)), (0, .ref v0), (1, .int (gI v1)), (2, .int (gI v2))]) dX0_addItems_42 (Nat.le_of_ble_eq_true rfl) rfl ?_
  refine gy_iconst dX0_addItems_44 ?_
  refine gx_istore (ls2 := [(6, .int (gI (0 : Int))), (5, .ref q13), (4, .int (gI t10)), (3, .int (gI q6)), (0, .ref v0), (1, .int (gI v1)), (2, .int (gI v2))]) dX0_addItems_45 (Nat.le_of_ble_eq_true rfl) rfl ?_
  refine gy_iconst dX0_addItems_47 ?_
  refine gx_istore (ls2 := [(7, .int (gI (0 : Int))), (6, .int (gI (0 : Int))), (5, .ref q13), (4, .int (gI t10)), (3, .int (gI q6)), (0, .ref v0), (1, .int (gI v1)), (2, .int (gI v2))]) dX0_addItems_48 (Nat.le_of_ble_eq_true rfl) rfl ?_
  refine gx_sub (ls2 := [(0, .ref v0), (1, .int (gI v1)), (3, .int (gI q6)), (4, .int (gI t10)), (5, .ref q13), (6, .int (gI (0 : Int))), (7, .int (gI (0 : Int)))]) [5, 6, 4, 3, 2, 1, 0] rfl ?_
  exact zl_X0_addItems_50  n _ _ _ _ _ _ _ _ e
/-! X0_complete  -/
set_option maxRecDepth 100000 in
def b_X0_complete_68 (n : Nat) (r4 : Nat → Int → Int → Int → gi_H → Option (gi_H)) (v0 : Nat) (v1 : Int) (v2 : Int) (v3 : Int)  (h : gi_H) : Option (gi_H) :=
  gx_nm (v3 + (1 : Int)) fun t7 => r4 v0 v1 v2 t7 h
set_option maxRecDepth 100000 in
theorem zb_X0_complete_68 {al : Bool} {n : Nat} {r4 : Nat → Int → Int → Int → gi_H → Option (gi_H)} {h1 : gi_H} (hr4 : ∀ (x0 : Nat) (x1 : Int) (x2 : Int) (x3 : Int) (hh : gi_H), r4 x0 x1 x2 x3 hh = some h1 → gx_Z mX0_complete al al 0 0 4 [(0, .ref x0), (1, .int (gI x1)), (2, .int (gI x2)), (3, .int (gI x3))] [] (gi_cv hh) (.inl none) (gi_cv h1)) {v0 : Nat} {v1 : Int} {v2 : Int} {v3 : Int}  {h : gi_H} (e : b_X0_complete_68 n r4 v0 v1 v2 v3 h = some h1) : gx_Z mX0_complete al al 0 0 68 [(0, .ref v0), (1, .int (gI v1)), (2, .int (gI v2)), (3, .int (gI v3))] [] (gi_cv h) (.inl none) (gi_cv h1) := by
  refine gx_nE e (fun t7 ht7 e => ?_)
  refine gy_iinc (v := t7) (ls2 := [(3, .int (gI t7)), (0, .ref v0), (1, .int (gI v1)), (2, .int (gI v2))]) dX0_complete_68 3 rfl ht7 (Nat.le_of_ble_eq_true rfl) rfl ?_
  refine gx_goto (tgt := 4) dX0_complete_71 (by decide) ?_
  refine gx_sub (ls2 := [(0, .ref v0), (1, .int (gI v1)), (2, .int (gI v2)), (3, .int (gI t7))]) [1, 2, 3, 0] rfl ?_
  exact hr4 _ _ _ _ _ e
set_option maxRecDepth 100000 in
def b_X0_complete_62 (n : Nat) (r4 : Nat → Int → Int → Int → gi_H → Option (gi_H)) (r19 : Nat → Int → Int → Int → Int → gi_H → Option (gi_H)) (v0 : Nat) (v1 : Int) (v2 : Int) (v3 : Int) (v4 : Int)  (h : gi_H) : Option (gi_H) :=
  gx_nm (v4 + (1 : Int)) fun t12 => r19 v0 v1 v2 v3 t12 h
set_option maxRecDepth 100000 in
theorem zb_X0_complete_62 {al : Bool} {n : Nat} {r4 : Nat → Int → Int → Int → gi_H → Option (gi_H)} {r19 : Nat → Int → Int → Int → Int → gi_H → Option (gi_H)} {h1 : gi_H} (hr4 : ∀ (x0 : Nat) (x1 : Int) (x2 : Int) (x3 : Int) (hh : gi_H), r4 x0 x1 x2 x3 hh = some h1 → gx_Z mX0_complete al al 0 0 4 [(0, .ref x0), (1, .int (gI x1)), (2, .int (gI x2)), (3, .int (gI x3))] [] (gi_cv hh) (.inl none) (gi_cv h1)) (hr19 : ∀ (x0 : Nat) (x1 : Int) (x2 : Int) (x3 : Int) (x4 : Int) (hh : gi_H), r19 x0 x1 x2 x3 x4 hh = some h1 → gx_Z mX0_complete al al 0 0 19 [(0, .ref x0), (1, .int (gI x1)), (2, .int (gI x2)), (3, .int (gI x3)), (4, .int (gI x4))] [] (gi_cv hh) (.inl none) (gi_cv h1)) {v0 : Nat} {v1 : Int} {v2 : Int} {v3 : Int} {v4 : Int}  {h : gi_H} (e : b_X0_complete_62 n r4 r19 v0 v1 v2 v3 v4 h = some h1) : gx_Z mX0_complete al al 0 0 62 [(0, .ref v0), (1, .int (gI v1)), (2, .int (gI v2)), (3, .int (gI v3)), (4, .int (gI v4))] [] (gi_cv h) (.inl none) (gi_cv h1) := by
  refine gx_nE e (fun t12 ht12 e => ?_)
  refine gy_iinc (v := t12) (ls2 := [(4, .int (gI t12)), (0, .ref v0), (1, .int (gI v1)), (2, .int (gI v2)), (3, .int (gI v3))]) dX0_complete_62 4 rfl ht12 (Nat.le_of_ble_eq_true rfl) rfl ?_
  refine gx_goto (tgt := 19) dX0_complete_65 (by decide) ?_
  refine gx_sub (ls2 := [(0, .ref v0), (1, .int (gI v1)), (2, .int (gI v2)), (3, .int (gI v3)), (4, .int (gI t12))]) [1, 2, 3, 4, 0] rfl ?_
  exact hr19 _ _ _ _ _ _ e
set_option maxRecDepth 100000 in
def b_X0_complete_19 (n : Nat) (r4 : Nat → Int → Int → Int → gi_H → Option (gi_H)) (r19 : Nat → Int → Int → Int → Int → gi_H → Option (gi_H)) (v0 : Nat) (v1 : Int) (v2 : Int) (v3 : Int) (v4 : Int)  (h : gi_H) : Option (gi_H) :=
  Option.bind (gi_rg v4) fun _ => if (150 : Int) ≤ v4 then (b_X0_complete_68 n r4 v0 v1 v2 v3 h) else (Option.bind (gi_is h v0 0) fun _ => Option.bind (f_X0_row v0 v1 v4 h) fun q9 => Option.bind (gi_rg q9) fun _ => if q9 = 0 then (b_X0_complete_62 n r4 r19 v0 v1 v2 v3 v4 h) else (Option.bind (gi_gR h v0 0 0) fun t13 => Option.bind (gi_is h t13 2) fun _ => Option.bind (f_X3_front t13 v4 h) fun q15 => Option.bind (f_X11_isNonterminal q15 h) fun q16 => Option.bind (gi_rg q16) fun _ => if q16 = 0 then (b_X0_complete_62 n r4 r19 v0 v1 v2 v3 v4 h) else (Option.bind (gi_is h v0 0) fun _ => Option.bind (f_X0_addItems n v0 v1 v4 h) fun q20 => gx_nm (gi_or v2 q20.1) fun t21 => b_X0_complete_62 n r4 r19 v0 v1 t21 v3 v4 q20.2)))
set_option maxRecDepth 100000 in
theorem zb_X0_complete_19 {al : Bool} {n : Nat} {r4 : Nat → Int → Int → Int → gi_H → Option (gi_H)} {r19 : Nat → Int → Int → Int → Int → gi_H → Option (gi_H)} {h1 : gi_H} (hr4 : ∀ (x0 : Nat) (x1 : Int) (x2 : Int) (x3 : Int) (hh : gi_H), r4 x0 x1 x2 x3 hh = some h1 → gx_Z mX0_complete al al 0 0 4 [(0, .ref x0), (1, .int (gI x1)), (2, .int (gI x2)), (3, .int (gI x3))] [] (gi_cv hh) (.inl none) (gi_cv h1)) (hr19 : ∀ (x0 : Nat) (x1 : Int) (x2 : Int) (x3 : Int) (x4 : Int) (hh : gi_H), r19 x0 x1 x2 x3 x4 hh = some h1 → gx_Z mX0_complete al al 0 0 19 [(0, .ref x0), (1, .int (gI x1)), (2, .int (gI x2)), (3, .int (gI x3)), (4, .int (gI x4))] [] (gi_cv hh) (.inl none) (gi_cv h1)) {v0 : Nat} {v1 : Int} {v2 : Int} {v3 : Int} {v4 : Int}  {h : gi_H} (e : b_X0_complete_19 n r4 r19 v0 v1 v2 v3 v4 h = some h1) : gx_Z mX0_complete al al 0 0 19 [(0, .ref v0), (1, .int (gI v1)), (2, .int (gI v2)), (3, .int (gI v3)), (4, .int (gI v4))] [] (gi_cv h) (.inl none) (gi_cv h1) := by
  refine gx_iload dX0_complete_19 4 rfl ?_
  refine gy_sipush dX0_complete_21 gcs_150 ?_
  refine gx_bE e (fun _ g5 e => ?_)
  refine gx_iE e (fun c6 e => ?_) (fun c6 e => ?_)
  · refine gy_icmp_ge (tgt := 68) (gi_rgS g5) (by decide) dX0_complete_24 (by decide) (fun _ => ?_) (fun z => absurd c6 z)
    refine gx_sub (ls2 := [(0, .ref v0), (1, .int (gI v1)), (2, .int (gI v2)), (3, .int (gI v3))]) [0, 1, 2, 3] rfl ?_
    exact zb_X0_complete_68 hr4 e
  · refine gy_icmp_ge (tgt := 68) (gi_rgS g5) (by decide) dX0_complete_24 (by decide) (fun z => absurd z c6) (fun _ => ?_)
    refine gx_aload_n dX0_complete_27 rfl 0 rfl ?_
    refine gx_iload_n dX0_complete_28 rfl 1 rfl ?_
    refine gx_iload dX0_complete_29 4 rfl ?_
    refine gx_bE e (fun _ hu8 e => ?_)
    refine gx_bE e (fun q9 hq9 e => ?_)
    refine gx_callV (n := 2) (st := []) (As := [.int (gI v1), .int (gI v4)]) (b := v0) dX0_complete_31 (z_X0_row hq9) rfl ⟨rfl, gw_cw_X0_row, gw_7, gp_X0_row, ⟨Nat.le_of_ble_eq_true rfl, Nat.le_of_ble_eq_true rfl⟩⟩ (gi_isS hu8) (by decide) gw_993 gw_994 gw_995 rfl ⟨Nat.le_of_ble_eq_true rfl, Nat.le_of_ble_eq_true rfl⟩ (Nat.le_of_ble_eq_true rfl) (gy_k1 (x := .int (gI q9)) (kc2 := 0) (ks2 := 0) ⟨rfl, rfl⟩ ?_) gy_kn
    refine gx_bE e (fun _ g10 e => ?_)
    refine gx_iE e (fun c11 e => ?_) (fun c11 e => ?_)
    · refine gy_if_eq (tgt := 62) (gi_rgS g10) dX0_complete_34 (by decide) (fun _ => ?_) (fun z => absurd c11 z)
      exact zb_X0_complete_62 hr4 hr19 e
    · refine gy_if_eq (tgt := 62) (gi_rgS g10) dX0_complete_34 (by decide) (fun z => absurd z c11) (fun _ => ?_)
      refine gx_aload_n dX0_complete_37 rfl 0 rfl ?_
      refine gx_bE e (fun t13 ht13 e => ?_)
      refine gy_fR ht13 dX0_complete_38 gf_RX0_28_0_0 (by decide) gkN_0_0 gkR_0_0 ?_
      refine gx_iload dX0_complete_41 4 rfl ?_
      refine gx_bE e (fun _ hu14 e => ?_)
      refine gx_bE e (fun q15 hq15 e => ?_)
      refine gx_callV (n := 1) (st := []) (As := [.int (gI v4)]) (b := t13) dX0_complete_43 (z_X3_front hq15) rfl ⟨rfl, gw_cw_X3_front, gw_6, gp_X3_front, ⟨Nat.le_of_ble_eq_true rfl, Nat.le_of_ble_eq_true rfl⟩⟩ (gi_isS hu14) (by decide) gw_997 gw_998 gw_999 rfl ⟨Nat.le_of_ble_eq_true rfl, Nat.le_of_ble_eq_true rfl⟩ (Nat.le_of_ble_eq_true rfl) (gy_k1 (x := .int (gI q15)) (kc2 := 0) (ks2 := 0) ⟨rfl, rfl⟩ ?_) gy_kn
      refine gx_bE e (fun q16 hq16 e => ?_)
      refine gx_callSN (n := 1) (st := []) (As := [.int (gI q15)]) dX0_complete_46 (z_X11_isNonterminal hq16) rfl ⟨rfl, gw_cw_X11_isNonterminal, gw_1, gp_X11_isNonterminal, ⟨Nat.le_of_ble_eq_true rfl, Nat.le_of_ble_eq_true rfl⟩⟩ (host := "Grammarsmith") (by decide +kernel) gw_438 ⟨Nat.le_of_ble_eq_true rfl, Nat.le_of_ble_eq_true rfl⟩ (Nat.le_of_ble_eq_true rfl) (gy_k1 (x := .int (gI q16)) (kc2 := 0) (ks2 := 0) ⟨rfl, rfl⟩ ?_) gy_kn
      refine gx_bE e (fun _ g17 e => ?_)
      refine gx_iE e (fun c18 e => ?_) (fun c18 e => ?_)
      · refine gy_if_eq (tgt := 62) (gi_rgS g17) dX0_complete_49 (by decide) (fun _ => ?_) (fun z => absurd c18 z)
        exact zb_X0_complete_62 hr4 hr19 e
      · refine gy_if_eq (tgt := 62) (gi_rgS g17) dX0_complete_49 (by decide) (fun z => absurd z c18) (fun _ => ?_)
        refine gx_iload_n dX0_complete_52 rfl 2 rfl ?_
        refine gx_aload_n dX0_complete_53 rfl 0 rfl ?_
        refine gx_iload_n dX0_complete_54 rfl 1 rfl ?_
        refine gx_iload dX0_complete_55 4 rfl ?_
        refine gx_bE e (fun _ hu19 e => ?_)
        refine gx_bE e (fun q20 hq20 e => ?_)
        refine gx_callV (n := 2) (st := [.int (gI v2)]) (As := [.int (gI v1), .int (gI v4)]) (b := v0) dX0_complete_57 (z_X0_addItems hq20) rfl ⟨rfl, gw_cw_X0_addItems, gw_7, gp_X0_addItems, ⟨Nat.le_of_ble_eq_true rfl, Nat.le_of_ble_eq_true rfl⟩⟩ (gi_isS hu19) (by decide) gw_1002 gw_1004 gs_28 rfl ⟨Nat.le_of_ble_eq_true rfl, Nat.le_of_ble_eq_true rfl⟩ (Nat.le_of_ble_eq_true rfl) (gy_k1 (x := .int (gI q20.1)) (kc2 := 0) (ks2 := 0) ⟨rfl, rfl⟩ ?_) gy_kn
        refine gy_ior dX0_complete_60 ?_
        refine gx_nE e (fun t21 ht21 e => ?_)
        rw [ht21]
        refine gx_istore_n (ls2 := [(2, .int (gI t21)), (0, .ref v0), (1, .int (gI v1)), (3, .int (gI v3)), (4, .int (gI v4))]) dX0_complete_61 rfl (Nat.le_of_ble_eq_true rfl) rfl ?_
        refine gx_sub (ls2 := [(0, .ref v0), (1, .int (gI v1)), (2, .int (gI t21)), (3, .int (gI v3)), (4, .int (gI v4))]) [1, 2, 0, 3, 4] rfl ?_
        exact zb_X0_complete_62 hr4 hr19 e
def l_X0_complete_19 (n : Nat) (r4 : Nat → Int → Int → Int → gi_H → Option (gi_H)) : Nat → Nat → Int → Int → Int → Int → gi_H → Option (gi_H)
  | 0, _, _, _, _, _, _ => none
  | k + 1, v0, v1, v2, v3, v4, h => b_X0_complete_19 n r4 (l_X0_complete_19 n r4 k) v0 v1 v2 v3 v4 h
theorem zl_X0_complete_19 {al : Bool} {n : Nat} {r4 : Nat → Int → Int → Int → gi_H → Option (gi_H)} {h1 : gi_H} (hr4 : ∀ (x0 : Nat) (x1 : Int) (x2 : Int) (x3 : Int) (hh : gi_H), r4 x0 x1 x2 x3 hh = some h1 → gx_Z mX0_complete al al 0 0 4 [(0, .ref x0), (1, .int (gI x1)), (2, .int (gI x2)), (3, .int (gI x3))] [] (gi_cv hh) (.inl none) (gi_cv h1)) : ∀ (k : Nat) (v0 : Nat) (v1 : Int) (v2 : Int) (v3 : Int) (v4 : Int) (h : gi_H), l_X0_complete_19 n r4 k v0 v1 v2 v3 v4 h = some h1 → gx_Z mX0_complete al al 0 0 19 [(0, .ref v0), (1, .int (gI v1)), (2, .int (gI v2)), (3, .int (gI v3)), (4, .int (gI v4))] [] (gi_cv h) (.inl none) (gi_cv h1)
  | 0, _, _, _, _, _, _, e => gx_0E e
  | k + 1, _, _, _, _, _, _, e => zb_X0_complete_19 (n := n) hr4 (zl_X0_complete_19 hr4 k) e
set_option maxRecDepth 100000 in
def b_X0_complete_4 (n : Nat) (r4 : Nat → Int → Int → Int → gi_H → Option (gi_H)) (v0 : Nat) (v1 : Int) (v2 : Int) (v3 : Int)  (h : gi_H) : Option (gi_H) :=
  Option.bind (gi_rg v3) fun _ => if (1000000 : Int) ≤ v3 then (some h) else (Option.bind (gi_rg v2) fun _ => if v2 = 0 then (some h) else (l_X0_complete_19 n r4 n v0 v1 (0 : Int) v3 (0 : Int) h))
set_option maxRecDepth 100000 in
theorem zb_X0_complete_4 {al : Bool} {n : Nat} {r4 : Nat → Int → Int → Int → gi_H → Option (gi_H)} {h1 : gi_H} (hr4 : ∀ (x0 : Nat) (x1 : Int) (x2 : Int) (x3 : Int) (hh : gi_H), r4 x0 x1 x2 x3 hh = some h1 → gx_Z mX0_complete al al 0 0 4 [(0, .ref x0), (1, .int (gI x1)), (2, .int (gI x2)), (3, .int (gI x3))] [] (gi_cv hh) (.inl none) (gi_cv h1)) {v0 : Nat} {v1 : Int} {v2 : Int} {v3 : Int}  {h : gi_H} (e : b_X0_complete_4 n r4 v0 v1 v2 v3 h = some h1) : gx_Z mX0_complete al al 0 0 4 [(0, .ref v0), (1, .int (gI v1)), (2, .int (gI v2)), (3, .int (gI v3))] [] (gi_cv h) (.inl none) (gi_cv h1) := by
  refine gx_iload_n dX0_complete_4 rfl 3 rfl ?_
  refine gy_ldc (n := 1000000) dX0_complete_5 gw_988 (by decide +kernel) ?_
  refine gx_bE e (fun _ g1 e => ?_)
  refine gx_iE e (fun c2 e => ?_) (fun c2 e => ?_)
  · refine gy_icmp_ge (tgt := 74) (gi_rgS g1) (by decide) dX0_complete_7 (by decide) (fun _ => ?_) (fun z => absurd c2 z)
    cases e
    exact gx_vret dX0_complete_74 rfl ⟨Nat.le_of_ble_eq_true rfl, Nat.le_of_ble_eq_true rfl⟩ (fun z => z)
  · refine gy_icmp_ge (tgt := 74) (gi_rgS g1) (by decide) dX0_complete_7 (by decide) (fun z => absurd z c2) (fun _ => ?_)
    refine gx_iload_n dX0_complete_10 rfl 2 rfl ?_
    refine gx_bE e (fun _ g3 e => ?_)
    refine gx_iE e (fun c4 e => ?_) (fun c4 e => ?_)
    · refine gy_if_eq (tgt := 74) (gi_rgS g3) dX0_complete_11 (by decide) (fun _ => ?_) (fun z => absurd c4 z)
      cases e
      exact gx_vret dX0_complete_74 rfl ⟨Nat.le_of_ble_eq_true rfl, Nat.le_of_ble_eq_true rfl⟩ (fun z => z)
    · refine gy_if_eq (tgt := 74) (gi_rgS g3) dX0_complete_11 (by decide) (fun z => absurd z c4) (fun _ => ?_)
      refine gy_iconst dX0_complete_14 ?_
      refine gx_istore_n (ls2 := [(2, .int (gI (0 : Int))), (0, .ref v0), (1, .int (gI v1)), (3, .int (gI v3))]) dX0_complete_15 rfl (Nat.le_of_ble_eq_true rfl) rfl ?_
      refine gy_iconst dX0_complete_16 ?_
      refine gx_istore (ls2 := [(4, .int (gI (0 : Int))), (2, .int (gI (0 : Int))), (0, .ref v0), (1, .int (gI v1)), (3, .int (gI v3))]) dX0_complete_17 (Nat.le_of_ble_eq_true rfl) rfl ?_
      refine gx_sub (ls2 := [(0, .ref v0), (1, .int (gI v1)), (2, .int (gI (0 : Int))), (3, .int (gI v3)), (4, .int (gI (0 : Int)))]) [2, 3, 1, 4, 0] rfl ?_
      exact zl_X0_complete_19 hr4 n _ _ _ _ _ _ e
def l_X0_complete_4 (n : Nat)  : Nat → Nat → Int → Int → Int → gi_H → Option (gi_H)
  | 0, _, _, _, _, _ => none
  | k + 1, v0, v1, v2, v3, h => b_X0_complete_4 n  (l_X0_complete_4 n  k) v0 v1 v2 v3 h
theorem zl_X0_complete_4 {al : Bool} {n : Nat}  {h1 : gi_H}  : ∀ (k : Nat) (v0 : Nat) (v1 : Int) (v2 : Int) (v3 : Int) (h : gi_H), l_X0_complete_4 n  k v0 v1 v2 v3 h = some h1 → gx_Z mX0_complete al al 0 0 4 [(0, .ref v0), (1, .int (gI v1)), (2, .int (gI v2)), (3, .int (gI v3))] [] (gi_cv h) (.inl none) (gi_cv h1)
  | 0, _, _, _, _, _, e => gx_0E e
  | k + 1, _, _, _, _, _, e => zb_X0_complete_4 (n := n)  (zl_X0_complete_4  k) e
set_option maxRecDepth 100000 in
def f_X0_complete (n : Nat) (v0 : Nat) (v1 : Int) (h : gi_H) : Option (gi_H) :=
  l_X0_complete_4 n  n v0 v1 (1 : Int) (0 : Int) h
set_option maxRecDepth 100000 in
theorem z_X0_complete {al : Bool} {n : Nat} {v0 : Nat} {v1 : Int} {h : gi_H} {h1 : gi_H} (e : f_X0_complete n v0 v1 h = some h1) : gx_Cw mX0_complete al [.ref v0, .int (gI v1)] (gi_cv h) (.inl none) (gi_cv h1) := by
  refine gx_enter (by decide +kernel) rfl (Nat.le_of_ble_eq_true rfl) ?_
  show gx_Z mX0_complete al al 0 0 0 [(0, .ref v0), (1, .int (gI v1))] [] (gi_cv h) (.inl none) (gi_cv h1)
  refine gy_iconst dX0_complete_0 ?_
  refine gx_istore_n (ls2 := [(2, .int (gI (1 : Int))), (0, .ref v0), (1, .int (gI v1))]) dX0_complete_1 rfl (Nat.le_of_ble_eq_true rfl) rfl ?_
  refine gy_iconst dX0_complete_2 ?_
  refine gx_istore_n (ls2 := [(3, .int (gI (0 : Int))), (2, .int (gI (1 : Int))), (0, .ref v0), (1, .int (gI v1))]) dX0_complete_3 rfl (Nat.le_of_ble_eq_true rfl) rfl ?_
  refine gx_sub (ls2 := [(0, .ref v0), (1, .int (gI v1)), (2, .int (gI (1 : Int))), (3, .int (gI (0 : Int)))]) [2, 3, 1, 0] rfl ?_
  exact zl_X0_complete_4  n _ _ _ _ _ e
/-! X0_symbolsInFront  -/
set_option maxRecDepth 100000 in
def b_X0_symbolsInFront_43 (n : Nat) (r4 : Nat → Int → Int → Int → gi_H → Option (Int)) (v0 : Nat) (v1 : Int) (v2 : Int) (v3 : Int)  (h : gi_H) : Option (Int) :=
  gx_nm (v3 + (1 : Int)) fun t10 => r4 v0 v1 v2 t10 h
set_option maxRecDepth 100000 in
theorem zb_X0_symbolsInFront_43 {al : Bool} {n : Nat} {r4 : Nat → Int → Int → Int → gi_H → Option (Int)} {res : Int} (hr4 : ∀ (x0 : Nat) (x1 : Int) (x2 : Int) (x3 : Int) (hh : gi_H), r4 x0 x1 x2 x3 hh = some res → gx_Z mX0_symbolsInFront al al 0 0 4 [(0, .ref x0), (1, .int (gI x1)), (2, .int (gI x2)), (3, .int (gI x3))] [] (gi_cv hh) (.inl (some (.int (gI res)))) (gi_cv hh)) {v0 : Nat} {v1 : Int} {v2 : Int} {v3 : Int}  {h : gi_H} (e : b_X0_symbolsInFront_43 n r4 v0 v1 v2 v3 h = some res) : gx_Z mX0_symbolsInFront al al 0 0 43 [(0, .ref v0), (1, .int (gI v1)), (2, .int (gI v2)), (3, .int (gI v3))] [] (gi_cv h) (.inl (some (.int (gI res)))) (gi_cv h) := by
  refine gx_nE e (fun t10 ht10 e => ?_)
  refine gy_iinc (v := t10) (ls2 := [(3, .int (gI t10)), (0, .ref v0), (1, .int (gI v1)), (2, .int (gI v2))]) dX0_symbolsInFront_43 3 rfl ht10 (Nat.le_of_ble_eq_true rfl) rfl ?_
  refine gx_goto (tgt := 4) dX0_symbolsInFront_46 (by decide) ?_
  refine gx_sub (ls2 := [(0, .ref v0), (1, .int (gI v1)), (2, .int (gI v2)), (3, .int (gI t10))]) [1, 2, 3, 0] rfl ?_
  exact hr4 _ _ _ _ _ e
set_option maxRecDepth 100000 in
def b_X0_symbolsInFront_4 (n : Nat) (r4 : Nat → Int → Int → Int → gi_H → Option (Int)) (v0 : Nat) (v1 : Int) (v2 : Int) (v3 : Int)  (h : gi_H) : Option (Int) :=
  Option.bind (gi_rg v3) fun _ => if (150 : Int) ≤ v3 then (some v2) else (Option.bind (gi_gR h v0 0 0) fun t3 => Option.bind (gi_is h t3 2) fun _ => Option.bind (f_X3_front t3 v3 h) fun q5 => Option.bind (gi_is h v0 0) fun _ => Option.bind (f_X0_row v0 v1 v3 h) fun q7 => Option.bind (gi_rg q7) fun _ => if q7 = 0 then (b_X0_symbolsInFront_43 n r4 v0 v1 v2 v3 h) else (Option.bind (gi_rg q5) fun _ => if q5 = (-1 : Int) then (b_X0_symbolsInFront_43 n r4 v0 v1 v2 v3 h) else (gx_nm (gi_or v2 (gi_shl (1 : Int) q5)) fun t13 => b_X0_symbolsInFront_43 n r4 v0 v1 t13 v3 h)))
set_option maxRecDepth 100000 in
theorem zb_X0_symbolsInFront_4 {al : Bool} {n : Nat} {r4 : Nat → Int → Int → Int → gi_H → Option (Int)} {res : Int} (hr4 : ∀ (x0 : Nat) (x1 : Int) (x2 : Int) (x3 : Int) (hh : gi_H), r4 x0 x1 x2 x3 hh = some res → gx_Z mX0_symbolsInFront al al 0 0 4 [(0, .ref x0), (1, .int (gI x1)), (2, .int (gI x2)), (3, .int (gI x3))] [] (gi_cv hh) (.inl (some (.int (gI res)))) (gi_cv hh)) {v0 : Nat} {v1 : Int} {v2 : Int} {v3 : Int}  {h : gi_H} (e : b_X0_symbolsInFront_4 n r4 v0 v1 v2 v3 h = some res) : gx_Z mX0_symbolsInFront al al 0 0 4 [(0, .ref v0), (1, .int (gI v1)), (2, .int (gI v2)), (3, .int (gI v3))] [] (gi_cv h) (.inl (some (.int (gI res)))) (gi_cv h) := by
  refine gx_iload_n dX0_symbolsInFront_4 rfl 3 rfl ?_
  refine gy_sipush dX0_symbolsInFront_5 gcs_150 ?_
  refine gx_bE e (fun _ g1 e => ?_)
  refine gx_iE e (fun c2 e => ?_) (fun c2 e => ?_)
  · refine gy_icmp_ge (tgt := 49) (gi_rgS g1) (by decide) dX0_symbolsInFront_8 (by decide) (fun _ => ?_) (fun z => absurd c2 z)
    refine gx_iload_n dX0_symbolsInFront_49 rfl 2 rfl ?_
    cases e
    exact gx_iret dX0_symbolsInFront_50 rfl ⟨Nat.le_of_ble_eq_true rfl, Nat.le_of_ble_eq_true rfl⟩ (fun z => z)
  · refine gy_icmp_ge (tgt := 49) (gi_rgS g1) (by decide) dX0_symbolsInFront_8 (by decide) (fun z => absurd z c2) (fun _ => ?_)
    refine gx_aload_n dX0_symbolsInFront_11 rfl 0 rfl ?_
    refine gx_bE e (fun t3 ht3 e => ?_)
    refine gy_fR ht3 dX0_symbolsInFront_12 gf_RX0_28_0_0 (by decide) gkN_0_0 gkR_0_0 ?_
    refine gx_iload_n dX0_symbolsInFront_15 rfl 3 rfl ?_
    refine gx_bE e (fun _ hu4 e => ?_)
    refine gx_bE e (fun q5 hq5 e => ?_)
    refine gx_callV (n := 1) (st := []) (As := [.int (gI v3)]) (b := t3) dX0_symbolsInFront_16 (z_X3_front hq5) rfl ⟨rfl, gw_cw_X3_front, gw_6, gp_X3_front, ⟨Nat.le_of_ble_eq_true rfl, Nat.le_of_ble_eq_true rfl⟩⟩ (gi_isS hu4) (by decide) gw_997 gw_998 gw_999 rfl ⟨Nat.le_of_ble_eq_true rfl, Nat.le_of_ble_eq_true rfl⟩ (Nat.le_of_ble_eq_true rfl) (gy_k1 (x := .int (gI q5)) (kc2 := 0) (ks2 := 0) ⟨rfl, rfl⟩ ?_) gy_kn
    refine gx_istore (ls2 := [(4, .int (gI q5)), (0, .ref v0), (1, .int (gI v1)), (2, .int (gI v2)), (3, .int (gI v3))]) dX0_symbolsInFront_19 (Nat.le_of_ble_eq_true rfl) rfl ?_
    refine gx_aload_n dX0_symbolsInFront_21 rfl 1 rfl ?_
    refine gx_iload_n dX0_symbolsInFront_22 rfl 2 rfl ?_
    refine gx_iload_n dX0_symbolsInFront_23 rfl 4 rfl ?_
    refine gx_bE e (fun _ hu6 e => ?_)
    refine gx_bE e (fun q7 hq7 e => ?_)
    refine gx_callV (n := 2) (st := []) (As := [.int (gI v1), .int (gI v3)]) (b := v0) dX0_symbolsInFront_24 (z_X0_row hq7) rfl ⟨rfl, gw_cw_X0_row, gw_7, gp_X0_row, ⟨Nat.le_of_ble_eq_true rfl, Nat.le_of_ble_eq_true rfl⟩⟩ (gi_isS hu6) (by decide) gw_993 gw_994 gw_995 rfl ⟨Nat.le_of_ble_eq_true rfl, Nat.le_of_ble_eq_true rfl⟩ (Nat.le_of_ble_eq_true rfl) (gy_k1 (x := .int (gI q7)) (kc2 := 0) (ks2 := 0) ⟨rfl, rfl⟩ ?_) gy_kn
    refine gx_bE e (fun _ g8 e => ?_)
    refine gx_iE e (fun c9 e => ?_) (fun c9 e => ?_)
    · refine gy_if_eq (tgt := 43) (gi_rgS g8) dX0_symbolsInFront_27 (by decide) (fun _ => ?_) (fun z => absurd c9 z)
      refine gx_sub (ls2 := [(0, .ref v0), (1, .int (gI v1)), (2, .int (gI v2)), (3, .int (gI v3))]) [1, 2, 3, 4] rfl ?_
      exact zb_X0_symbolsInFront_43 hr4 e
    · refine gy_if_eq (tgt := 43) (gi_rgS g8) dX0_symbolsInFront_27 (by decide) (fun z => absurd z c9) (fun _ => ?_)
      refine gx_iload dX0_symbolsInFront_30 0 rfl ?_
      refine gy_iconst dX0_symbolsInFront_32 ?_
      refine gx_bE e (fun _ g11 e => ?_)
      refine gx_iE e (fun c12 e => ?_) (fun c12 e => ?_)
      · refine gy_icmp_eq (tgt := 43) (gi_rgS g11) (by decide) dX0_symbolsInFront_33 (by decide) (fun _ => ?_) (fun z => absurd c12 z)
        refine gx_sub (ls2 := [(0, .ref v0), (1, .int (gI v1)), (2, .int (gI v2)), (3, .int (gI v3))]) [1, 2, 3, 4] rfl ?_
        exact zb_X0_symbolsInFront_43 hr4 e
      · refine gy_icmp_eq (tgt := 43) (gi_rgS g11) (by decide) dX0_symbolsInFront_33 (by decide) (fun z => absurd z c12) (fun _ => ?_)
        refine gx_iload_n dX0_symbolsInFront_36 rfl 3 rfl ?_
        refine gy_iconst dX0_symbolsInFront_37 ?_
        refine gx_iload dX0_symbolsInFront_38 0 rfl ?_
        refine gy_ishl dX0_symbolsInFront_40 ?_
        refine gy_ior dX0_symbolsInFront_41 ?_
        refine gx_nE e (fun t13 ht13 e => ?_)
        rw [ht13]
        refine gx_istore_n (ls2 := [(2, .int (gI t13)), (4, .int (gI q5)), (0, .ref v0), (1, .int (gI v1)), (3, .int (gI v3))]) dX0_symbolsInFront_42 rfl (Nat.le_of_ble_eq_true rfl) rfl ?_
        refine gx_sub (ls2 := [(0, .ref v0), (1, .int (gI v1)), (2, .int (gI t13)), (3, .int (gI v3))]) [2, 3, 0, 4] rfl ?_
        exact zb_X0_symbolsInFront_43 hr4 e
def l_X0_symbolsInFront_4 (n : Nat)  : Nat → Nat → Int → Int → Int → gi_H → Option (Int)
  | 0, _, _, _, _, _ => none
  | k + 1, v0, v1, v2, v3, h => b_X0_symbolsInFront_4 n  (l_X0_symbolsInFront_4 n  k) v0 v1 v2 v3 h
theorem zl_X0_symbolsInFront_4 {al : Bool} {n : Nat}  {res : Int}  : ∀ (k : Nat) (v0 : Nat) (v1 : Int) (v2 : Int) (v3 : Int) (h : gi_H), l_X0_symbolsInFront_4 n  k v0 v1 v2 v3 h = some res → gx_Z mX0_symbolsInFront al al 0 0 4 [(0, .ref v0), (1, .int (gI v1)), (2, .int (gI v2)), (3, .int (gI v3))] [] (gi_cv h) (.inl (some (.int (gI res)))) (gi_cv h)
  | 0, _, _, _, _, _, e => gx_0E e
  | k + 1, _, _, _, _, _, e => zb_X0_symbolsInFront_4 (n := n)  (zl_X0_symbolsInFront_4  k) e
set_option maxRecDepth 100000 in
def f_X0_symbolsInFront (n : Nat) (v0 : Nat) (v1 : Int) (h : gi_H) : Option (Int) :=
  l_X0_symbolsInFront_4 n  n v0 v1 (0 : Int) (0 : Int) h
set_option maxRecDepth 100000 in
theorem z_X0_symbolsInFront {al : Bool} {n : Nat} {v0 : Nat} {v1 : Int} {h : gi_H} {res : Int} (e : f_X0_symbolsInFront n v0 v1 h = some res) : gx_Cw mX0_symbolsInFront al [.ref v0, .int (gI v1)] (gi_cv h) (.inl (some (.int (gI res)))) (gi_cv h) := by
  refine gx_enter (by decide +kernel) rfl (Nat.le_of_ble_eq_true rfl) ?_
  show gx_Z mX0_symbolsInFront al al 0 0 0 [(0, .ref v0), (1, .int (gI v1))] [] (gi_cv h) (.inl (some (.int (gI res)))) (gi_cv h)
  refine gy_iconst dX0_symbolsInFront_0 ?_
  refine gx_istore_n (ls2 := [(2, .int (gI (0 : Int))), (0, .ref v0), (1, .int (gI v1))]) dX0_symbolsInFront_1 rfl (Nat.le_of_ble_eq_true rfl) rfl ?_
  refine gy_iconst dX0_symbolsInFront_2 ?_
  refine gx_istore_n (ls2 := [(3, .int (gI (0 : Int))), (2, .int (gI (0 : Int))), (0, .ref v0), (1, .int (gI v1))]) dX0_symbolsInFront_3 rfl (Nat.le_of_ble_eq_true rfl) rfl ?_
  refine gx_sub (ls2 := [(0, .ref v0), (1, .int (gI v1)), (2, .int (gI (0 : Int))), (3, .int (gI (0 : Int)))]) [2, 3, 1, 0] rfl ?_
  exact zl_X0_symbolsInFront_4  n _ _ _ _ _ e
/-! X0_beginsFresh  -/
set_option maxRecDepth 100000 in
def b_X0_beginsFresh_106 (n : Nat) (r14 : Nat → Int → Int → gi_H → Option (Int)) (v0 : Nat) (v1 : Int) (v2 : Int)  (h : gi_H) : Option (Int) :=
  gx_nm (v2 + (1 : Int)) fun t9 => r14 v0 v1 t9 h
set_option maxRecDepth 100000 in
theorem zb_X0_beginsFresh_106 {al : Bool} {n : Nat} {r14 : Nat → Int → Int → gi_H → Option (Int)} {res : Int} (hr14 : ∀ (x0 : Nat) (x1 : Int) (x2 : Int) (hh : gi_H), r14 x0 x1 x2 hh = some res → gx_Z mX0_beginsFresh al al 0 0 14 [(0, .ref x0), (1, .int (gI x1)), (2, .int (gI x2))] [] (gi_cv hh) (.inl (some (.int (gI res)))) (gi_cv hh)) {v0 : Nat} {v1 : Int} {v2 : Int}  {h : gi_H} (e : b_X0_beginsFresh_106 n r14 v0 v1 v2 h = some res) : gx_Z mX0_beginsFresh al al 0 0 106 [(0, .ref v0), (1, .int (gI v1)), (2, .int (gI v2))] [] (gi_cv h) (.inl (some (.int (gI res)))) (gi_cv h) := by
  refine gx_nE e (fun t9 ht9 e => ?_)
  refine gy_iinc (v := t9) (ls2 := [(2, .int (gI t9)), (0, .ref v0), (1, .int (gI v1))]) dX0_beginsFresh_106 2 rfl ht9 (Nat.le_of_ble_eq_true rfl) rfl ?_
  refine gx_goto (tgt := 14) dX0_beginsFresh_109 (by decide) ?_
  refine gx_sub (ls2 := [(0, .ref v0), (1, .int (gI v1)), (2, .int (gI t9))]) [1, 2, 0] rfl ?_
  exact hr14 _ _ _ _ e
set_option maxRecDepth 100000 in
def b_X0_beginsFresh_97 (n : Nat) (r14 : Nat → Int → Int → gi_H → Option (Int)) (v0 : Nat) (v1 : Int) (v2 : Int) (s0 : Int) (h : gi_H) : Option (Int) :=
  Option.bind (gi_rg s0) fun _ => if s0 = 0 then (some (0 : Int)) else (b_X0_beginsFresh_106 n r14 v0 v1 v2 h)
set_option maxRecDepth 100000 in
theorem zb_X0_beginsFresh_97 {al : Bool} {n : Nat} {r14 : Nat → Int → Int → gi_H → Option (Int)} {res : Int} (hr14 : ∀ (x0 : Nat) (x1 : Int) (x2 : Int) (hh : gi_H), r14 x0 x1 x2 hh = some res → gx_Z mX0_beginsFresh al al 0 0 14 [(0, .ref x0), (1, .int (gI x1)), (2, .int (gI x2))] [] (gi_cv hh) (.inl (some (.int (gI res)))) (gi_cv hh)) {v0 : Nat} {v1 : Int} {v2 : Int} {s0 : Int} {h : gi_H} (e : b_X0_beginsFresh_97 n r14 v0 v1 v2 s0 h = some res) : gx_Z mX0_beginsFresh al al 0 0 97 [(0, .ref v0), (1, .int (gI v1)), (2, .int (gI v2))] [.int (gI s0)] (gi_cv h) (.inl (some (.int (gI res)))) (gi_cv h) := by
  refine gx_istore (ls2 := [(4, .int (gI s0)), (0, .ref v0), (1, .int (gI v1)), (2, .int (gI v2))]) dX0_beginsFresh_97 (Nat.le_of_ble_eq_true rfl) rfl ?_
  refine gx_iload dX0_beginsFresh_99 0 rfl ?_
  refine gx_bE e (fun _ g20 e => ?_)
  refine gx_iE e (fun c21 e => ?_) (fun c21 e => ?_)
  · refine gy_if_ne (tgt := 106) (gi_rgS g20) dX0_beginsFresh_101 (by decide) (fun z => absurd c21 z) (fun _ => ?_)
    refine gy_iconst dX0_beginsFresh_104 ?_
    cases e
    exact gx_zret (by decide +kernel) dX0_beginsFresh_105 rfl ⟨Nat.le_of_ble_eq_true rfl, Nat.le_of_ble_eq_true rfl⟩ (fun z => z)
  · refine gy_if_ne (tgt := 106) (gi_rgS g20) dX0_beginsFresh_101 (by decide) (fun _ => ?_) (fun z => absurd z c21)
    refine gx_sub (ls2 := [(0, .ref v0), (1, .int (gI v1)), (2, .int (gI v2))]) [1, 2, 3] rfl ?_
    exact zb_X0_beginsFresh_106 hr14 e
set_option maxRecDepth 100000 in
def b_X0_beginsFresh_71 (n : Nat) (r14 : Nat → Int → Int → gi_H → Option (Int)) (v0 : Nat) (v1 : Int) (v2 : Int) (s0 : Int) (s1 : Int) (h : gi_H) : Option (Int) :=
  Option.bind (gi_rg s0) fun _ => Option.bind (gi_rg s1) fun _ => if s0 = s1 then (b_X0_beginsFresh_97 n r14 v0 v1 v2 (1 : Int) h) else (b_X0_beginsFresh_97 n r14 v0 v1 v2 (0 : Int) h)
set_option maxRecDepth 100000 in
theorem zb_X0_beginsFresh_71 {al : Bool} {n : Nat} {r14 : Nat → Int → Int → gi_H → Option (Int)} {res : Int} (hr14 : ∀ (x0 : Nat) (x1 : Int) (x2 : Int) (hh : gi_H), r14 x0 x1 x2 hh = some res → gx_Z mX0_beginsFresh al al 0 0 14 [(0, .ref x0), (1, .int (gI x1)), (2, .int (gI x2))] [] (gi_cv hh) (.inl (some (.int (gI res)))) (gi_cv hh)) {v0 : Nat} {v1 : Int} {v2 : Int} {s0 : Int} {s1 : Int} {h : gi_H} (e : b_X0_beginsFresh_71 n r14 v0 v1 v2 s0 s1 h = some res) : gx_Z mX0_beginsFresh al al 0 0 71 [(0, .ref v0), (1, .int (gI v1)), (2, .int (gI v2))] [.int (gI s1), .int (gI s0)] (gi_cv h) (.inl (some (.int (gI res)))) (gi_cv h) := by
  refine gx_bE e (fun _ g28 e => ?_)
  refine gx_bE e (fun _ g29 e => ?_)
  refine gx_iE e (fun c30 e => ?_) (fun c30 e => ?_)
  · refine gy_icmp_ne (tgt := 78) (gi_rgS g28) (gi_rgS g29) dX0_beginsFresh_71 (by decide) (fun z => absurd c30 z) (fun _ => ?_)
    refine gy_iconst dX0_beginsFresh_74 ?_
    refine gx_goto (tgt := 97) dX0_beginsFresh_75 (by decide) ?_
    exact zb_X0_beginsFresh_97 hr14 e
  · refine gy_icmp_ne (tgt := 78) (gi_rgS g28) (gi_rgS g29) dX0_beginsFresh_71 (by decide) (fun _ => ?_) (fun z => absurd z c30)
    refine gy_iconst dX0_beginsFresh_78 ?_
    refine gx_goto (tgt := 97) dX0_beginsFresh_79 (by decide) ?_
    exact zb_X0_beginsFresh_97 hr14 e
set_option maxRecDepth 100000 in
def b_X0_beginsFresh_57 (n : Nat) (r14 : Nat → Int → Int → gi_H → Option (Int)) (v0 : Nat) (v1 : Int) (v2 : Int) (s0 : Int) (h : gi_H) : Option (Int) :=
  Option.bind (gi_gR h v0 0 9) fun t24 => Option.bind (gi_aI h 1 t24 v2) fun t25 => Option.bind (gi_rg t25) fun _ => if t25 = 0 then (b_X0_beginsFresh_71 n r14 v0 v1 v2 s0 (1 : Int) h) else (b_X0_beginsFresh_71 n r14 v0 v1 v2 s0 (0 : Int) h)
set_option maxRecDepth 100000 in
theorem zb_X0_beginsFresh_57 {al : Bool} {n : Nat} {r14 : Nat → Int → Int → gi_H → Option (Int)} {res : Int} (hr14 : ∀ (x0 : Nat) (x1 : Int) (x2 : Int) (hh : gi_H), r14 x0 x1 x2 hh = some res → gx_Z mX0_beginsFresh al al 0 0 14 [(0, .ref x0), (1, .int (gI x1)), (2, .int (gI x2))] [] (gi_cv hh) (.inl (some (.int (gI res)))) (gi_cv hh)) {v0 : Nat} {v1 : Int} {v2 : Int} {s0 : Int} {h : gi_H} (e : b_X0_beginsFresh_57 n r14 v0 v1 v2 s0 h = some res) : gx_Z mX0_beginsFresh al al 0 0 57 [(0, .ref v0), (1, .int (gI v1)), (2, .int (gI v2))] [.int (gI s0)] (gi_cv h) (.inl (some (.int (gI res)))) (gi_cv h) := by
  refine gx_aload_n dX0_beginsFresh_57 rfl 0 rfl ?_
  refine gx_bE e (fun t24 ht24 e => ?_)
  refine gy_fR ht24 dX0_beginsFresh_58 gf_RX0_25_0_9 (by decide) gkN_0_9 gkR_0_9 ?_
  refine gx_iload_n dX0_beginsFresh_61 rfl 2 rfl ?_
  refine gx_bE e (fun t25 ht25 e => ?_)
  refine gy_l1 ht25 dX0_beginsFresh_62 ?_
  refine gx_bE e (fun _ g26 e => ?_)
  refine gx_iE e (fun c27 e => ?_) (fun c27 e => ?_)
  · refine gy_if_ne (tgt := 70) (gi_rgS g26) dX0_beginsFresh_63 (by decide) (fun z => absurd c27 z) (fun _ => ?_)
    refine gy_iconst dX0_beginsFresh_66 ?_
    refine gx_goto (tgt := 71) dX0_beginsFresh_67 (by decide) ?_
    exact zb_X0_beginsFresh_71 hr14 e
  · refine gy_if_ne (tgt := 70) (gi_rgS g26) dX0_beginsFresh_63 (by decide) (fun _ => ?_) (fun z => absurd z c27)
    refine gy_iconst dX0_beginsFresh_70 ?_
    exact zb_X0_beginsFresh_71 hr14 e
set_option maxRecDepth 100000 in
def b_X0_beginsFresh_14 (n : Nat) (r14 : Nat → Int → Int → gi_H → Option (Int)) (v0 : Nat) (v1 : Int) (v2 : Int)  (h : gi_H) : Option (Int) :=
  Option.bind (gi_rg v2) fun _ => if (150 : Int) ≤ v2 then (some (1 : Int)) else (Option.bind (gi_dg v2 (6 : Int)) fun _ => Option.bind (gi_rg (v2 % (6 : Int))) fun _ => if (v2 % (6 : Int)) = 0 then (b_X0_beginsFresh_106 n r14 v0 v1 v2 h) else (Option.bind (gi_gR h v0 0 5) fun t10 => Option.bind (gi_aI h 1 t10 ((v1 * (150 : Int)) + v2)) fun t11 => Option.bind (gi_gI h v0 0 1) fun t12 => Option.bind (gi_rg t12) fun _ => if t12 = 0 then (Option.bind (gi_gR h v0 0 9) fun t15 => Option.bind (gi_aI h 1 t15 v2) fun t16 => Option.bind (gi_rg t11) fun _ => Option.bind (gi_rg t16) fun _ => if t11 = t16 then (b_X0_beginsFresh_97 n r14 v0 v1 v2 (1 : Int) h) else (b_X0_beginsFresh_97 n r14 v0 v1 v2 (0 : Int) h)) else (Option.bind (gi_rg t11) fun _ => if t11 = 0 then (b_X0_beginsFresh_57 n r14 v0 v1 v2 (1 : Int) h) else (b_X0_beginsFresh_57 n r14 v0 v1 v2 (0 : Int) h))))
set_option maxRecDepth 100000 in
theorem zb_X0_beginsFresh_14 {al : Bool} {n : Nat} {r14 : Nat → Int → Int → gi_H → Option (Int)} {res : Int} (hr14 : ∀ (x0 : Nat) (x1 : Int) (x2 : Int) (hh : gi_H), r14 x0 x1 x2 hh = some res → gx_Z mX0_beginsFresh al al 0 0 14 [(0, .ref x0), (1, .int (gI x1)), (2, .int (gI x2))] [] (gi_cv hh) (.inl (some (.int (gI res)))) (gi_cv hh)) {v0 : Nat} {v1 : Int} {v2 : Int}  {h : gi_H} (e : b_X0_beginsFresh_14 n r14 v0 v1 v2 h = some res) : gx_Z mX0_beginsFresh al al 0 0 14 [(0, .ref v0), (1, .int (gI v1)), (2, .int (gI v2))] [] (gi_cv h) (.inl (some (.int (gI res)))) (gi_cv h) := by
  refine gx_iload_n dX0_beginsFresh_14 rfl 2 rfl ?_
  refine gy_sipush dX0_beginsFresh_15 gcs_150 ?_
  refine gx_bE e (fun _ g4 e => ?_)
  refine gx_iE e (fun c5 e => ?_) (fun c5 e => ?_)
  · refine gy_icmp_ge (tgt := 112) (gi_rgS g4) (by decide) dX0_beginsFresh_18 (by decide) (fun _ => ?_) (fun z => absurd c5 z)
    refine gy_iconst dX0_beginsFresh_112 ?_
    cases e
    exact gx_zret (by decide +kernel) dX0_beginsFresh_113 rfl ⟨Nat.le_of_ble_eq_true rfl, Nat.le_of_ble_eq_true rfl⟩ (fun z => z)
  · refine gy_icmp_ge (tgt := 112) (gi_rgS g4) (by decide) dX0_beginsFresh_18 (by decide) (fun z => absurd z c5) (fun _ => ?_)
    refine gx_iload_n dX0_beginsFresh_21 rfl 2 rfl ?_
    refine gy_bipush dX0_beginsFresh_22 gcb_6 ?_
    refine gx_bE e (fun _ hu6 e => ?_)
    refine gy_irem hu6 dX0_beginsFresh_24 ?_
    refine gx_bE e (fun _ g7 e => ?_)
    refine gx_iE e (fun c8 e => ?_) (fun c8 e => ?_)
    · refine gy_if_eq (tgt := 106) (gi_rgS g7) dX0_beginsFresh_25 (by decide) (fun _ => ?_) (fun z => absurd c8 z)
      exact zb_X0_beginsFresh_106 hr14 e
    · refine gy_if_eq (tgt := 106) (gi_rgS g7) dX0_beginsFresh_25 (by decide) (fun z => absurd z c8) (fun _ => ?_)
      refine gx_aload_n dX0_beginsFresh_28 rfl 0 rfl ?_
      refine gx_bE e (fun t10 ht10 e => ?_)
      refine gy_fR ht10 dX0_beginsFresh_29 gf_RX0_9_0_5 (by decide) gkN_0_5 gkR_0_5 ?_
      refine gx_iload_n dX0_beginsFresh_32 rfl 1 rfl ?_
      refine gy_sipush dX0_beginsFresh_33 gcs_150 ?_
      refine gy_imul dX0_beginsFresh_36 ?_
      refine gx_iload_n dX0_beginsFresh_37 rfl 2 rfl ?_
      refine gy_iadd dX0_beginsFresh_38 ?_
      refine gx_bE e (fun t11 ht11 e => ?_)
      refine gy_l1 ht11 dX0_beginsFresh_39 ?_
      refine gx_istore_n (ls2 := [(3, .int (gI t11)), (0, .ref v0), (1, .int (gI v1)), (2, .int (gI v2))]) dX0_beginsFresh_40 rfl (Nat.le_of_ble_eq_true rfl) rfl ?_
      refine gx_aload_n dX0_beginsFresh_41 rfl 1 rfl ?_
      refine gx_bE e (fun t12 ht12 e => ?_)
      refine gy_fI ht12 dX0_beginsFresh_42 gf_RX0_32_0_1 (by decide) gkN_0_1 gkR_0_1 ?_
      refine gx_bE e (fun _ g13 e => ?_)
      refine gx_iE e (fun c14 e => ?_) (fun c14 e => ?_)
      · refine gy_if_eq (tgt := 82) (gi_rgS g13) dX0_beginsFresh_45 (by decide) (fun _ => ?_) (fun z => absurd c14 z)
        refine gx_iload_n dX0_beginsFresh_82 rfl 0 rfl ?_
        refine gx_aload_n dX0_beginsFresh_83 rfl 1 rfl ?_
        refine gx_bE e (fun t15 ht15 e => ?_)
        refine gy_fR ht15 dX0_beginsFresh_84 gf_RX0_25_0_9 (by decide) gkN_0_9 gkR_0_9 ?_
        refine gx_iload_n dX0_beginsFresh_87 rfl 3 rfl ?_
        refine gx_bE e (fun t16 ht16 e => ?_)
        refine gy_l1 ht16 dX0_beginsFresh_88 ?_
        refine gx_bE e (fun _ g17 e => ?_)
        refine gx_bE e (fun _ g18 e => ?_)
        refine gx_iE e (fun c19 e => ?_) (fun c19 e => ?_)
        · refine gy_icmp_ne (tgt := 96) (gi_rgS g17) (gi_rgS g18) dX0_beginsFresh_89 (by decide) (fun z => absurd c19 z) (fun _ => ?_)
          refine gy_iconst dX0_beginsFresh_92 ?_
          refine gx_goto (tgt := 97) dX0_beginsFresh_93 (by decide) ?_
          refine gx_sub (ls2 := [(0, .ref v0), (1, .int (gI v1)), (2, .int (gI v2))]) [1, 2, 3] rfl ?_
          exact zb_X0_beginsFresh_97 hr14 e
        · refine gy_icmp_ne (tgt := 96) (gi_rgS g17) (gi_rgS g18) dX0_beginsFresh_89 (by decide) (fun _ => ?_) (fun z => absurd z c19)
          refine gy_iconst dX0_beginsFresh_96 ?_
          refine gx_sub (ls2 := [(0, .ref v0), (1, .int (gI v1)), (2, .int (gI v2))]) [1, 2, 3] rfl ?_
          exact zb_X0_beginsFresh_97 hr14 e
      · refine gy_if_eq (tgt := 82) (gi_rgS g13) dX0_beginsFresh_45 (by decide) (fun z => absurd z c14) (fun _ => ?_)
        refine gx_iload_n dX0_beginsFresh_48 rfl 0 rfl ?_
        refine gx_bE e (fun _ g22 e => ?_)
        refine gx_iE e (fun c23 e => ?_) (fun c23 e => ?_)
        · refine gy_if_ne (tgt := 56) (gi_rgS g22) dX0_beginsFresh_49 (by decide) (fun z => absurd c23 z) (fun _ => ?_)
          refine gy_iconst dX0_beginsFresh_52 ?_
          refine gx_goto (tgt := 57) dX0_beginsFresh_53 (by decide) ?_
          refine gx_sub (ls2 := [(0, .ref v0), (1, .int (gI v1)), (2, .int (gI v2))]) [1, 2, 3] rfl ?_
          exact zb_X0_beginsFresh_57 hr14 e
        · refine gy_if_ne (tgt := 56) (gi_rgS g22) dX0_beginsFresh_49 (by decide) (fun _ => ?_) (fun z => absurd z c23)
          refine gy_iconst dX0_beginsFresh_56 ?_
          refine gx_sub (ls2 := [(0, .ref v0), (1, .int (gI v1)), (2, .int (gI v2))]) [1, 2, 3] rfl ?_
          exact zb_X0_beginsFresh_57 hr14 e
def l_X0_beginsFresh_14 (n : Nat)  : Nat → Nat → Int → Int → gi_H → Option (Int)
  | 0, _, _, _, _ => none
  | k + 1, v0, v1, v2, h => b_X0_beginsFresh_14 n  (l_X0_beginsFresh_14 n  k) v0 v1 v2 h
theorem zl_X0_beginsFresh_14 {al : Bool} {n : Nat}  {res : Int}  : ∀ (k : Nat) (v0 : Nat) (v1 : Int) (v2 : Int) (h : gi_H), l_X0_beginsFresh_14 n  k v0 v1 v2 h = some res → gx_Z mX0_beginsFresh al al 0 0 14 [(0, .ref v0), (1, .int (gI v1)), (2, .int (gI v2))] [] (gi_cv h) (.inl (some (.int (gI res)))) (gi_cv h)
  | 0, _, _, _, _, e => gx_0E e
  | k + 1, _, _, _, _, e => zb_X0_beginsFresh_14 (n := n)  (zl_X0_beginsFresh_14  k) e
set_option maxRecDepth 100000 in
def f_X0_beginsFresh (n : Nat) (v0 : Nat) (v1 : Int) (h : gi_H) : Option (Int) :=
  Option.bind (gi_rg v1) fun _ => if v1 < 0 then (some (0 : Int)) else (if v1 < (80 : Int) then (l_X0_beginsFresh_14 n  n v0 v1 (0 : Int) h) else (some (0 : Int)))
set_option maxRecDepth 100000 in
theorem z_X0_beginsFresh {al : Bool} {n : Nat} {v0 : Nat} {v1 : Int} {h : gi_H} {res : Int} (e : f_X0_beginsFresh n v0 v1 h = some res) : gx_Cw mX0_beginsFresh al [.ref v0, .int (gI v1)] (gi_cv h) (.inl (some (.int (gI res)))) (gi_cv h) := by
  refine gx_enter (by decide +kernel) rfl (Nat.le_of_ble_eq_true rfl) ?_
  show gx_Z mX0_beginsFresh al al 0 0 0 [(0, .ref v0), (1, .int (gI v1))] [] (gi_cv h) (.inl (some (.int (gI res)))) (gi_cv h)
  refine gx_iload_n dX0_beginsFresh_0 rfl 1 rfl ?_
  refine gx_bE e (fun _ g1 e => ?_)
  refine gx_iE e (fun c2 e => ?_) (fun c2 e => ?_)
  · refine gy_if_lt (tgt := 10) (gi_rgS g1) dX0_beginsFresh_1 (by decide) (fun _ => ?_) (fun z => absurd c2 z)
    refine gy_iconst dX0_beginsFresh_10 ?_
    cases e
    exact gx_zret (by decide +kernel) dX0_beginsFresh_11 rfl ⟨Nat.le_of_ble_eq_true rfl, Nat.le_of_ble_eq_true rfl⟩ (fun z => z)
  · refine gy_if_lt (tgt := 10) (gi_rgS g1) dX0_beginsFresh_1 (by decide) (fun z => absurd z c2) (fun _ => ?_)
    refine gx_iload_n dX0_beginsFresh_4 rfl 1 rfl ?_
    refine gy_bipush dX0_beginsFresh_5 gcb_80 ?_
    refine gx_iE e (fun c3 e => ?_) (fun c3 e => ?_)
    · refine gy_icmp_lt (tgt := 12) (gi_rgS g1) (by decide) dX0_beginsFresh_7 (by decide) (fun _ => ?_) (fun z => absurd c3 z)
      refine gy_iconst dX0_beginsFresh_12 ?_
      refine gx_istore_n (ls2 := [(2, .int (gI (0 : Int))), (0, .ref v0), (1, .int (gI v1))]) dX0_beginsFresh_13 rfl (Nat.le_of_ble_eq_true rfl) rfl ?_
      refine gx_sub (ls2 := [(0, .ref v0), (1, .int (gI v1)), (2, .int (gI (0 : Int)))]) [1, 2, 0] rfl ?_
      exact zl_X0_beginsFresh_14  n _ _ _ _ e
    · refine gy_icmp_lt (tgt := 12) (gi_rgS g1) (by decide) dX0_beginsFresh_7 (by decide) (fun z => absurd z c3) (fun _ => ?_)
      refine gy_iconst dX0_beginsFresh_10 ?_
      cases e
      exact gx_zret (by decide +kernel) dX0_beginsFresh_11 rfl ⟨Nat.le_of_ble_eq_true rfl, Nat.le_of_ble_eq_true rfl⟩ (fun z => z)
/-! X0_findState  -/
set_option maxRecDepth 100000 in
def b_X0_findState_36 (n : Nat) (r2 : Nat → Int → Int → gi_H → Option (Int)) (v0 : Nat) (v1 : Int) (v2 : Int)  (h : gi_H) : Option (Int) :=
  gx_nm (v2 + (1 : Int)) fun t15 => r2 v0 v1 t15 h
set_option maxRecDepth 100000 in
theorem zb_X0_findState_36 {al : Bool} {n : Nat} {r2 : Nat → Int → Int → gi_H → Option (Int)} {res : Int} (hr2 : ∀ (x0 : Nat) (x1 : Int) (x2 : Int) (hh : gi_H), r2 x0 x1 x2 hh = some res → gx_Z mX0_findState al al 0 0 2 [(0, .ref x0), (1, .int (gI x1)), (2, .int (gI x2))] [] (gi_cv hh) (.inl (some (.int (gI res)))) (gi_cv hh)) {v0 : Nat} {v1 : Int} {v2 : Int}  {h : gi_H} (e : b_X0_findState_36 n r2 v0 v1 v2 h = some res) : gx_Z mX0_findState al al 0 0 36 [(0, .ref v0), (1, .int (gI v1)), (2, .int (gI v2))] [] (gi_cv h) (.inl (some (.int (gI res)))) (gi_cv h) := by
  refine gx_nE e (fun t15 ht15 e => ?_)
  refine gy_iinc (v := t15) (ls2 := [(2, .int (gI t15)), (0, .ref v0), (1, .int (gI v1))]) dX0_findState_36 2 rfl ht15 (Nat.le_of_ble_eq_true rfl) rfl ?_
  refine gx_goto (tgt := 2) dX0_findState_39 (by decide) ?_
  refine gx_sub (ls2 := [(0, .ref v0), (1, .int (gI v1)), (2, .int (gI t15))]) [1, 2, 0] rfl ?_
  exact hr2 _ _ _ _ e
set_option maxRecDepth 100000 in
def b_X0_findState_2 (n : Nat) (r2 : Nat → Int → Int → gi_H → Option (Int)) (v0 : Nat) (v1 : Int) (v2 : Int)  (h : gi_H) : Option (Int) :=
  Option.bind (gi_gI h v0 0 4) fun t1 => Option.bind (gi_rg v2) fun _ => Option.bind (gi_rg t1) fun _ => if t1 ≤ v2 then (some (-1 : Int)) else (if (80 : Int) ≤ v2 then (some (-1 : Int)) else (Option.bind (gi_gR h v0 0 7) fun t6 => Option.bind (gi_aI h 1 t6 v2) fun t7 => Option.bind (gi_rg t7) fun _ => Option.bind (gi_rg v1) fun _ => if t7 = v1 then (Option.bind (gi_is h v0 0) fun _ => Option.bind (f_X0_beginsFresh n v0 v2 h) fun q12 => Option.bind (gi_rg q12) fun _ => if q12 = 0 then (b_X0_findState_36 n r2 v0 v1 v2 h) else (some v2)) else (b_X0_findState_36 n r2 v0 v1 v2 h)))
set_option maxRecDepth 100000 in
theorem zb_X0_findState_2 {al : Bool} {n : Nat} {r2 : Nat → Int → Int → gi_H → Option (Int)} {res : Int} (hr2 : ∀ (x0 : Nat) (x1 : Int) (x2 : Int) (hh : gi_H), r2 x0 x1 x2 hh = some res → gx_Z mX0_findState al al 0 0 2 [(0, .ref x0), (1, .int (gI x1)), (2, .int (gI x2))] [] (gi_cv hh) (.inl (some (.int (gI res)))) (gi_cv hh)) {v0 : Nat} {v1 : Int} {v2 : Int}  {h : gi_H} (e : b_X0_findState_2 n r2 v0 v1 v2 h = some res) : gx_Z mX0_findState al al 0 0 2 [(0, .ref v0), (1, .int (gI v1)), (2, .int (gI v2))] [] (gi_cv h) (.inl (some (.int (gI res)))) (gi_cv h) := by
  refine gx_iload_n dX0_findState_2 rfl 2 rfl ?_
  refine gx_aload_n dX0_findState_3 rfl 0 rfl ?_
  refine gx_bE e (fun t1 ht1 e => ?_)
  refine gy_fI ht1 dX0_findState_4 gf_RX0_42_0_4 (by decide) gkN_0_4 gkR_0_4 ?_
  refine gx_bE e (fun _ g2 e => ?_)
  refine gx_bE e (fun _ g3 e => ?_)
  refine gx_iE e (fun c4 e => ?_) (fun c4 e => ?_)
  · refine gy_icmp_ge (tgt := 42) (gi_rgS g2) (gi_rgS g3) dX0_findState_7 (by decide) (fun _ => ?_) (fun z => absurd c4 z)
    refine gy_iconst dX0_findState_42 ?_
    cases e
    exact gx_iret dX0_findState_43 rfl ⟨Nat.le_of_ble_eq_true rfl, Nat.le_of_ble_eq_true rfl⟩ (fun z => z)
  · refine gy_icmp_ge (tgt := 42) (gi_rgS g2) (gi_rgS g3) dX0_findState_7 (by decide) (fun z => absurd z c4) (fun _ => ?_)
    refine gx_iload_n dX0_findState_10 rfl 2 rfl ?_
    refine gy_bipush dX0_findState_11 gcb_80 ?_
    refine gx_iE e (fun c5 e => ?_) (fun c5 e => ?_)
    · refine gy_icmp_ge (tgt := 42) (gi_rgS g2) (by decide) dX0_findState_13 (by decide) (fun _ => ?_) (fun z => absurd c5 z)
      refine gy_iconst dX0_findState_42 ?_
      cases e
      exact gx_iret dX0_findState_43 rfl ⟨Nat.le_of_ble_eq_true rfl, Nat.le_of_ble_eq_true rfl⟩ (fun z => z)
    · refine gy_icmp_ge (tgt := 42) (gi_rgS g2) (by decide) dX0_findState_13 (by decide) (fun z => absurd z c5) (fun _ => ?_)
      refine gx_aload_n dX0_findState_16 rfl 0 rfl ?_
      refine gx_bE e (fun t6 ht6 e => ?_)
      refine gy_fR ht6 dX0_findState_17 gf_RX0_18_0_7 (by decide) gkN_0_7 gkR_0_7 ?_
      refine gx_iload_n dX0_findState_20 rfl 2 rfl ?_
      refine gx_bE e (fun t7 ht7 e => ?_)
      refine gy_l1 ht7 dX0_findState_21 ?_
      refine gx_iload_n dX0_findState_22 rfl 1 rfl ?_
      refine gx_bE e (fun _ g8 e => ?_)
      refine gx_bE e (fun _ g9 e => ?_)
      refine gx_iE e (fun c10 e => ?_) (fun c10 e => ?_)
      · refine gy_icmp_ne (tgt := 36) (gi_rgS g8) (gi_rgS g9) dX0_findState_23 (by decide) (fun z => absurd c10 z) (fun _ => ?_)
        refine gx_aload_n dX0_findState_26 rfl 0 rfl ?_
        refine gx_iload_n dX0_findState_27 rfl 2 rfl ?_
        refine gx_bE e (fun _ hu11 e => ?_)
        refine gx_bE e (fun q12 hq12 e => ?_)
        refine gx_callV (n := 1) (st := []) (As := [.int (gI v2)]) (b := v0) dX0_findState_28 (z_X0_beginsFresh hq12) rfl ⟨rfl, gw_cw_X0_beginsFresh, gw_7, gp_X0_beginsFresh, ⟨Nat.le_of_ble_eq_true rfl, Nat.le_of_ble_eq_true rfl⟩⟩ (gi_isS hu11) (by decide) gw_1035 gw_1037 gs_34 rfl ⟨Nat.le_of_ble_eq_true rfl, Nat.le_of_ble_eq_true rfl⟩ (Nat.le_of_ble_eq_true rfl) (gy_k1 (x := .int (gI q12)) (kc2 := 0) (ks2 := 0) ⟨rfl, rfl⟩ ?_) gy_kn
        refine gx_bE e (fun _ g13 e => ?_)
        refine gx_iE e (fun c14 e => ?_) (fun c14 e => ?_)
        · refine gy_if_eq (tgt := 36) (gi_rgS g13) dX0_findState_31 (by decide) (fun _ => ?_) (fun z => absurd c14 z)
          exact zb_X0_findState_36 hr2 e
        · refine gy_if_eq (tgt := 36) (gi_rgS g13) dX0_findState_31 (by decide) (fun z => absurd z c14) (fun _ => ?_)
          refine gx_iload_n dX0_findState_34 rfl 2 rfl ?_
          cases e
          exact gx_iret dX0_findState_35 rfl ⟨Nat.le_of_ble_eq_true rfl, Nat.le_of_ble_eq_true rfl⟩ (fun z => z)
      · refine gy_icmp_ne (tgt := 36) (gi_rgS g8) (gi_rgS g9) dX0_findState_23 (by decide) (fun _ => ?_) (fun z => absurd z c10)
        exact zb_X0_findState_36 hr2 e
def l_X0_findState_2 (n : Nat)  : Nat → Nat → Int → Int → gi_H → Option (Int)
  | 0, _, _, _, _ => none
  | k + 1, v0, v1, v2, h => b_X0_findState_2 n  (l_X0_findState_2 n  k) v0 v1 v2 h
theorem zl_X0_findState_2 {al : Bool} {n : Nat}  {res : Int}  : ∀ (k : Nat) (v0 : Nat) (v1 : Int) (v2 : Int) (h : gi_H), l_X0_findState_2 n  k v0 v1 v2 h = some res → gx_Z mX0_findState al al 0 0 2 [(0, .ref v0), (1, .int (gI v1)), (2, .int (gI v2))] [] (gi_cv h) (.inl (some (.int (gI res)))) (gi_cv h)
  | 0, _, _, _, _, e => gx_0E e
  | k + 1, _, _, _, _, e => zb_X0_findState_2 (n := n)  (zl_X0_findState_2  k) e
set_option maxRecDepth 100000 in
def f_X0_findState (n : Nat) (v0 : Nat) (v1 : Int) (h : gi_H) : Option (Int) :=
  l_X0_findState_2 n  n v0 v1 (0 : Int) h
set_option maxRecDepth 100000 in
theorem z_X0_findState {al : Bool} {n : Nat} {v0 : Nat} {v1 : Int} {h : gi_H} {res : Int} (e : f_X0_findState n v0 v1 h = some res) : gx_Cw mX0_findState al [.ref v0, .int (gI v1)] (gi_cv h) (.inl (some (.int (gI res)))) (gi_cv h) := by
  refine gx_enter (by decide +kernel) rfl (Nat.le_of_ble_eq_true rfl) ?_
  show gx_Z mX0_findState al al 0 0 0 [(0, .ref v0), (1, .int (gI v1))] [] (gi_cv h) (.inl (some (.int (gI res)))) (gi_cv h)
  refine gy_iconst dX0_findState_0 ?_
  refine gx_istore_n (ls2 := [(2, .int (gI (0 : Int))), (0, .ref v0), (1, .int (gI v1))]) dX0_findState_1 rfl (Nat.le_of_ble_eq_true rfl) rfl ?_
  refine gx_sub (ls2 := [(0, .ref v0), (1, .int (gI v1)), (2, .int (gI (0 : Int)))]) [1, 2, 0] rfl ?_
  exact zl_X0_findState_2  n _ _ _ _ e
