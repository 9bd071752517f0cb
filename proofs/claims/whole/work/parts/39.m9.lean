/-! X12_steps  -/
set_option maxRecDepth 100000 in
def b_X12_steps_151 (n : Nat) (r32 : Nat → Nat → Int → Int → Int → Int → gi_H → Option (Int × gi_H)) (v0 : Nat) (v1 : Nat) (v2 : Int) (v3 : Int) (v4 : Int) (v5 : Int)  (h : gi_H) : Option (Int × gi_H) :=
  gx_nm (v5 + (1 : Int)) fun t22 => r32 v0 v1 v2 v3 v4 t22 h
set_option maxRecDepth 100000 in
theorem zb_X12_steps_151 {al : Bool} {n : Nat} {r32 : Nat → Nat → Int → Int → Int → Int → gi_H → Option (Int × gi_H)} {res : Int} {h1 : gi_H} (hr32 : ∀ (x0 : Nat) (x1 : Nat) (x2 : Int) (x3 : Int) (x4 : Int) (x5 : Int) (hh : gi_H), r32 x0 x1 x2 x3 x4 x5 hh = some (res, h1) → gx_Z mX12_steps al al 0 0 32 [(0, .ref x0), (1, .ref x1), (2, .int (gI x2)), (3, .int (gI x3)), (4, .int (gI x4)), (5, .int (gI x5))] [] (gi_cv hh) (.inl (some (.int (gI res)))) (gi_cv h1)) {v0 : Nat} {v1 : Nat} {v2 : Int} {v3 : Int} {v4 : Int} {v5 : Int}  {h : gi_H} (e : b_X12_steps_151 n r32 v0 v1 v2 v3 v4 v5 h = some (res, h1)) : gx_Z mX12_steps al al 0 0 151 [(0, .ref v0), (1, .ref v1), (2, .int (gI v2)), (3, .int (gI v3)), (4, .int (gI v4)), (5, .int (gI v5))] [] (gi_cv h) (.inl (some (.int (gI res)))) (gi_cv h1) := by
  refine gx_nE e (fun t22 ht22 e => ?_)
  refine gy_iinc (v := t22) (ls2 := [(5, .int (gI t22)), (0, .ref v0), (1, .ref v1), (2, .int (gI v2)), (3, .int (gI v3)), (4, .int (gI v4))]) dX12_steps_151 5 rfl ht22 (Nat.le_of_ble_eq_true rfl) rfl ?_
  refine gx_goto (tgt := 32) dX12_steps_154 (by decide) ?_
  refine gx_sub (ls2 := [(0, .ref v0), (1, .ref v1), (2, .int (gI v2)), (3, .int (gI v3)), (4, .int (gI v4)), (5, .int (gI t22))]) [1, 2, 3, 4, 5, 0] rfl ?_
  exact hr32 _ _ _ _ _ _ _ e
set_option maxRecDepth 100000 in
def b_X12_steps_145 (n : Nat) (r32 : Nat → Nat → Int → Int → Int → Int → gi_H → Option (Int × gi_H)) (r72 : Nat → Nat → Int → Int → Int → Int → Int → Int → gi_H → Option (Int × gi_H)) (v0 : Nat) (v1 : Nat) (v2 : Int) (v3 : Int) (v4 : Int) (v5 : Int) (v6 : Int) (v7 : Int)  (h : gi_H) : Option (Int × gi_H) :=
  gx_nm (v7 + (1 : Int)) fun t28 => r72 v0 v1 v2 v3 v4 v5 v6 t28 h
set_option maxRecDepth 100000 in
theorem zb_X12_steps_145 {al : Bool} {n : Nat} {r32 : Nat → Nat → Int → Int → Int → Int → gi_H → Option (Int × gi_H)} {r72 : Nat → Nat → Int → Int → Int → Int → Int → Int → gi_H → Option (Int × gi_H)} {res : Int} {h1 : gi_H} (hr32 : ∀ (x0 : Nat) (x1 : Nat) (x2 : Int) (x3 : Int) (x4 : Int) (x5 : Int) (hh : gi_H), r32 x0 x1 x2 x3 x4 x5 hh = some (res, h1) → gx_Z mX12_steps al al 0 0 32 [(0, .ref x0), (1, .ref x1), (2, .int (gI x2)), (3, .int (gI x3)), (4, .int (gI x4)), (5, .int (gI x5))] [] (gi_cv hh) (.inl (some (.int (gI res)))) (gi_cv h1)) (hr72 : ∀ (x0 : Nat) (x1 : Nat) (x2 : Int) (x3 : Int) (x4 : Int) (x5 : Int) (x6 : Int) (x7 : Int) (hh : gi_H), r72 x0 x1 x2 x3 x4 x5 x6 x7 hh = some (res, h1) → gx_Z mX12_steps al al 0 0 72 [(0, .ref x0), (1, .ref x1), (2, .int (gI x2)), (3, .int (gI x3)), (4, .int (gI x4)), (5, .int (gI x5)), (6, .int (gI x6)), (7, .int (gI x7))] [] (gi_cv hh) (.inl (some (.int (gI res)))) (gi_cv h1)) {v0 : Nat} {v1 : Nat} {v2 : Int} {v3 : Int} {v4 : Int} {v5 : Int} {v6 : Int} {v7 : Int}  {h : gi_H} (e : b_X12_steps_145 n r32 r72 v0 v1 v2 v3 v4 v5 v6 v7 h = some (res, h1)) : gx_Z mX12_steps al al 0 0 145 [(0, .ref v0), (1, .ref v1), (2, .int (gI v2)), (3, .int (gI v3)), (4, .int (gI v4)), (5, .int (gI v5)), (6, .int (gI v6)), (7, .int (gI v7))] [] (gi_cv h) (.inl (some (.int (gI res)))) (gi_cv h1) := by
  refine gx_nE e (fun t28 ht28 e => ?_)
  refine gy_iinc (v := t28) (ls2 := [(7, .int (gI t28)), (0, .ref v0), (1, .ref v1), (2, .int (gI v2)), (3, .int (gI v3)), (4, .int (gI v4)), (5, .int (gI v5)), (6, .int (gI v6))]) dX12_steps_145 7 rfl ht28 (Nat.le_of_ble_eq_true rfl) rfl ?_
  refine gx_goto (tgt := 72) dX12_steps_148 (by decide) ?_
  refine gx_sub (ls2 := [(0, .ref v0), (1, .ref v1), (2, .int (gI v2)), (3, .int (gI v3)), (4, .int (gI v4)), (5, .int (gI v5)), (6, .int (gI v6)), (7, .int (gI t28))]) [1, 2, 3, 4, 5, 6, 7, 0] rfl ?_
  exact hr72 _ _ _ _ _ _ _ _ _ e
set_option maxRecDepth 100000 in
def b_X12_steps_72 (n : Nat) (r32 : Nat → Nat → Int → Int → Int → Int → gi_H → Option (Int × gi_H)) (r72 : Nat → Nat → Int → Int → Int → Int → Int → Int → gi_H → Option (Int × gi_H)) (v0 : Nat) (v1 : Nat) (v2 : Int) (v3 : Int) (v4 : Int) (v5 : Int) (v6 : Int) (v7 : Int)  (h : gi_H) : Option (Int × gi_H) :=
  Option.bind (gi_is h v0 10) fun _ => Option.bind (f_X12_sizeOf v0 v6 h) fun q18 => Option.bind (gi_rg v7) fun _ => Option.bind (gi_rg q18) fun _ => if q18 ≤ v7 then (b_X12_steps_151 n r32 v0 v1 v2 v3 v4 v5 h) else (Option.bind (gi_gR h v0 10 24) fun t23 => Option.bind (gi_aI h 1 t23 v6) fun t24 => Option.bind (gi_aI h 1 v1 ((v2 + t24) + v7)) fun t25 => Option.bind (gi_rg (gi_and t25 (512 : Int))) fun _ => if (gi_and t25 (512 : Int)) = 0 then (b_X12_steps_145 n r32 r72 v0 v1 v2 v3 v4 v5 v6 v7 h) else (Option.bind (gi_is h v0 10) fun _ => Option.bind (f_X12_symbol v0 v6 v7 h) fun q30 => Option.bind (f_X12_index q30 h) fun q31 => Option.bind (gi_rg q31) fun _ => Option.bind (gi_rg v3) fun _ => if q31 = v3 then (Option.bind (gi_gR h v0 10 26) fun t35 => Option.bind (gi_gR h v0 10 24) fun t36 => Option.bind (gi_aI h 1 t36 v6) fun t37 => Option.bind (gi_s1 h t35 ((t37 + v7) + (1 : Int)) t25) fun h38 => b_X12_steps_145 n r32 r72 v0 v1 v2 v3 (1 : Int) v5 v6 v7 h38) else (b_X12_steps_145 n r32 r72 v0 v1 v2 v3 v4 v5 v6 v7 h)))
set_option maxRecDepth 100000 in
theorem zb_X12_steps_72 {al : Bool} {n : Nat} {r32 : Nat → Nat → Int → Int → Int → Int → gi_H → Option (Int × gi_H)} {r72 : Nat → Nat → Int → Int → Int → Int → Int → Int → gi_H → Option (Int × gi_H)} {res : Int} {h1 : gi_H} (hr32 : ∀ (x0 : Nat) (x1 : Nat) (x2 : Int) (x3 : Int) (x4 : Int) (x5 : Int) (hh : gi_H), r32 x0 x1 x2 x3 x4 x5 hh = some (res, h1) → gx_Z mX12_steps al al 0 0 32 [(0, .ref x0), (1, .ref x1), (2, .int (gI x2)), (3, .int (gI x3)), (4, .int (gI x4)), (5, .int (gI x5))] [] (gi_cv hh) (.inl (some (.int (gI res)))) (gi_cv h1)) (hr72 : ∀ (x0 : Nat) (x1 : Nat) (x2 : Int) (x3 : Int) (x4 : Int) (x5 : Int) (x6 : Int) (x7 : Int) (hh : gi_H), r72 x0 x1 x2 x3 x4 x5 x6 x7 hh = some (res, h1) → gx_Z mX12_steps al al 0 0 72 [(0, .ref x0), (1, .ref x1), (2, .int (gI x2)), (3, .int (gI x3)), (4, .int (gI x4)), (5, .int (gI x5)), (6, .int (gI x6)), (7, .int (gI x7))] [] (gi_cv hh) (.inl (some (.int (gI res)))) (gi_cv h1)) {v0 : Nat} {v1 : Nat} {v2 : Int} {v3 : Int} {v4 : Int} {v5 : Int} {v6 : Int} {v7 : Int}  {h : gi_H} (e : b_X12_steps_72 n r32 r72 v0 v1 v2 v3 v4 v5 v6 v7 h = some (res, h1)) : gx_Z mX12_steps al al 0 0 72 [(0, .ref v0), (1, .ref v1), (2, .int (gI v2)), (3, .int (gI v3)), (4, .int (gI v4)), (5, .int (gI v5)), (6, .int (gI v6)), (7, .int (gI v7))] [] (gi_cv h) (.inl (some (.int (gI res)))) (gi_cv h1) := by
  refine gx_iload dX12_steps_72 7 rfl ?_
  refine gx_aload_n dX12_steps_74 rfl 0 rfl ?_
  refine gx_iload dX12_steps_75 6 rfl ?_
  refine gx_bE e (fun _ hu17 e => ?_)
  refine gx_bE e (fun q18 hq18 e => ?_)
  refine gx_callV (n := 1) (st := [.int (gI v7)]) (As := [.int (gI v6)]) (b := v0) dX12_steps_77 (z_X12_sizeOf hq18) rfl ⟨rfl, gw_cw_X12_sizeOf, gw_14, gp_X12_sizeOf, ⟨Nat.le_of_ble_eq_true rfl, Nat.le_of_ble_eq_true rfl⟩⟩ (gi_isS hu17) (by decide) gw_1579 gw_1581 gs_71 rfl ⟨Nat.le_of_ble_eq_true rfl, Nat.le_of_ble_eq_true rfl⟩ (Nat.le_of_ble_eq_true rfl) (gy_k1 (x := .int (gI q18)) (kc2 := 0) (ks2 := 0) ⟨rfl, rfl⟩ ?_) gy_kn
  refine gx_bE e (fun _ g19 e => ?_)
  refine gx_bE e (fun _ g20 e => ?_)
  refine gx_iE e (fun c21 e => ?_) (fun c21 e => ?_)
  · refine gy_icmp_ge (tgt := 151) (gi_rgS g19) (gi_rgS g20) dX12_steps_80 (by decide) (fun _ => ?_) (fun z => absurd c21 z)
    refine gx_sub (ls2 := [(0, .ref v0), (1, .ref v1), (2, .int (gI v2)), (3, .int (gI v3)), (4, .int (gI v4)), (5, .int (gI v5))]) [0, 1, 2, 3, 4, 5] rfl ?_
    exact zb_X12_steps_151 hr32 e
  · refine gy_icmp_ge (tgt := 151) (gi_rgS g19) (gi_rgS g20) dX12_steps_80 (by decide) (fun z => absurd z c21) (fun _ => ?_)
    refine gx_aload_n dX12_steps_83 rfl 1 rfl ?_
    refine gx_iload_n dX12_steps_84 rfl 2 rfl ?_
    refine gx_aload_n dX12_steps_85 rfl 0 rfl ?_
    refine gx_bE e (fun t23 ht23 e => ?_)
    refine gy_fR ht23 dX12_steps_86 gf_RX12_68_10_24 (by decide) gkN_10_24 gkR_10_24 ?_
    refine gx_iload dX12_steps_89 6 rfl ?_
    refine gx_bE e (fun t24 ht24 e => ?_)
    refine gy_l1 ht24 dX12_steps_91 ?_
    refine gy_iadd dX12_steps_92 ?_
    refine gx_iload dX12_steps_93 7 rfl ?_
    refine gy_iadd dX12_steps_95 ?_
    refine gx_bE e (fun t25 ht25 e => ?_)
    refine gy_l1 ht25 dX12_steps_96 ?_
    refine gx_istore (ls2 := [(8, .int (gI t25)), (0, .ref v0), (1, .ref v1), (2, .int (gI v2)), (3, .int (gI v3)), (4, .int (gI v4)), (5, .int (gI v5)), (6, .int (gI v6)), (7, .int (gI v7))]) dX12_steps_97 (Nat.le_of_ble_eq_true rfl) rfl ?_
    refine gx_iload dX12_steps_99 0 rfl ?_
    refine gy_sipush dX12_steps_101 gcs_512 ?_
    refine gy_iand dX12_steps_104 ?_
    refine gx_bE e (fun _ g26 e => ?_)
    refine gx_iE e (fun c27 e => ?_) (fun c27 e => ?_)
    · refine gy_if_eq (tgt := 145) (gi_rgS g26) dX12_steps_105 (by decide) (fun _ => ?_) (fun z => absurd c27 z)
      refine gx_sub (ls2 := [(0, .ref v0), (1, .ref v1), (2, .int (gI v2)), (3, .int (gI v3)), (4, .int (gI v4)), (5, .int (gI v5)), (6, .int (gI v6)), (7, .int (gI v7))]) [1, 2, 3, 4, 5, 6, 7, 8] rfl ?_
      exact zb_X12_steps_145 hr32 hr72 e
    · refine gy_if_eq (tgt := 145) (gi_rgS g26) dX12_steps_105 (by decide) (fun z => absurd z c27) (fun _ => ?_)
      refine gx_aload_n dX12_steps_108 rfl 1 rfl ?_
      refine gx_iload dX12_steps_109 7 rfl ?_
      refine gx_iload dX12_steps_111 8 rfl ?_
      refine gx_bE e (fun _ hu29 e => ?_)
      refine gx_bE e (fun q30 hq30 e => ?_)
      refine gx_callV (n := 2) (st := []) (As := [.int (gI v6), .int (gI v7)]) (b := v0) dX12_steps_113 (z_X12_symbol hq30) rfl ⟨rfl, gw_cw_X12_symbol, gw_14, gp_X12_symbol, ⟨Nat.le_of_ble_eq_true rfl, Nat.le_of_ble_eq_true rfl⟩⟩ (gi_isS hu29) (by decide) gw_1575 gw_1577 gs_70 rfl ⟨Nat.le_of_ble_eq_true rfl, Nat.le_of_ble_eq_true rfl⟩ (Nat.le_of_ble_eq_true rfl) (gy_k1 (x := .int (gI q30)) (kc2 := 0) (ks2 := 0) ⟨rfl, rfl⟩ ?_) gy_kn
      refine gx_bE e (fun q31 hq31 e => ?_)
      refine gx_callS (n := 1) (st := []) (As := [.int (gI q30)]) dX12_steps_116 (z_X12_index hq31) rfl ⟨rfl, gw_cw_X12_index, gw_14, gp_X12_index, ⟨Nat.le_of_ble_eq_true rfl, Nat.le_of_ble_eq_true rfl⟩⟩ gw_1684 gw_1685 ⟨Nat.le_of_ble_eq_true rfl, Nat.le_of_ble_eq_true rfl⟩ (Nat.le_of_ble_eq_true rfl) (gy_k1 (x := .int (gI q31)) (kc2 := 0) (ks2 := 0) ⟨rfl, rfl⟩ ?_) gy_kn
      refine gx_iload_n dX12_steps_119 rfl 4 rfl ?_
      refine gx_bE e (fun _ g32 e => ?_)
      refine gx_bE e (fun _ g33 e => ?_)
      refine gx_iE e (fun c34 e => ?_) (fun c34 e => ?_)
      · refine gy_icmp_ne (tgt := 145) (gi_rgS g32) (gi_rgS g33) dX12_steps_120 (by decide) (fun z => absurd c34 z) (fun _ => ?_)
        refine gx_aload_n dX12_steps_123 rfl 1 rfl ?_
        refine gx_bE e (fun t35 ht35 e => ?_)
        refine gy_fR ht35 dX12_steps_124 gf_RX12_71_10_26 (by decide) gkN_10_26 gkR_10_26 ?_
        refine gx_aload_n dX12_steps_127 rfl 1 rfl ?_
        refine gx_bE e (fun t36 ht36 e => ?_)
        refine gy_fR ht36 dX12_steps_128 gf_RX12_68_10_24 (by decide) gkN_10_24 gkR_10_24 ?_
        refine gx_iload dX12_steps_131 7 rfl ?_
        refine gx_bE e (fun t37 ht37 e => ?_)
        refine gy_l1 ht37 dX12_steps_133 ?_
        refine gx_iload dX12_steps_134 8 rfl ?_
        refine gy_iadd dX12_steps_136 ?_
        refine gy_iconst dX12_steps_137 ?_
        refine gy_iadd dX12_steps_138 ?_
        refine gx_iload dX12_steps_139 0 rfl ?_
        refine gx_bE e (fun h38 hh38 e => ?_)
        refine gy_t1 hh38 dX12_steps_141 ?_
        refine gy_iconst dX12_steps_142 ?_
        refine gx_istore (ls2 := [(4, .int (gI (1 : Int))), (8, .int (gI t25)), (0, .ref v0), (1, .ref v1), (2, .int (gI v2)), (3, .int (gI v3)), (5, .int (gI v5)), (6, .int (gI v6)), (7, .int (gI v7))]) dX12_steps_143 (Nat.le_of_ble_eq_true rfl) rfl ?_
        refine gx_sub (ls2 := [(0, .ref v0), (1, .ref v1), (2, .int (gI v2)), (3, .int (gI v3)), (4, .int (gI (1 : Int))), (5, .int (gI v5)), (6, .int (gI v6)), (7, .int (gI v7))]) [2, 3, 4, 5, 0, 6, 7, 8] rfl ?_
        exact zb_X12_steps_145 hr32 hr72 e
      · refine gy_icmp_ne (tgt := 145) (gi_rgS g32) (gi_rgS g33) dX12_steps_120 (by decide) (fun _ => ?_) (fun z => absurd z c34)
        refine gx_sub (ls2 := [(0, .ref v0), (1, .ref v1), (2, .int (gI v2)), (3, .int (gI v3)), (4, .int (gI v4)), (5, .int (gI v5)), (6, .int (gI v6)), (7, .int (gI v7))]) [1, 2, 3, 4, 5, 6, 7, 8] rfl ?_
        exact zb_X12_steps_145 hr32 hr72 e
def l_X12_steps_72 (n : Nat) (r32 : Nat → Nat → Int → Int → Int → Int → gi_H → Option (Int × gi_H)) : Nat → Nat → Nat → Int → Int → Int → Int → Int → Int → gi_H → Option (Int × gi_H)
  | 0, _, _, _, _, _, _, _, _, _ => none
  | k + 1, v0, v1, v2, v3, v4, v5, v6, v7, h => b_X12_steps_72 n r32 (l_X12_steps_72 n r32 k) v0 v1 v2 v3 v4 v5 v6 v7 h
theorem zl_X12_steps_72 {al : Bool} {n : Nat} {r32 : Nat → Nat → Int → Int → Int → Int → gi_H → Option (Int × gi_H)} {res : Int} {h1 : gi_H} (hr32 : ∀ (x0 : Nat) (x1 : Nat) (x2 : Int) (x3 : Int) (x4 : Int) (x5 : Int) (hh : gi_H), r32 x0 x1 x2 x3 x4 x5 hh = some (res, h1) → gx_Z mX12_steps al al 0 0 32 [(0, .ref x0), (1, .ref x1), (2, .int (gI x2)), (3, .int (gI x3)), (4, .int (gI x4)), (5, .int (gI x5))] [] (gi_cv hh) (.inl (some (.int (gI res)))) (gi_cv h1)) : ∀ (k : Nat) (v0 : Nat) (v1 : Nat) (v2 : Int) (v3 : Int) (v4 : Int) (v5 : Int) (v6 : Int) (v7 : Int) (h : gi_H), l_X12_steps_72 n r32 k v0 v1 v2 v3 v4 v5 v6 v7 h = some (res, h1) → gx_Z mX12_steps al al 0 0 72 [(0, .ref v0), (1, .ref v1), (2, .int (gI v2)), (3, .int (gI v3)), (4, .int (gI v4)), (5, .int (gI v5)), (6, .int (gI v6)), (7, .int (gI v7))] [] (gi_cv h) (.inl (some (.int (gI res)))) (gi_cv h1)
  | 0, _, _, _, _, _, _, _, _, _, e => gx_0E e
  | k + 1, _, _, _, _, _, _, _, _, _, e => zb_X12_steps_72 (n := n) hr32 (zl_X12_steps_72 hr32 k) e
set_option maxRecDepth 100000 in
def b_X12_steps_67 (n : Nat) (r32 : Nat → Nat → Int → Int → Int → Int → gi_H → Option (Int × gi_H)) (v0 : Nat) (v1 : Nat) (v2 : Int) (v3 : Int) (v4 : Int) (v5 : Int) (s0 : Int) (h : gi_H) : Option (Int × gi_H) :=
  l_X12_steps_72 n r32 n v0 v1 v2 v3 v4 v5 s0 (0 : Int) h
set_option maxRecDepth 100000 in
theorem zb_X12_steps_67 {al : Bool} {n : Nat} {r32 : Nat → Nat → Int → Int → Int → Int → gi_H → Option (Int × gi_H)} {res : Int} {h1 : gi_H} (hr32 : ∀ (x0 : Nat) (x1 : Nat) (x2 : Int) (x3 : Int) (x4 : Int) (x5 : Int) (hh : gi_H), r32 x0 x1 x2 x3 x4 x5 hh = some (res, h1) → gx_Z mX12_steps al al 0 0 32 [(0, .ref x0), (1, .ref x1), (2, .int (gI x2)), (3, .int (gI x3)), (4, .int (gI x4)), (5, .int (gI x5))] [] (gi_cv hh) (.inl (some (.int (gI res)))) (gi_cv h1)) {v0 : Nat} {v1 : Nat} {v2 : Int} {v3 : Int} {v4 : Int} {v5 : Int} {s0 : Int} {h : gi_H} (e : b_X12_steps_67 n r32 v0 v1 v2 v3 v4 v5 s0 h = some (res, h1)) : gx_Z mX12_steps al al 0 0 67 [(0, .ref v0), (1, .ref v1), (2, .int (gI v2)), (3, .int (gI v3)), (4, .int (gI v4)), (5, .int (gI v5))] [.int (gI s0)] (gi_cv h) (.inl (some (.int (gI res)))) (gi_cv h1) := by
  refine gx_istore (ls2 := [(6, .int (gI s0)), (0, .ref v0), (1, .ref v1), (2, .int (gI v2)), (3, .int (gI v3)), (4, .int (gI v4)), (5, .int (gI v5))]) dX12_steps_67 (Nat.le_of_ble_eq_true rfl) rfl ?_
  refine gy_iconst dX12_steps_69 ?_
  refine gx_istore (ls2 := [(7, .int (gI (0 : Int))), (6, .int (gI s0)), (0, .ref v0), (1, .ref v1), (2, .int (gI v2)), (3, .int (gI v3)), (4, .int (gI v4)), (5, .int (gI v5))]) dX12_steps_70 (Nat.le_of_ble_eq_true rfl) rfl ?_
  refine gx_sub (ls2 := [(0, .ref v0), (1, .ref v1), (2, .int (gI v2)), (3, .int (gI v3)), (4, .int (gI v4)), (5, .int (gI v5)), (6, .int (gI s0)), (7, .int (gI (0 : Int)))]) [2, 3, 4, 5, 6, 7, 1, 0] rfl ?_
  exact zl_X12_steps_72 hr32 n _ _ _ _ _ _ _ _ _ e
set_option maxRecDepth 100000 in
def b_X12_steps_32 (n : Nat) (r32 : Nat → Nat → Int → Int → Int → Int → gi_H → Option (Int × gi_H)) (v0 : Nat) (v1 : Nat) (v2 : Int) (v3 : Int) (v4 : Int) (v5 : Int)  (h : gi_H) : Option (Int × gi_H) :=
  Option.bind (gi_gR h v0 10 3) fun t5 => Option.bind (gi_gI h v0 10 9) fun t6 => Option.bind (gi_aI h 1 t5 t6) fun t7 => Option.bind (gi_rg v5) fun _ => Option.bind (gi_rg t7) fun _ => if t7 < v5 then (Option.bind (gi_zo v4) fun _ => some (v4, h)) else (Option.bind (gi_gR h v0 10 3) fun t12 => Option.bind (gi_gI h v0 10 9) fun t13 => Option.bind (gi_aI h 1 t12 t13) fun t14 => Option.bind (gi_rg t14) fun _ => if v5 = t14 then (b_X12_steps_67 n r32 v0 v1 v2 v3 v4 v5 (24 : Int) h) else (b_X12_steps_67 n r32 v0 v1 v2 v3 v4 v5 v5 h))
set_option maxRecDepth 100000 in
theorem zb_X12_steps_32 {al : Bool} {n : Nat} {r32 : Nat → Nat → Int → Int → Int → Int → gi_H → Option (Int × gi_H)} {res : Int} {h1 : gi_H} (hr32 : ∀ (x0 : Nat) (x1 : Nat) (x2 : Int) (x3 : Int) (x4 : Int) (x5 : Int) (hh : gi_H), r32 x0 x1 x2 x3 x4 x5 hh = some (res, h1) → gx_Z mX12_steps al al 0 0 32 [(0, .ref x0), (1, .ref x1), (2, .int (gI x2)), (3, .int (gI x3)), (4, .int (gI x4)), (5, .int (gI x5))] [] (gi_cv hh) (.inl (some (.int (gI res)))) (gi_cv h1)) {v0 : Nat} {v1 : Nat} {v2 : Int} {v3 : Int} {v4 : Int} {v5 : Int}  {h : gi_H} (e : b_X12_steps_32 n r32 v0 v1 v2 v3 v4 v5 h = some (res, h1)) : gx_Z mX12_steps al al 0 0 32 [(0, .ref v0), (1, .ref v1), (2, .int (gI v2)), (3, .int (gI v3)), (4, .int (gI v4)), (5, .int (gI v5))] [] (gi_cv h) (.inl (some (.int (gI res)))) (gi_cv h1) := by
  refine gx_iload dX12_steps_32 5 rfl ?_
  refine gx_aload_n dX12_steps_34 rfl 0 rfl ?_
  refine gx_bE e (fun t5 ht5 e => ?_)
  refine gy_fR ht5 dX12_steps_35 gf_RX12_19_10_3 (by decide) gkN_10_3 gkR_10_3 ?_
  refine gx_aload_n dX12_steps_38 rfl 0 rfl ?_
  refine gx_bE e (fun t6 ht6 e => ?_)
  refine gy_fI ht6 dX12_steps_39 gf_RX12_139_10_9 (by decide) gkN_10_9 gkR_10_9 ?_
  refine gx_bE e (fun t7 ht7 e => ?_)
  refine gy_l1 ht7 dX12_steps_42 ?_
  refine gx_bE e (fun _ g8 e => ?_)
  refine gx_bE e (fun _ g9 e => ?_)
  refine gx_iE e (fun c10 e => ?_) (fun c10 e => ?_)
  · refine gy_icmp_gt (tgt := 157) (gi_rgS g8) (gi_rgS g9) dX12_steps_43 (by decide) (fun _ => ?_) (fun z => absurd c10 z)
    refine gx_iload dX12_steps_157 4 rfl ?_
    refine gx_bE e (fun _ hu11 e => ?_)
    cases e
    exact gx_zret (gi_zoS hu11) dX12_steps_159 rfl ⟨Nat.le_of_ble_eq_true rfl, Nat.le_of_ble_eq_true rfl⟩ (fun z => z)
  · refine gy_icmp_gt (tgt := 157) (gi_rgS g8) (gi_rgS g9) dX12_steps_43 (by decide) (fun z => absurd z c10) (fun _ => ?_)
    refine gx_iload dX12_steps_46 5 rfl ?_
    refine gx_aload_n dX12_steps_48 rfl 0 rfl ?_
    refine gx_bE e (fun t12 ht12 e => ?_)
    refine gy_fR ht12 dX12_steps_49 gf_RX12_19_10_3 (by decide) gkN_10_3 gkR_10_3 ?_
    refine gx_aload_n dX12_steps_52 rfl 0 rfl ?_
    refine gx_bE e (fun t13 ht13 e => ?_)
    refine gy_fI ht13 dX12_steps_53 gf_RX12_139_10_9 (by decide) gkN_10_9 gkR_10_9 ?_
    refine gx_bE e (fun t14 ht14 e => ?_)
    refine gy_l1 ht14 dX12_steps_56 ?_
    refine gx_bE e (fun _ g15 e => ?_)
    refine gx_iE e (fun c16 e => ?_) (fun c16 e => ?_)
    · refine gy_icmp_ne (tgt := 65) (gi_rgS g8) (gi_rgS g15) dX12_steps_57 (by decide) (fun z => absurd c16 z) (fun _ => ?_)
      refine gy_bipush dX12_steps_60 gcb_24 ?_
      refine gx_goto (tgt := 67) dX12_steps_62 (by decide) ?_
      exact zb_X12_steps_67 hr32 e
    · refine gy_icmp_ne (tgt := 65) (gi_rgS g8) (gi_rgS g15) dX12_steps_57 (by decide) (fun _ => ?_) (fun z => absurd z c16)
      refine gx_iload dX12_steps_65 5 rfl ?_
      exact zb_X12_steps_67 hr32 e
def l_X12_steps_32 (n : Nat)  : Nat → Nat → Nat → Int → Int → Int → Int → gi_H → Option (Int × gi_H)
  | 0, _, _, _, _, _, _, _ => none
  | k + 1, v0, v1, v2, v3, v4, v5, h => b_X12_steps_32 n  (l_X12_steps_32 n  k) v0 v1 v2 v3 v4 v5 h
theorem zl_X12_steps_32 {al : Bool} {n : Nat}  {res : Int} {h1 : gi_H}  : ∀ (k : Nat) (v0 : Nat) (v1 : Nat) (v2 : Int) (v3 : Int) (v4 : Int) (v5 : Int) (h : gi_H), l_X12_steps_32 n  k v0 v1 v2 v3 v4 v5 h = some (res, h1) → gx_Z mX12_steps al al 0 0 32 [(0, .ref v0), (1, .ref v1), (2, .int (gI v2)), (3, .int (gI v3)), (4, .int (gI v4)), (5, .int (gI v5))] [] (gi_cv h) (.inl (some (.int (gI res)))) (gi_cv h1)
  | 0, _, _, _, _, _, _, _, e => gx_0E e
  | k + 1, _, _, _, _, _, _, _, e => zb_X12_steps_32 (n := n)  (zl_X12_steps_32  k) e
set_option maxRecDepth 100000 in
def b_X12_steps_29 (n : Nat)  (v0 : Nat) (v1 : Nat) (v2 : Int) (v3 : Int) (v4 : Int)  (h : gi_H) : Option (Int × gi_H) :=
  l_X12_steps_32 n  n v0 v1 v2 v3 v4 (0 : Int) h
set_option maxRecDepth 100000 in
theorem zb_X12_steps_29 {al : Bool} {n : Nat}  {res : Int} {h1 : gi_H}  {v0 : Nat} {v1 : Nat} {v2 : Int} {v3 : Int} {v4 : Int}  {h : gi_H} (e : b_X12_steps_29 n v0 v1 v2 v3 v4 h = some (res, h1)) : gx_Z mX12_steps al al 0 0 29 [(0, .ref v0), (1, .ref v1), (2, .int (gI v2)), (3, .int (gI v3)), (4, .int (gI v4))] [] (gi_cv h) (.inl (some (.int (gI res)))) (gi_cv h1) := by
  refine gy_iconst dX12_steps_29 ?_
  refine gx_istore (ls2 := [(5, .int (gI (0 : Int))), (0, .ref v0), (1, .ref v1), (2, .int (gI v2)), (3, .int (gI v3)), (4, .int (gI v4))]) dX12_steps_30 (Nat.le_of_ble_eq_true rfl) rfl ?_
  refine gx_sub (ls2 := [(0, .ref v0), (1, .ref v1), (2, .int (gI v2)), (3, .int (gI v3)), (4, .int (gI v4)), (5, .int (gI (0 : Int)))]) [1, 2, 3, 4, 5, 0] rfl ?_
  exact zl_X12_steps_32  n _ _ _ _ _ _ _ e
set_option maxRecDepth 100000 in
def b_X12_steps_6 (n : Nat) (r6 : Nat → Nat → Int → Int → Int → Int → gi_H → Option (Int × gi_H)) (v0 : Nat) (v1 : Nat) (v2 : Int) (v3 : Int) (v4 : Int) (v5 : Int)  (h : gi_H) : Option (Int × gi_H) :=
  Option.bind (gi_gI h v0 10 25) fun t1 => Option.bind (gi_rg v5) fun _ => Option.bind (gi_rg t1) fun _ => if t1 ≤ v5 then (b_X12_steps_29 n  v0 v1 v2 v3 v4 h) else (Option.bind (gi_gR h v0 10 26) fun t39 => Option.bind (gi_s1 h t39 v5 (0 : Int)) fun h40 => gx_nm (v5 + (1 : Int)) fun t41 => r6 v0 v1 v2 v3 v4 t41 h40)
set_option maxRecDepth 100000 in
theorem zb_X12_steps_6 {al : Bool} {n : Nat} {r6 : Nat → Nat → Int → Int → Int → Int → gi_H → Option (Int × gi_H)} {res : Int} {h1 : gi_H} (hr6 : ∀ (x0 : Nat) (x1 : Nat) (x2 : Int) (x3 : Int) (x4 : Int) (x5 : Int) (hh : gi_H), r6 x0 x1 x2 x3 x4 x5 hh = some (res, h1) → gx_Z mX12_steps al al 0 0 6 [(0, .ref x0), (1, .ref x1), (2, .int (gI x2)), (3, .int (gI x3)), (4, .int (gI x4)), (5, .int (gI x5))] [] (gi_cv hh) (.inl (some (.int (gI res)))) (gi_cv h1)) {v0 : Nat} {v1 : Nat} {v2 : Int} {v3 : Int} {v4 : Int} {v5 : Int}  {h : gi_H} (e : b_X12_steps_6 n r6 v0 v1 v2 v3 v4 v5 h = some (res, h1)) : gx_Z mX12_steps al al 0 0 6 [(0, .ref v0), (1, .ref v1), (2, .int (gI v2)), (3, .int (gI v3)), (4, .int (gI v4)), (5, .int (gI v5))] [] (gi_cv h) (.inl (some (.int (gI res)))) (gi_cv h1) := by
  refine gx_iload dX12_steps_6 5 rfl ?_
  refine gx_aload_n dX12_steps_8 rfl 0 rfl ?_
  refine gx_bE e (fun t1 ht1 e => ?_)
  refine gy_fI ht1 dX12_steps_9 gf_RX12_221_10_25 (by decide) gkN_10_25 gkR_10_25 ?_
  refine gx_bE e (fun _ g2 e => ?_)
  refine gx_bE e (fun _ g3 e => ?_)
  refine gx_iE e (fun c4 e => ?_) (fun c4 e => ?_)
  · refine gy_icmp_ge (tgt := 29) (gi_rgS g2) (gi_rgS g3) dX12_steps_12 (by decide) (fun _ => ?_) (fun z => absurd c4 z)
    refine gx_sub (ls2 := [(0, .ref v0), (1, .ref v1), (2, .int (gI v2)), (3, .int (gI v3)), (4, .int (gI v4))]) [0, 1, 2, 3, 4] rfl ?_
    exact zb_X12_steps_29  e
  · refine gy_icmp_ge (tgt := 29) (gi_rgS g2) (gi_rgS g3) dX12_steps_12 (by decide) (fun z => absurd z c4) (fun _ => ?_)
    refine gx_aload_n dX12_steps_15 rfl 0 rfl ?_
    refine gx_bE e (fun t39 ht39 e => ?_)
    refine gy_fR ht39 dX12_steps_16 gf_RX12_71_10_26 (by decide) gkN_10_26 gkR_10_26 ?_
    refine gx_iload dX12_steps_19 5 rfl ?_
    refine gy_iconst dX12_steps_21 ?_
    refine gx_bE e (fun h40 hh40 e => ?_)
    refine gy_t1 hh40 dX12_steps_22 ?_
    refine gx_nE e (fun t41 ht41 e => ?_)
    refine gy_iinc (v := t41) (ls2 := [(5, .int (gI t41)), (0, .ref v0), (1, .ref v1), (2, .int (gI v2)), (3, .int (gI v3)), (4, .int (gI v4))]) dX12_steps_23 5 rfl ht41 (Nat.le_of_ble_eq_true rfl) rfl ?_
    refine gx_goto (tgt := 6) dX12_steps_26 (by decide) ?_
    refine gx_sub (ls2 := [(0, .ref v0), (1, .ref v1), (2, .int (gI v2)), (3, .int (gI v3)), (4, .int (gI v4)), (5, .int (gI t41))]) [1, 2, 3, 4, 5, 0] rfl ?_
    exact hr6 _ _ _ _ _ _ _ e
def l_X12_steps_6 (n : Nat)  : Nat → Nat → Nat → Int → Int → Int → Int → gi_H → Option (Int × gi_H)
  | 0, _, _, _, _, _, _, _ => none
  | k + 1, v0, v1, v2, v3, v4, v5, h => b_X12_steps_6 n  (l_X12_steps_6 n  k) v0 v1 v2 v3 v4 v5 h
theorem zl_X12_steps_6 {al : Bool} {n : Nat}  {res : Int} {h1 : gi_H}  : ∀ (k : Nat) (v0 : Nat) (v1 : Nat) (v2 : Int) (v3 : Int) (v4 : Int) (v5 : Int) (h : gi_H), l_X12_steps_6 n  k v0 v1 v2 v3 v4 v5 h = some (res, h1) → gx_Z mX12_steps al al 0 0 6 [(0, .ref v0), (1, .ref v1), (2, .int (gI v2)), (3, .int (gI v3)), (4, .int (gI v4)), (5, .int (gI v5))] [] (gi_cv h) (.inl (some (.int (gI res)))) (gi_cv h1)
  | 0, _, _, _, _, _, _, _, e => gx_0E e
  | k + 1, _, _, _, _, _, _, _, e => zb_X12_steps_6 (n := n)  (zl_X12_steps_6  k) e
set_option maxRecDepth 100000 in
def f_X12_steps (n : Nat) (v0 : Nat) (v1 : Nat) (v2 : Int) (v3 : Int) (h : gi_H) : Option (Int × gi_H) :=
  l_X12_steps_6 n  n v0 v1 v2 v3 (0 : Int) (0 : Int) h
set_option maxRecDepth 100000 in
theorem z_X12_steps {al : Bool} {n : Nat} {v0 : Nat} {v1 : Nat} {v2 : Int} {v3 : Int} {h : gi_H} {res : Int} {h1 : gi_H} (e : f_X12_steps n v0 v1 v2 v3 h = some (res, h1)) : gx_Cw mX12_steps al [.ref v0, .ref v1, .int (gI v2), .int (gI v3)] (gi_cv h) (.inl (some (.int (gI res)))) (gi_cv h1) := by
  refine gx_enter (by decide +kernel) rfl (Nat.le_of_ble_eq_true rfl) ?_
  show gx_Z mX12_steps al al 0 0 0 [(0, .ref v0), (1, .ref v1), (2, .int (gI v2)), (3, .int (gI v3))] [] (gi_cv h) (.inl (some (.int (gI res)))) (gi_cv h1)
  refine gy_iconst dX12_steps_0 ?_
  refine gx_istore (ls2 := [(4, .int (gI (0 : Int))), (0, .ref v0), (1, .ref v1), (2, .int (gI v2)), (3, .int (gI v3))]) dX12_steps_1 (Nat.le_of_ble_eq_true rfl) rfl ?_
  refine gy_iconst dX12_steps_3 ?_
  refine gx_istore (ls2 := [(5, .int (gI (0 : Int))), (4, .int (gI (0 : Int))), (0, .ref v0), (1, .ref v1), (2, .int (gI v2)), (3, .int (gI v3))]) dX12_steps_4 (Nat.le_of_ble_eq_true rfl) rfl ?_
  refine gx_sub (ls2 := [(0, .ref v0), (1, .ref v1), (2, .int (gI v2)), (3, .int (gI v3)), (4, .int (gI (0 : Int))), (5, .int (gI (0 : Int)))]) [2, 3, 4, 5, 1, 0] rfl ?_
  exact zl_X12_steps_6  n _ _ _ _ _ _ _ e
/-! X12_findState  -/
set_option maxRecDepth 100000 in
def b_X12_findState_84 (n : Nat) (r18 : Nat → Nat → Int → Int → Int → gi_H → Option (Int)) (v0 : Nat) (v1 : Nat) (v2 : Int) (v4 : Int) (v5 : Int) (v6 : Int)  (h : gi_H) : Option (Int) :=
  Option.bind (gi_rg v6) fun _ => if v6 = 0 then (gx_nm (v5 + (1 : Int)) fun t12 => r18 v0 v1 v2 v4 t12 h) else (some v5)
set_option maxRecDepth 100000 in
theorem zb_X12_findState_84 {al : Bool} {n : Nat} {r18 : Nat → Nat → Int → Int → Int → gi_H → Option (Int)} {res : Int} (hr18 : ∀ (x0 : Nat) (x1 : Nat) (x2 : Int) (x4 : Int) (x5 : Int) (hh : gi_H), r18 x0 x1 x2 x4 x5 hh = some res → gx_Z mX12_findState al al 0 0 18 [(0, .ref x0), (1, .ref x1), (2, .int (gI x2)), (4, .int (gI x4)), (5, .int (gI x5))] [] (gi_cv hh) (.inl (some (.int (gI res)))) (gi_cv hh)) {v0 : Nat} {v1 : Nat} {v2 : Int} {v4 : Int} {v5 : Int} {v6 : Int}  {h : gi_H} (e : b_X12_findState_84 n r18 v0 v1 v2 v4 v5 v6 h = some res) : gx_Z mX12_findState al al 0 0 84 [(0, .ref v0), (1, .ref v1), (2, .int (gI v2)), (4, .int (gI v4)), (5, .int (gI v5)), (6, .int (gI v6))] [] (gi_cv h) (.inl (some (.int (gI res)))) (gi_cv h) := by
  refine gx_iload dX12_findState_84 5 rfl ?_
  refine gx_bE e (fun _ g10 e => ?_)
  refine gx_iE e (fun c11 e => ?_) (fun c11 e => ?_)
  · refine gy_if_eq (tgt := 92) (gi_rgS g10) dX12_findState_86 (by decide) (fun _ => ?_) (fun z => absurd c11 z)
    refine gx_nE e (fun t12 ht12 e => ?_)
    refine gy_iinc (v := t12) (ls2 := [(5, .int (gI t12)), (0, .ref v0), (1, .ref v1), (2, .int (gI v2)), (4, .int (gI v4)), (6, .int (gI v6))]) dX12_findState_92 4 rfl ht12 (Nat.le_of_ble_eq_true rfl) rfl ?_
    refine gx_goto (tgt := 18) dX12_findState_95 (by decide) ?_
    refine gx_sub (ls2 := [(0, .ref v0), (1, .ref v1), (2, .int (gI v2)), (4, .int (gI v4)), (5, .int (gI t12))]) [1, 2, 3, 4, 0] rfl ?_
    exact hr18 _ _ _ _ _ _ e
  · refine gy_if_eq (tgt := 92) (gi_rgS g10) dX12_findState_86 (by decide) (fun z => absurd z c11) (fun _ => ?_)
    refine gx_iload dX12_findState_89 4 rfl ?_
    cases e
    exact gx_iret dX12_findState_91 rfl ⟨Nat.le_of_ble_eq_true rfl, Nat.le_of_ble_eq_true rfl⟩ (fun z => z)
set_option maxRecDepth 100000 in
def b_X12_findState_76 (n : Nat) (r18 : Nat → Nat → Int → Int → Int → gi_H → Option (Int)) (r30 : Nat → Nat → Int → Int → Int → Int → Int → gi_H → Option (Int)) (v0 : Nat) (v1 : Nat) (v2 : Int) (v4 : Int) (v5 : Int) (v7 : Int) (s0 : Int) (h : gi_H) : Option (Int) :=
  gx_nm (v7 + (1 : Int)) fun t21 => r30 v0 v1 v2 v4 v5 s0 t21 h
set_option maxRecDepth 100000 in
theorem zb_X12_findState_76 {al : Bool} {n : Nat} {r18 : Nat → Nat → Int → Int → Int → gi_H → Option (Int)} {r30 : Nat → Nat → Int → Int → Int → Int → Int → gi_H → Option (Int)} {res : Int} (hr18 : ∀ (x0 : Nat) (x1 : Nat) (x2 : Int) (x4 : Int) (x5 : Int) (hh : gi_H), r18 x0 x1 x2 x4 x5 hh = some res → gx_Z mX12_findState al al 0 0 18 [(0, .ref x0), (1, .ref x1), (2, .int (gI x2)), (4, .int (gI x4)), (5, .int (gI x5))] [] (gi_cv hh) (.inl (some (.int (gI res)))) (gi_cv hh)) (hr30 : ∀ (x0 : Nat) (x1 : Nat) (x2 : Int) (x4 : Int) (x5 : Int) (x6 : Int) (x7 : Int) (hh : gi_H), r30 x0 x1 x2 x4 x5 x6 x7 hh = some res → gx_Z mX12_findState al al 0 0 30 [(0, .ref x0), (1, .ref x1), (2, .int (gI x2)), (4, .int (gI x4)), (5, .int (gI x5)), (6, .int (gI x6)), (7, .int (gI x7))] [] (gi_cv hh) (.inl (some (.int (gI res)))) (gi_cv hh)) {v0 : Nat} {v1 : Nat} {v2 : Int} {v4 : Int} {v5 : Int} {v7 : Int} {s0 : Int} {h : gi_H} (e : b_X12_findState_76 n r18 r30 v0 v1 v2 v4 v5 v7 s0 h = some res) : gx_Z mX12_findState al al 0 0 76 [(0, .ref v0), (1, .ref v1), (2, .int (gI v2)), (4, .int (gI v4)), (5, .int (gI v5)), (7, .int (gI v7))] [.int (gI s0)] (gi_cv h) (.inl (some (.int (gI res)))) (gi_cv h) := by
  refine gx_istore (ls2 := [(6, .int (gI s0)), (0, .ref v0), (1, .ref v1), (2, .int (gI v2)), (4, .int (gI v4)), (5, .int (gI v5)), (7, .int (gI v7))]) dX12_findState_76 (Nat.le_of_ble_eq_true rfl) rfl ?_
  refine gx_nE e (fun t21 ht21 e => ?_)
  refine gy_iinc (v := t21) (ls2 := [(7, .int (gI t21)), (6, .int (gI s0)), (0, .ref v0), (1, .ref v1), (2, .int (gI v2)), (4, .int (gI v4)), (5, .int (gI v5))]) dX12_findState_78 6 rfl ht21 (Nat.le_of_ble_eq_true rfl) rfl ?_
  refine gx_goto (tgt := 30) dX12_findState_81 (by decide) ?_
  refine gx_sub (ls2 := [(0, .ref v0), (1, .ref v1), (2, .int (gI v2)), (4, .int (gI v4)), (5, .int (gI v5)), (6, .int (gI s0)), (7, .int (gI t21))]) [2, 3, 4, 5, 6, 1, 0] rfl ?_
  exact hr30 _ _ _ _ _ _ _ _ e
set_option maxRecDepth 100000 in
def b_X12_findState_30 (n : Nat) (r18 : Nat → Nat → Int → Int → Int → gi_H → Option (Int)) (r30 : Nat → Nat → Int → Int → Int → Int → Int → gi_H → Option (Int)) (v0 : Nat) (v1 : Nat) (v2 : Int) (v4 : Int) (v5 : Int) (v6 : Int) (v7 : Int)  (h : gi_H) : Option (Int) :=
  Option.bind (gi_gI h v0 10 25) fun t6 => Option.bind (gi_rg v7) fun _ => Option.bind (gi_rg t6) fun _ => if t6 ≤ v7 then (b_X12_findState_84 n r18 v0 v1 v2 v4 v5 v6 h) else (Option.bind (gi_rg v6) fun _ => if v6 = 0 then (b_X12_findState_84 n r18 v0 v1 v2 v4 v5 v6 h) else (Option.bind (gi_aI h 1 v1 (((146 : Int) * v5) + v7)) fun t15 => Option.bind (gi_gR h v0 10 26) fun t16 => Option.bind (gi_aI h 1 t16 v7) fun t17 => Option.bind (gi_rg (gi_and t15 v4)) fun _ => Option.bind (gi_rg (gi_and t17 v4)) fun _ => if (gi_and t15 v4) = (gi_and t17 v4) then (b_X12_findState_76 n r18 r30 v0 v1 v2 v4 v5 v7 (1 : Int) h) else (b_X12_findState_76 n r18 r30 v0 v1 v2 v4 v5 v7 (0 : Int) h)))
set_option maxRecDepth 100000 in
theorem zb_X12_findState_30 {al : Bool} {n : Nat} {r18 : Nat → Nat → Int → Int → Int → gi_H → Option (Int)} {r30 : Nat → Nat → Int → Int → Int → Int → Int → gi_H → Option (Int)} {res : Int} (hr18 : ∀ (x0 : Nat) (x1 : Nat) (x2 : Int) (x4 : Int) (x5 : Int) (hh : gi_H), r18 x0 x1 x2 x4 x5 hh = some res → gx_Z mX12_findState al al 0 0 18 [(0, .ref x0), (1, .ref x1), (2, .int (gI x2)), (4, .int (gI x4)), (5, .int (gI x5))] [] (gi_cv hh) (.inl (some (.int (gI res)))) (gi_cv hh)) (hr30 : ∀ (x0 : Nat) (x1 : Nat) (x2 : Int) (x4 : Int) (x5 : Int) (x6 : Int) (x7 : Int) (hh : gi_H), r30 x0 x1 x2 x4 x5 x6 x7 hh = some res → gx_Z mX12_findState al al 0 0 30 [(0, .ref x0), (1, .ref x1), (2, .int (gI x2)), (4, .int (gI x4)), (5, .int (gI x5)), (6, .int (gI x6)), (7, .int (gI x7))] [] (gi_cv hh) (.inl (some (.int (gI res)))) (gi_cv hh)) {v0 : Nat} {v1 : Nat} {v2 : Int} {v4 : Int} {v5 : Int} {v6 : Int} {v7 : Int}  {h : gi_H} (e : b_X12_findState_30 n r18 r30 v0 v1 v2 v4 v5 v6 v7 h = some res) : gx_Z mX12_findState al al 0 0 30 [(0, .ref v0), (1, .ref v1), (2, .int (gI v2)), (4, .int (gI v4)), (5, .int (gI v5)), (6, .int (gI v6)), (7, .int (gI v7))] [] (gi_cv h) (.inl (some (.int (gI res)))) (gi_cv h) := by
  refine gx_iload dX12_findState_30 6 rfl ?_
  refine gx_aload_n dX12_findState_32 rfl 0 rfl ?_
  refine gx_bE e (fun t6 ht6 e => ?_)
  refine gy_fI ht6 dX12_findState_33 gf_RX12_221_10_25 (by decide) gkN_10_25 gkR_10_25 ?_
  refine gx_bE e (fun _ g7 e => ?_)
  refine gx_bE e (fun _ g8 e => ?_)
  refine gx_iE e (fun c9 e => ?_) (fun c9 e => ?_)
  · refine gy_icmp_ge (tgt := 84) (gi_rgS g7) (gi_rgS g8) dX12_findState_36 (by decide) (fun _ => ?_) (fun z => absurd c9 z)
    refine gx_sub (ls2 := [(0, .ref v0), (1, .ref v1), (2, .int (gI v2)), (4, .int (gI v4)), (5, .int (gI v5)), (6, .int (gI v6))]) [0, 1, 2, 3, 4, 5] rfl ?_
    exact zb_X12_findState_84 hr18 e
  · refine gy_icmp_ge (tgt := 84) (gi_rgS g7) (gi_rgS g8) dX12_findState_36 (by decide) (fun z => absurd z c9) (fun _ => ?_)
    refine gx_iload dX12_findState_39 5 rfl ?_
    refine gx_bE e (fun _ g13 e => ?_)
    refine gx_iE e (fun c14 e => ?_) (fun c14 e => ?_)
    · refine gy_if_eq (tgt := 84) (gi_rgS g13) dX12_findState_41 (by decide) (fun _ => ?_) (fun z => absurd c14 z)
      refine gx_sub (ls2 := [(0, .ref v0), (1, .ref v1), (2, .int (gI v2)), (4, .int (gI v4)), (5, .int (gI v5)), (6, .int (gI v6))]) [0, 1, 2, 3, 4, 5] rfl ?_
      exact zb_X12_findState_84 hr18 e
    · refine gy_if_eq (tgt := 84) (gi_rgS g13) dX12_findState_41 (by decide) (fun z => absurd z c14) (fun _ => ?_)
      refine gx_aload_n dX12_findState_44 rfl 1 rfl ?_
      refine gy_sipush dX12_findState_45 gcs_146 ?_
      refine gx_iload dX12_findState_48 4 rfl ?_
      refine gy_imul dX12_findState_50 ?_
      refine gx_iload dX12_findState_51 6 rfl ?_
      refine gy_iadd dX12_findState_53 ?_
      refine gx_bE e (fun t15 ht15 e => ?_)
      refine gy_l1 ht15 dX12_findState_54 ?_
      refine gx_iload dX12_findState_55 3 rfl ?_
      refine gy_iand dX12_findState_57 ?_
      refine gx_aload_n dX12_findState_58 rfl 0 rfl ?_
      refine gx_bE e (fun t16 ht16 e => ?_)
      refine gy_fR ht16 dX12_findState_59 gf_RX12_71_10_26 (by decide) gkN_10_26 gkR_10_26 ?_
      refine gx_iload dX12_findState_62 6 rfl ?_
      refine gx_bE e (fun t17 ht17 e => ?_)
      refine gy_l1 ht17 dX12_findState_64 ?_
      refine gx_iload dX12_findState_65 3 rfl ?_
      refine gy_iand dX12_findState_67 ?_
      refine gx_bE e (fun _ g18 e => ?_)
      refine gx_bE e (fun _ g19 e => ?_)
      refine gx_iE e (fun c20 e => ?_) (fun c20 e => ?_)
      · refine gy_icmp_ne (tgt := 75) (gi_rgS g18) (gi_rgS g19) dX12_findState_68 (by decide) (fun z => absurd c20 z) (fun _ => ?_)
        refine gy_iconst dX12_findState_71 ?_
        refine gx_goto (tgt := 76) dX12_findState_72 (by decide) ?_
        refine gx_sub (ls2 := [(0, .ref v0), (1, .ref v1), (2, .int (gI v2)), (4, .int (gI v4)), (5, .int (gI v5)), (7, .int (gI v7))]) [0, 1, 2, 3, 4, 6] rfl ?_
        exact zb_X12_findState_76 hr18 hr30 e
      · refine gy_icmp_ne (tgt := 75) (gi_rgS g18) (gi_rgS g19) dX12_findState_68 (by decide) (fun _ => ?_) (fun z => absurd z c20)
        refine gy_iconst dX12_findState_75 ?_
        refine gx_sub (ls2 := [(0, .ref v0), (1, .ref v1), (2, .int (gI v2)), (4, .int (gI v4)), (5, .int (gI v5)), (7, .int (gI v7))]) [0, 1, 2, 3, 4, 6] rfl ?_
        exact zb_X12_findState_76 hr18 hr30 e
def l_X12_findState_30 (n : Nat) (r18 : Nat → Nat → Int → Int → Int → gi_H → Option (Int)) : Nat → Nat → Nat → Int → Int → Int → Int → Int → gi_H → Option (Int)
  | 0, _, _, _, _, _, _, _, _ => none
  | k + 1, v0, v1, v2, v4, v5, v6, v7, h => b_X12_findState_30 n r18 (l_X12_findState_30 n r18 k) v0 v1 v2 v4 v5 v6 v7 h
theorem zl_X12_findState_30 {al : Bool} {n : Nat} {r18 : Nat → Nat → Int → Int → Int → gi_H → Option (Int)} {res : Int} (hr18 : ∀ (x0 : Nat) (x1 : Nat) (x2 : Int) (x4 : Int) (x5 : Int) (hh : gi_H), r18 x0 x1 x2 x4 x5 hh = some res → gx_Z mX12_findState al al 0 0 18 [(0, .ref x0), (1, .ref x1), (2, .int (gI x2)), (4, .int (gI x4)), (5, .int (gI x5))] [] (gi_cv hh) (.inl (some (.int (gI res)))) (gi_cv hh)) : ∀ (k : Nat) (v0 : Nat) (v1 : Nat) (v2 : Int) (v4 : Int) (v5 : Int) (v6 : Int) (v7 : Int) (h : gi_H), l_X12_findState_30 n r18 k v0 v1 v2 v4 v5 v6 v7 h = some res → gx_Z mX12_findState al al 0 0 30 [(0, .ref v0), (1, .ref v1), (2, .int (gI v2)), (4, .int (gI v4)), (5, .int (gI v5)), (6, .int (gI v6)), (7, .int (gI v7))] [] (gi_cv h) (.inl (some (.int (gI res)))) (gi_cv h)
  | 0, _, _, _, _, _, _, _, _, e => gx_0E e
  | k + 1, _, _, _, _, _, _, _, _, e => zb_X12_findState_30 (n := n) hr18 (zl_X12_findState_30 hr18 k) e
set_option maxRecDepth 100000 in
def b_X12_findState_18 (n : Nat) (r18 : Nat → Nat → Int → Int → Int → gi_H → Option (Int)) (v0 : Nat) (v1 : Nat) (v2 : Int) (v4 : Int) (v5 : Int)  (h : gi_H) : Option (Int) :=
  Option.bind (gi_rg v5) fun _ => Option.bind (gi_rg v2) fun _ => if v2 ≤ v5 then (some (-1 : Int)) else (l_X12_findState_30 n r18 n v0 v1 v2 v4 v5 (1 : Int) (0 : Int) h)
set_option maxRecDepth 100000 in
theorem zb_X12_findState_18 {al : Bool} {n : Nat} {r18 : Nat → Nat → Int → Int → Int → gi_H → Option (Int)} {res : Int} (hr18 : ∀ (x0 : Nat) (x1 : Nat) (x2 : Int) (x4 : Int) (x5 : Int) (hh : gi_H), r18 x0 x1 x2 x4 x5 hh = some res → gx_Z mX12_findState al al 0 0 18 [(0, .ref x0), (1, .ref x1), (2, .int (gI x2)), (4, .int (gI x4)), (5, .int (gI x5))] [] (gi_cv hh) (.inl (some (.int (gI res)))) (gi_cv hh)) {v0 : Nat} {v1 : Nat} {v2 : Int} {v4 : Int} {v5 : Int}  {h : gi_H} (e : b_X12_findState_18 n r18 v0 v1 v2 v4 v5 h = some res) : gx_Z mX12_findState al al 0 0 18 [(0, .ref v0), (1, .ref v1), (2, .int (gI v2)), (4, .int (gI v4)), (5, .int (gI v5))] [] (gi_cv h) (.inl (some (.int (gI res)))) (gi_cv h) := by
  refine gx_iload dX12_findState_18 4 rfl ?_
  refine gx_iload_n dX12_findState_20 rfl 2 rfl ?_
  refine gx_bE e (fun _ g3 e => ?_)
  refine gx_bE e (fun _ g4 e => ?_)
  refine gx_iE e (fun c5 e => ?_) (fun c5 e => ?_)
  · refine gy_icmp_ge (tgt := 98) (gi_rgS g3) (gi_rgS g4) dX12_findState_21 (by decide) (fun _ => ?_) (fun z => absurd c5 z)
    refine gy_iconst dX12_findState_98 ?_
    cases e
    exact gx_iret dX12_findState_99 rfl ⟨Nat.le_of_ble_eq_true rfl, Nat.le_of_ble_eq_true rfl⟩ (fun z => z)
  · refine gy_icmp_ge (tgt := 98) (gi_rgS g3) (gi_rgS g4) dX12_findState_21 (by decide) (fun z => absurd z c5) (fun _ => ?_)
    refine gy_iconst dX12_findState_24 ?_
    refine gx_istore (ls2 := [(6, .int (gI (1 : Int))), (0, .ref v0), (1, .ref v1), (2, .int (gI v2)), (4, .int (gI v4)), (5, .int (gI v5))]) dX12_findState_25 (Nat.le_of_ble_eq_true rfl) rfl ?_
    refine gy_iconst dX12_findState_27 ?_
    refine gx_istore (ls2 := [(7, .int (gI (0 : Int))), (6, .int (gI (1 : Int))), (0, .ref v0), (1, .ref v1), (2, .int (gI v2)), (4, .int (gI v4)), (5, .int (gI v5))]) dX12_findState_28 (Nat.le_of_ble_eq_true rfl) rfl ?_
    refine gx_sub (ls2 := [(0, .ref v0), (1, .ref v1), (2, .int (gI v2)), (4, .int (gI v4)), (5, .int (gI v5)), (6, .int (gI (1 : Int))), (7, .int (gI (0 : Int)))]) [2, 3, 4, 5, 6, 1, 0] rfl ?_
    exact zl_X12_findState_30 hr18 n _ _ _ _ _ _ _ _ e
def l_X12_findState_18 (n : Nat)  : Nat → Nat → Nat → Int → Int → Int → gi_H → Option (Int)
  | 0, _, _, _, _, _, _ => none
  | k + 1, v0, v1, v2, v4, v5, h => b_X12_findState_18 n  (l_X12_findState_18 n  k) v0 v1 v2 v4 v5 h
theorem zl_X12_findState_18 {al : Bool} {n : Nat}  {res : Int}  : ∀ (k : Nat) (v0 : Nat) (v1 : Nat) (v2 : Int) (v4 : Int) (v5 : Int) (h : gi_H), l_X12_findState_18 n  k v0 v1 v2 v4 v5 h = some res → gx_Z mX12_findState al al 0 0 18 [(0, .ref v0), (1, .ref v1), (2, .int (gI v2)), (4, .int (gI v4)), (5, .int (gI v5))] [] (gi_cv h) (.inl (some (.int (gI res)))) (gi_cv h)
  | 0, _, _, _, _, _, _, e => gx_0E e
  | k + 1, _, _, _, _, _, _, e => zb_X12_findState_18 (n := n)  (zl_X12_findState_18  k) e
set_option maxRecDepth 100000 in
def b_X12_findState_13 (n : Nat)  (v0 : Nat) (v1 : Nat) (v2 : Int) (s0 : Int) (h : gi_H) : Option (Int) :=
  l_X12_findState_18 n  n v0 v1 v2 s0 (0 : Int) h
set_option maxRecDepth 100000 in
theorem zb_X12_findState_13 {al : Bool} {n : Nat}  {res : Int}  {v0 : Nat} {v1 : Nat} {v2 : Int} {s0 : Int} {h : gi_H} (e : b_X12_findState_13 n v0 v1 v2 s0 h = some res) : gx_Z mX12_findState al al 0 0 13 [(0, .ref v0), (1, .ref v1), (2, .int (gI v2))] [.int (gI s0)] (gi_cv h) (.inl (some (.int (gI res)))) (gi_cv h) := by
  refine gx_istore (ls2 := [(4, .int (gI s0)), (0, .ref v0), (1, .ref v1), (2, .int (gI v2))]) dX12_findState_13 (Nat.le_of_ble_eq_true rfl) rfl ?_
  refine gy_iconst dX12_findState_15 ?_
  refine gx_istore (ls2 := [(5, .int (gI (0 : Int))), (4, .int (gI s0)), (0, .ref v0), (1, .ref v1), (2, .int (gI v2))]) dX12_findState_16 (Nat.le_of_ble_eq_true rfl) rfl ?_
  refine gx_sub (ls2 := [(0, .ref v0), (1, .ref v1), (2, .int (gI v2)), (4, .int (gI s0)), (5, .int (gI (0 : Int)))]) [2, 3, 4, 1, 0] rfl ?_
  exact zl_X12_findState_18  n _ _ _ _ _ _ e
set_option maxRecDepth 100000 in
def f_X12_findState (n : Nat) (v0 : Nat) (v1 : Nat) (v2 : Int) (v3 : Int) (h : gi_H) : Option (Int) :=
  Option.bind (gi_rg v3) fun _ => if v3 = 0 then (b_X12_findState_13 n  v0 v1 v2 (1023 : Int) h) else (b_X12_findState_13 n  v0 v1 v2 (512 : Int) h)
set_option maxRecDepth 100000 in
theorem z_X12_findState {al : Bool} {n : Nat} {v0 : Nat} {v1 : Nat} {v2 : Int} {v3 : Int} {h : gi_H} {res : Int} (e : f_X12_findState n v0 v1 v2 v3 h = some res) : gx_Cw mX12_findState al [.ref v0, .ref v1, .int (gI v2), .int (gI v3)] (gi_cv h) (.inl (some (.int (gI res)))) (gi_cv h) := by
  refine gx_enter (by decide +kernel) rfl (Nat.le_of_ble_eq_true rfl) ?_
  show gx_Z mX12_findState al al 0 0 0 [(0, .ref v0), (1, .ref v1), (2, .int (gI v2)), (3, .int (gI v3))] [] (gi_cv h) (.inl (some (.int (gI res)))) (gi_cv h)
  refine gx_iload_n dX12_findState_0 rfl 3 rfl ?_
  refine gx_bE e (fun _ g1 e => ?_)
  refine gx_iE e (fun c2 e => ?_) (fun c2 e => ?_)
  · refine gy_if_eq (tgt := 10) (gi_rgS g1) dX12_findState_1 (by decide) (fun _ => ?_) (fun z => absurd c2 z)
    refine gy_sipush dX12_findState_10 gcs_1023 ?_
    refine gx_sub (ls2 := [(0, .ref v0), (1, .ref v1), (2, .int (gI v2))]) [0, 1, 2] rfl ?_
    exact zb_X12_findState_13  e
  · refine gy_if_eq (tgt := 10) (gi_rgS g1) dX12_findState_1 (by decide) (fun z => absurd z c2) (fun _ => ?_)
    refine gy_sipush dX12_findState_4 gcs_512 ?_
    refine gx_goto (tgt := 13) dX12_findState_7 (by decide) ?_
    refine gx_sub (ls2 := [(0, .ref v0), (1, .ref v1), (2, .int (gI v2))]) [0, 1, 2] rfl ?_
    exact zb_X12_findState_13  e
/-! X12_makes  -/
set_option maxRecDepth 100000 in
def b_X12_makes_221 (n : Nat) (r55 : Nat → Nat → Nat → Int → Int → Int → gi_H → Option (Int × gi_H)) (v0 : Nat) (v1 : Nat) (v2 : Nat) (v3 : Int) (v4 : Int) (v5 : Int)  (h : gi_H) : Option (Int × gi_H) :=
  gx_nm (v5 + (1 : Int)) fun t19 => r55 v0 v1 v2 v3 v4 t19 h
set_option maxRecDepth 100000 in
theorem zb_X12_makes_221 {al : Bool} {n : Nat} {r55 : Nat → Nat → Nat → Int → Int → Int → gi_H → Option (Int × gi_H)} {res : Int} {h1 : gi_H} (hr55 : ∀ (x0 : Nat) (x1 : Nat) (x2 : Nat) (x3 : Int) (x4 : Int) (x5 : Int) (hh : gi_H), r55 x0 x1 x2 x3 x4 x5 hh = some (res, h1) → gx_Z mX12_makes al al 0 0 55 [(0, .ref x0), (1, .ref x1), (2, .ref x2), (3, .int (gI x3)), (4, .int (gI x4)), (5, .int (gI x5))] [] (gi_cv hh) (.inl (some (.int (gI res)))) (gi_cv h1)) {v0 : Nat} {v1 : Nat} {v2 : Nat} {v3 : Int} {v4 : Int} {v5 : Int}  {h : gi_H} (e : b_X12_makes_221 n r55 v0 v1 v2 v3 v4 v5 h = some (res, h1)) : gx_Z mX12_makes al al 0 0 221 [(0, .ref v0), (1, .ref v1), (2, .ref v2), (3, .int (gI v3)), (4, .int (gI v4)), (5, .int (gI v5))] [] (gi_cv h) (.inl (some (.int (gI res)))) (gi_cv h1) := by
  refine gx_nE e (fun t19 ht19 e => ?_)
  refine gy_iinc (v := t19) (ls2 := [(5, .int (gI t19)), (0, .ref v0), (1, .ref v1), (2, .ref v2), (3, .int (gI v3)), (4, .int (gI v4))]) dX12_makes_221 5 rfl ht19 (Nat.le_of_ble_eq_true rfl) rfl ?_
  refine gx_goto (tgt := 55) dX12_makes_224 (by decide) ?_
  refine gx_sub (ls2 := [(0, .ref v0), (1, .ref v1), (2, .ref v2), (3, .int (gI v3)), (4, .int (gI v4)), (5, .int (gI t19))]) [1, 2, 3, 4, 5, 0] rfl ?_
  exact hr55 _ _ _ _ _ _ _ e
set_option maxRecDepth 100000 in
def b_X12_makes_215 (n : Nat) (r55 : Nat → Nat → Nat → Int → Int → Int → gi_H → Option (Int × gi_H)) (r65 : Nat → Nat → Nat → Int → Int → Int → Int → gi_H → Option (Int × gi_H)) (v0 : Nat) (v1 : Nat) (v2 : Nat) (v3 : Int) (v4 : Int) (v5 : Int) (v6 : Int)  (h : gi_H) : Option (Int × gi_H) :=
  gx_nm (v6 + (1 : Int)) fun t25 => r65 v0 v1 v2 v3 v4 v5 t25 h
set_option maxRecDepth 100000 in
theorem zb_X12_makes_215 {al : Bool} {n : Nat} {r55 : Nat → Nat → Nat → Int → Int → Int → gi_H → Option (Int × gi_H)} {r65 : Nat → Nat → Nat → Int → Int → Int → Int → gi_H → Option (Int × gi_H)} {res : Int} {h1 : gi_H} (hr55 : ∀ (x0 : Nat) (x1 : Nat) (x2 : Nat) (x3 : Int) (x4 : Int) (x5 : Int) (hh : gi_H), r55 x0 x1 x2 x3 x4 x5 hh = some (res, h1) → gx_Z mX12_makes al al 0 0 55 [(0, .ref x0), (1, .ref x1), (2, .ref x2), (3, .int (gI x3)), (4, .int (gI x4)), (5, .int (gI x5))] [] (gi_cv hh) (.inl (some (.int (gI res)))) (gi_cv h1)) (hr65 : ∀ (x0 : Nat) (x1 : Nat) (x2 : Nat) (x3 : Int) (x4 : Int) (x5 : Int) (x6 : Int) (hh : gi_H), r65 x0 x1 x2 x3 x4 x5 x6 hh = some (res, h1) → gx_Z mX12_makes al al 0 0 65 [(0, .ref x0), (1, .ref x1), (2, .ref x2), (3, .int (gI x3)), (4, .int (gI x4)), (5, .int (gI x5)), (6, .int (gI x6))] [] (gi_cv hh) (.inl (some (.int (gI res)))) (gi_cv h1)) {v0 : Nat} {v1 : Nat} {v2 : Nat} {v3 : Int} {v4 : Int} {v5 : Int} {v6 : Int}  {h : gi_H} (e : b_X12_makes_215 n r55 r65 v0 v1 v2 v3 v4 v5 v6 h = some (res, h1)) : gx_Z mX12_makes al al 0 0 215 [(0, .ref v0), (1, .ref v1), (2, .ref v2), (3, .int (gI v3)), (4, .int (gI v4)), (5, .int (gI v5)), (6, .int (gI v6))] [] (gi_cv h) (.inl (some (.int (gI res)))) (gi_cv h1) := by
  refine gx_nE e (fun t25 ht25 e => ?_)
  refine gy_iinc (v := t25) (ls2 := [(6, .int (gI t25)), (0, .ref v0), (1, .ref v1), (2, .ref v2), (3, .int (gI v3)), (4, .int (gI v4)), (5, .int (gI v5))]) dX12_makes_215 6 rfl ht25 (Nat.le_of_ble_eq_true rfl) rfl ?_
  refine gx_goto (tgt := 65) dX12_makes_218 (by decide) ?_
  refine gx_sub (ls2 := [(0, .ref v0), (1, .ref v1), (2, .ref v2), (3, .int (gI v3)), (4, .int (gI v4)), (5, .int (gI v5)), (6, .int (gI t25))]) [1, 2, 3, 4, 5, 6, 0] rfl ?_
  exact hr65 _ _ _ _ _ _ _ _ e
set_option maxRecDepth 100000 in
def b_X12_makes_212 (n : Nat) (r55 : Nat → Nat → Nat → Int → Int → Int → gi_H → Option (Int × gi_H)) (r65 : Nat → Nat → Nat → Int → Int → Int → Int → gi_H → Option (Int × gi_H)) (v0 : Nat) (v1 : Nat) (v2 : Nat) (v3 : Int) (v5 : Int) (v6 : Int) (s0 : Int) (s1 : Int) (h : gi_H) : Option (Int × gi_H) :=
  gx_nm (s0 + s1) fun t44 => b_X12_makes_215 n r55 r65 v0 v1 v2 v3 t44 v5 v6 h
set_option maxRecDepth 100000 in
theorem zb_X12_makes_212 {al : Bool} {n : Nat} {r55 : Nat → Nat → Nat → Int → Int → Int → gi_H → Option (Int × gi_H)} {r65 : Nat → Nat → Nat → Int → Int → Int → Int → gi_H → Option (Int × gi_H)} {res : Int} {h1 : gi_H} (hr55 : ∀ (x0 : Nat) (x1 : Nat) (x2 : Nat) (x3 : Int) (x4 : Int) (x5 : Int) (hh : gi_H), r55 x0 x1 x2 x3 x4 x5 hh = some (res, h1) → gx_Z mX12_makes al al 0 0 55 [(0, .ref x0), (1, .ref x1), (2, .ref x2), (3, .int (gI x3)), (4, .int (gI x4)), (5, .int (gI x5))] [] (gi_cv hh) (.inl (some (.int (gI res)))) (gi_cv h1)) (hr65 : ∀ (x0 : Nat) (x1 : Nat) (x2 : Nat) (x3 : Int) (x4 : Int) (x5 : Int) (x6 : Int) (hh : gi_H), r65 x0 x1 x2 x3 x4 x5 x6 hh = some (res, h1) → gx_Z mX12_makes al al 0 0 65 [(0, .ref x0), (1, .ref x1), (2, .ref x2), (3, .int (gI x3)), (4, .int (gI x4)), (5, .int (gI x5)), (6, .int (gI x6))] [] (gi_cv hh) (.inl (some (.int (gI res)))) (gi_cv h1)) {v0 : Nat} {v1 : Nat} {v2 : Nat} {v3 : Int} {v5 : Int} {v6 : Int} {s0 : Int} {s1 : Int} {h : gi_H} (e : b_X12_makes_212 n r55 r65 v0 v1 v2 v3 v5 v6 s0 s1 h = some (res, h1)) : gx_Z mX12_makes al al 0 0 212 [(0, .ref v0), (1, .ref v1), (2, .ref v2), (3, .int (gI v3)), (5, .int (gI v5)), (6, .int (gI v6))] [.int (gI s1), .int (gI s0)] (gi_cv h) (.inl (some (.int (gI res)))) (gi_cv h1) := by
  refine gy_iadd dX12_makes_212 ?_
  refine gx_nE e (fun t44 ht44 e => ?_)
  rw [ht44]
  refine gx_istore (ls2 := [(4, .int (gI t44)), (0, .ref v0), (1, .ref v1), (2, .ref v2), (3, .int (gI v3)), (5, .int (gI v5)), (6, .int (gI v6))]) dX12_makes_213 (Nat.le_of_ble_eq_true rfl) rfl ?_
  refine gx_sub (ls2 := [(0, .ref v0), (1, .ref v1), (2, .ref v2), (3, .int (gI v3)), (4, .int (gI t44)), (5, .int (gI v5)), (6, .int (gI v6))]) [1, 2, 3, 4, 0, 5, 6] rfl ?_
  exact zb_X12_makes_215 hr55 hr65 e
set_option maxRecDepth 100000 in
def b_X12_makes_198 (n : Nat) (r55 : Nat → Nat → Nat → Int → Int → Int → gi_H → Option (Int × gi_H)) (r65 : Nat → Nat → Nat → Int → Int → Int → Int → gi_H → Option (Int × gi_H)) (v0 : Nat) (v1 : Nat) (v2 : Nat) (v3 : Int) (v4 : Int) (v5 : Int) (v6 : Int) (v7 : Int) (s0 : Nat) (s1 : Int) (s2 : Int) (h : gi_H) : Option (Int × gi_H) :=
  Option.bind (gi_s1 h s0 s1 s2) fun h41 => Option.bind (gi_rg v7) fun _ => if v7 = (-1 : Int) then (b_X12_makes_212 n r55 r65 v0 v1 v2 v3 v5 v6 v4 (1 : Int) h41) else (b_X12_makes_212 n r55 r65 v0 v1 v2 v3 v5 v6 v4 (0 : Int) h41)
set_option maxRecDepth 100000 in
theorem zb_X12_makes_198 {al : Bool} {n : Nat} {r55 : Nat → Nat → Nat → Int → Int → Int → gi_H → Option (Int × gi_H)} {r65 : Nat → Nat → Nat → Int → Int → Int → Int → gi_H → Option (Int × gi_H)} {res : Int} {h1 : gi_H} (hr55 : ∀ (x0 : Nat) (x1 : Nat) (x2 : Nat) (x3 : Int) (x4 : Int) (x5 : Int) (hh : gi_H), r55 x0 x1 x2 x3 x4 x5 hh = some (res, h1) → gx_Z mX12_makes al al 0 0 55 [(0, .ref x0), (1, .ref x1), (2, .ref x2), (3, .int (gI x3)), (4, .int (gI x4)), (5, .int (gI x5))] [] (gi_cv hh) (.inl (some (.int (gI res)))) (gi_cv h1)) (hr65 : ∀ (x0 : Nat) (x1 : Nat) (x2 : Nat) (x3 : Int) (x4 : Int) (x5 : Int) (x6 : Int) (hh : gi_H), r65 x0 x1 x2 x3 x4 x5 x6 hh = some (res, h1) → gx_Z mX12_makes al al 0 0 65 [(0, .ref x0), (1, .ref x1), (2, .ref x2), (3, .int (gI x3)), (4, .int (gI x4)), (5, .int (gI x5)), (6, .int (gI x6))] [] (gi_cv hh) (.inl (some (.int (gI res)))) (gi_cv h1)) {v0 : Nat} {v1 : Nat} {v2 : Nat} {v3 : Int} {v4 : Int} {v5 : Int} {v6 : Int} {v7 : Int} {s0 : Nat} {s1 : Int} {s2 : Int} {h : gi_H} (e : b_X12_makes_198 n r55 r65 v0 v1 v2 v3 v4 v5 v6 v7 s0 s1 s2 h = some (res, h1)) : gx_Z mX12_makes al al 0 0 198 [(0, .ref v0), (1, .ref v1), (2, .ref v2), (3, .int (gI v3)), (4, .int (gI v4)), (5, .int (gI v5)), (6, .int (gI v6)), (7, .int (gI v7))] [.int (gI s2), .int (gI s1), .ref s0] (gi_cv h) (.inl (some (.int (gI res)))) (gi_cv h1) := by
  refine gx_bE e (fun h41 hh41 e => ?_)
  refine gy_t1 hh41 dX12_makes_198 ?_
  refine gx_iload dX12_makes_199 4 rfl ?_
  refine gx_iload dX12_makes_201 7 rfl ?_
  refine gy_iconst dX12_makes_203 ?_
  refine gx_bE e (fun _ g42 e => ?_)
  refine gx_iE e (fun c43 e => ?_) (fun c43 e => ?_)
  · refine gy_icmp_ne (tgt := 211) (gi_rgS g42) (by decide) dX12_makes_204 (by decide) (fun z => absurd c43 z) (fun _ => ?_)
    refine gy_iconst dX12_makes_207 ?_
    refine gx_goto (tgt := 212) dX12_makes_208 (by decide) ?_
    refine gx_sub (ls2 := [(0, .ref v0), (1, .ref v1), (2, .ref v2), (3, .int (gI v3)), (5, .int (gI v5)), (6, .int (gI v6))]) [0, 1, 2, 3, 5, 6] rfl ?_
    exact zb_X12_makes_212 hr55 hr65 e
  · refine gy_icmp_ne (tgt := 211) (gi_rgS g42) (by decide) dX12_makes_204 (by decide) (fun _ => ?_) (fun z => absurd z c43)
    refine gy_iconst dX12_makes_211 ?_
    refine gx_sub (ls2 := [(0, .ref v0), (1, .ref v1), (2, .ref v2), (3, .int (gI v3)), (5, .int (gI v5)), (6, .int (gI v6))]) [0, 1, 2, 3, 5, 6] rfl ?_
    exact zb_X12_makes_212 hr55 hr65 e
set_option maxRecDepth 100000 in
def b_X12_makes_176 (n : Nat) (r55 : Nat → Nat → Nat → Int → Int → Int → gi_H → Option (Int × gi_H)) (r65 : Nat → Nat → Nat → Int → Int → Int → Int → gi_H → Option (Int × gi_H)) (v0 : Nat) (v1 : Nat) (v2 : Nat) (v3 : Int) (v4 : Int) (v5 : Int) (v6 : Int) (v7 : Int)  (h : gi_H) : Option (Int × gi_H) :=
  Option.bind (gi_rg v7) fun _ => if v7 = (-1 : Int) then (b_X12_makes_198 n r55 r65 v0 v1 v2 v3 v4 v5 v6 v7 v2 (((24 : Int) * v5) + v6) v4 h) else (b_X12_makes_198 n r55 r65 v0 v1 v2 v3 v4 v5 v6 v7 v2 (((24 : Int) * v5) + v6) v7 h)
set_option maxRecDepth 100000 in
theorem zb_X12_makes_176 {al : Bool} {n : Nat} {r55 : Nat → Nat → Nat → Int → Int → Int → gi_H → Option (Int × gi_H)} {r65 : Nat → Nat → Nat → Int → Int → Int → Int → gi_H → Option (Int × gi_H)} {res : Int} {h1 : gi_H} (hr55 : ∀ (x0 : Nat) (x1 : Nat) (x2 : Nat) (x3 : Int) (x4 : Int) (x5 : Int) (hh : gi_H), r55 x0 x1 x2 x3 x4 x5 hh = some (res, h1) → gx_Z mX12_makes al al 0 0 55 [(0, .ref x0), (1, .ref x1), (2, .ref x2), (3, .int (gI x3)), (4, .int (gI x4)), (5, .int (gI x5))] [] (gi_cv hh) (.inl (some (.int (gI res)))) (gi_cv h1)) (hr65 : ∀ (x0 : Nat) (x1 : Nat) (x2 : Nat) (x3 : Int) (x4 : Int) (x5 : Int) (x6 : Int) (hh : gi_H), r65 x0 x1 x2 x3 x4 x5 x6 hh = some (res, h1) → gx_Z mX12_makes al al 0 0 65 [(0, .ref x0), (1, .ref x1), (2, .ref x2), (3, .int (gI x3)), (4, .int (gI x4)), (5, .int (gI x5)), (6, .int (gI x6))] [] (gi_cv hh) (.inl (some (.int (gI res)))) (gi_cv h1)) {v0 : Nat} {v1 : Nat} {v2 : Nat} {v3 : Int} {v4 : Int} {v5 : Int} {v6 : Int} {v7 : Int}  {h : gi_H} (e : b_X12_makes_176 n r55 r65 v0 v1 v2 v3 v4 v5 v6 v7 h = some (res, h1)) : gx_Z mX12_makes al al 0 0 176 [(0, .ref v0), (1, .ref v1), (2, .ref v2), (3, .int (gI v3)), (4, .int (gI v4)), (5, .int (gI v5)), (6, .int (gI v6)), (7, .int (gI v7))] [] (gi_cv h) (.inl (some (.int (gI res)))) (gi_cv h1) := by
  refine gx_aload_n dX12_makes_176 rfl 2 rfl ?_
  refine gy_bipush dX12_makes_177 gcb_24 ?_
  refine gx_iload dX12_makes_179 5 rfl ?_
  refine gy_imul dX12_makes_181 ?_
  refine gx_iload dX12_makes_182 6 rfl ?_
  refine gy_iadd dX12_makes_184 ?_
  refine gx_iload dX12_makes_185 7 rfl ?_
  refine gy_iconst dX12_makes_187 ?_
  refine gx_bE e (fun _ g39 e => ?_)
  refine gx_iE e (fun c40 e => ?_) (fun c40 e => ?_)
  · refine gy_icmp_ne (tgt := 196) (gi_rgS g39) (by decide) dX12_makes_188 (by decide) (fun z => absurd c40 z) (fun _ => ?_)
    refine gx_iload dX12_makes_191 4 rfl ?_
    refine gx_goto (tgt := 198) dX12_makes_193 (by decide) ?_
    exact zb_X12_makes_198 hr55 hr65 e
  · refine gy_icmp_ne (tgt := 196) (gi_rgS g39) (by decide) dX12_makes_188 (by decide) (fun _ => ?_) (fun z => absurd z c40)
    refine gx_iload dX12_makes_196 7 rfl ?_
    exact zb_X12_makes_198 hr55 hr65 e
set_option maxRecDepth 100000 in
def b_X12_makes_137 (n : Nat) (r55 : Nat → Nat → Nat → Int → Int → Int → gi_H → Option (Int × gi_H)) (r65 : Nat → Nat → Nat → Int → Int → Int → Int → gi_H → Option (Int × gi_H)) (r137 : Nat → Nat → Nat → Int → Int → Int → Int → Int → Int → gi_H → Option (Int × gi_H)) (v0 : Nat) (v1 : Nat) (v2 : Nat) (v3 : Int) (v4 : Int) (v5 : Int) (v6 : Int) (v7 : Int) (v8 : Int)  (h : gi_H) : Option (Int × gi_H) :=
  Option.bind (gi_gI h v0 10 25) fun t35 => Option.bind (gi_rg v8) fun _ => Option.bind (gi_rg t35) fun _ => if t35 ≤ v8 then (b_X12_makes_176 n r55 r65 v0 v1 v2 v3 v4 v5 v6 v7 h) else (Option.bind (gi_rg v7) fun _ => if v7 = (-1 : Int) then (Option.bind (gi_gR h v0 10 26) fun t47 => Option.bind (gi_aI h 1 t47 v8) fun t48 => Option.bind (gi_s1 h v1 (((146 : Int) * v4) + v8) t48) fun h49 => gx_nm (v8 + (1 : Int)) fun t50 => r137 v0 v1 v2 v3 v4 v5 v6 v7 t50 h49) else (b_X12_makes_176 n r55 r65 v0 v1 v2 v3 v4 v5 v6 v7 h))
set_option maxRecDepth 100000 in
theorem zb_X12_makes_137 {al : Bool} {n : Nat} {r55 : Nat → Nat → Nat → Int → Int → Int → gi_H → Option (Int × gi_H)} {r65 : Nat → Nat → Nat → Int → Int → Int → Int → gi_H → Option (Int × gi_H)} {r137 : Nat → Nat → Nat → Int → Int → Int → Int → Int → Int → gi_H → Option (Int × gi_H)} {res : Int} {h1 : gi_H} (hr55 : ∀ (x0 : Nat) (x1 : Nat) (x2 : Nat) (x3 : Int) (x4 : Int) (x5 : Int) (hh : gi_H), r55 x0 x1 x2 x3 x4 x5 hh = some (res, h1) → gx_Z mX12_makes al al 0 0 55 [(0, .ref x0), (1, .ref x1), (2, .ref x2), (3, .int (gI x3)), (4, .int (gI x4)), (5, .int (gI x5))] [] (gi_cv hh) (.inl (some (.int (gI res)))) (gi_cv h1)) (hr65 : ∀ (x0 : Nat) (x1 : Nat) (x2 : Nat) (x3 : Int) (x4 : Int) (x5 : Int) (x6 : Int) (hh : gi_H), r65 x0 x1 x2 x3 x4 x5 x6 hh = some (res, h1) → gx_Z mX12_makes al al 0 0 65 [(0, .ref x0), (1, .ref x1), (2, .ref x2), (3, .int (gI x3)), (4, .int (gI x4)), (5, .int (gI x5)), (6, .int (gI x6))] [] (gi_cv hh) (.inl (some (.int (gI res)))) (gi_cv h1)) (hr137 : ∀ (x0 : Nat) (x1 : Nat) (x2 : Nat) (x3 : Int) (x4 : Int) (x5 : Int) (x6 : Int) (x7 : Int) (x8 : Int) (hh : gi_H), r137 x0 x1 x2 x3 x4 x5 x6 x7 x8 hh = some (res, h1) → gx_Z mX12_makes al al 0 0 137 [(0, .ref x0), (1, .ref x1), (2, .ref x2), (3, .int (gI x3)), (4, .int (gI x4)), (5, .int (gI x5)), (6, .int (gI x6)), (7, .int (gI x7)), (8, .int (gI x8))] [] (gi_cv hh) (.inl (some (.int (gI res)))) (gi_cv h1)) {v0 : Nat} {v1 : Nat} {v2 : Nat} {v3 : Int} {v4 : Int} {v5 : Int} {v6 : Int} {v7 : Int} {v8 : Int}  {h : gi_H} (e : b_X12_makes_137 n r55 r65 r137 v0 v1 v2 v3 v4 v5 v6 v7 v8 h = some (res, h1)) : gx_Z mX12_makes al al 0 0 137 [(0, .ref v0), (1, .ref v1), (2, .ref v2), (3, .int (gI v3)), (4, .int (gI v4)), (5, .int (gI v5)), (6, .int (gI v6)), (7, .int (gI v7)), (8, .int (gI v8))] [] (gi_cv h) (.inl (some (.int (gI res)))) (gi_cv h1) := by
  refine gx_iload dX12_makes_137 8 rfl ?_
  refine gx_aload_n dX12_makes_139 rfl 0 rfl ?_
  refine gx_bE e (fun t35 ht35 e => ?_)
  refine gy_fI ht35 dX12_makes_140 gf_RX12_221_10_25 (by decide) gkN_10_25 gkR_10_25 ?_
  refine gx_bE e (fun _ g36 e => ?_)
  refine gx_bE e (fun _ g37 e => ?_)
  refine gx_iE e (fun c38 e => ?_) (fun c38 e => ?_)
  · refine gy_icmp_ge (tgt := 176) (gi_rgS g36) (gi_rgS g37) dX12_makes_143 (by decide) (fun _ => ?_) (fun z => absurd c38 z)
    refine gx_sub (ls2 := [(0, .ref v0), (1, .ref v1), (2, .ref v2), (3, .int (gI v3)), (4, .int (gI v4)), (5, .int (gI v5)), (6, .int (gI v6)), (7, .int (gI v7))]) [0, 1, 2, 3, 4, 5, 6, 7] rfl ?_
    exact zb_X12_makes_176 hr55 hr65 e
  · refine gy_icmp_ge (tgt := 176) (gi_rgS g36) (gi_rgS g37) dX12_makes_143 (by decide) (fun z => absurd z c38) (fun _ => ?_)
    refine gx_iload dX12_makes_146 7 rfl ?_
    refine gy_iconst dX12_makes_148 ?_
    refine gx_bE e (fun _ g45 e => ?_)
    refine gx_iE e (fun c46 e => ?_) (fun c46 e => ?_)
    · refine gy_icmp_ne (tgt := 176) (gi_rgS g45) (by decide) dX12_makes_149 (by decide) (fun z => absurd c46 z) (fun _ => ?_)
      refine gx_aload_n dX12_makes_152 rfl 1 rfl ?_
      refine gy_sipush dX12_makes_153 gcs_146 ?_
      refine gx_iload dX12_makes_156 4 rfl ?_
      refine gy_imul dX12_makes_158 ?_
      refine gx_iload dX12_makes_159 8 rfl ?_
      refine gy_iadd dX12_makes_161 ?_
      refine gx_aload_n dX12_makes_162 rfl 0 rfl ?_
      refine gx_bE e (fun t47 ht47 e => ?_)
      refine gy_fR ht47 dX12_makes_163 gf_RX12_71_10_26 (by decide) gkN_10_26 gkR_10_26 ?_
      refine gx_iload dX12_makes_166 8 rfl ?_
      refine gx_bE e (fun t48 ht48 e => ?_)
      refine gy_l1 ht48 dX12_makes_168 ?_
      refine gx_bE e (fun h49 hh49 e => ?_)
      refine gy_t1 hh49 dX12_makes_169 ?_
      refine gx_nE e (fun t50 ht50 e => ?_)
      refine gy_iinc (v := t50) (ls2 := [(8, .int (gI t50)), (0, .ref v0), (1, .ref v1), (2, .ref v2), (3, .int (gI v3)), (4, .int (gI v4)), (5, .int (gI v5)), (6, .int (gI v6)), (7, .int (gI v7))]) dX12_makes_170 8 rfl ht50 (Nat.le_of_ble_eq_true rfl) rfl ?_
      refine gx_goto (tgt := 137) dX12_makes_173 (by decide) ?_
      refine gx_sub (ls2 := [(0, .ref v0), (1, .ref v1), (2, .ref v2), (3, .int (gI v3)), (4, .int (gI v4)), (5, .int (gI v5)), (6, .int (gI v6)), (7, .int (gI v7)), (8, .int (gI t50))]) [1, 2, 3, 4, 5, 6, 7, 8, 0] rfl ?_
      exact hr137 _ _ _ _ _ _ _ _ _ _ e
    · refine gy_icmp_ne (tgt := 176) (gi_rgS g45) (by decide) dX12_makes_149 (by decide) (fun _ => ?_) (fun z => absurd z c46)
      refine gx_sub (ls2 := [(0, .ref v0), (1, .ref v1), (2, .ref v2), (3, .int (gI v3)), (4, .int (gI v4)), (5, .int (gI v5)), (6, .int (gI v6)), (7, .int (gI v7))]) [0, 1, 2, 3, 4, 5, 6, 7] rfl ?_
      exact zb_X12_makes_176 hr55 hr65 e
def l_X12_makes_137 (n : Nat) (r55 : Nat → Nat → Nat → Int → Int → Int → gi_H → Option (Int × gi_H)) (r65 : Nat → Nat → Nat → Int → Int → Int → Int → gi_H → Option (Int × gi_H)) : Nat → Nat → Nat → Nat → Int → Int → Int → Int → Int → Int → gi_H → Option (Int × gi_H)
  | 0, _, _, _, _, _, _, _, _, _, _ => none
  | k + 1, v0, v1, v2, v3, v4, v5, v6, v7, v8, h => b_X12_makes_137 n r55 r65 (l_X12_makes_137 n r55 r65 k) v0 v1 v2 v3 v4 v5 v6 v7 v8 h
theorem zl_X12_makes_137 {al : Bool} {n : Nat} {r55 : Nat → Nat → Nat → Int → Int → Int → gi_H → Option (Int × gi_H)} {r65 : Nat → Nat → Nat → Int → Int → Int → Int → gi_H → Option (Int × gi_H)} {res : Int} {h1 : gi_H} (hr55 : ∀ (x0 : Nat) (x1 : Nat) (x2 : Nat) (x3 : Int) (x4 : Int) (x5 : Int) (hh : gi_H), r55 x0 x1 x2 x3 x4 x5 hh = some (res, h1) → gx_Z mX12_makes al al 0 0 55 [(0, .ref x0), (1, .ref x1), (2, .ref x2), (3, .int (gI x3)), (4, .int (gI x4)), (5, .int (gI x5))] [] (gi_cv hh) (.inl (some (.int (gI res)))) (gi_cv h1)) (hr65 : ∀ (x0 : Nat) (x1 : Nat) (x2 : Nat) (x3 : Int) (x4 : Int) (x5 : Int) (x6 : Int) (hh : gi_H), r65 x0 x1 x2 x3 x4 x5 x6 hh = some (res, h1) → gx_Z mX12_makes al al 0 0 65 [(0, .ref x0), (1, .ref x1), (2, .ref x2), (3, .int (gI x3)), (4, .int (gI x4)), (5, .int (gI x5)), (6, .int (gI x6))] [] (gi_cv hh) (.inl (some (.int (gI res)))) (gi_cv h1)) : ∀ (k : Nat) (v0 : Nat) (v1 : Nat) (v2 : Nat) (v3 : Int) (v4 : Int) (v5 : Int) (v6 : Int) (v7 : Int) (v8 : Int) (h : gi_H), l_X12_makes_137 n r55 r65 k v0 v1 v2 v3 v4 v5 v6 v7 v8 h = some (res, h1) → gx_Z mX12_makes al al 0 0 137 [(0, .ref v0), (1, .ref v1), (2, .ref v2), (3, .int (gI v3)), (4, .int (gI v4)), (5, .int (gI v5)), (6, .int (gI v6)), (7, .int (gI v7)), (8, .int (gI v8))] [] (gi_cv h) (.inl (some (.int (gI res)))) (gi_cv h1)
  | 0, _, _, _, _, _, _, _, _, _, _, e => gx_0E e
  | k + 1, _, _, _, _, _, _, _, _, _, _, e => zb_X12_makes_137 (n := n) hr55 hr65 (zl_X12_makes_137 hr55 hr65 k) e
set_option maxRecDepth 100000 in
def b_X12_makes_134 (n : Nat) (r55 : Nat → Nat → Nat → Int → Int → Int → gi_H → Option (Int × gi_H)) (r65 : Nat → Nat → Nat → Int → Int → Int → Int → gi_H → Option (Int × gi_H)) (v0 : Nat) (v1 : Nat) (v2 : Nat) (v3 : Int) (v4 : Int) (v5 : Int) (v6 : Int) (v7 : Int)  (h : gi_H) : Option (Int × gi_H) :=
  l_X12_makes_137 n r55 r65 n v0 v1 v2 v3 v4 v5 v6 v7 (0 : Int) h
set_option maxRecDepth 100000 in
theorem zb_X12_makes_134 {al : Bool} {n : Nat} {r55 : Nat → Nat → Nat → Int → Int → Int → gi_H → Option (Int × gi_H)} {r65 : Nat → Nat → Nat → Int → Int → Int → Int → gi_H → Option (Int × gi_H)} {res : Int} {h1 : gi_H} (hr55 : ∀ (x0 : Nat) (x1 : Nat) (x2 : Nat) (x3 : Int) (x4 : Int) (x5 : Int) (hh : gi_H), r55 x0 x1 x2 x3 x4 x5 hh = some (res, h1) → gx_Z mX12_makes al al 0 0 55 [(0, .ref x0), (1, .ref x1), (2, .ref x2), (3, .int (gI x3)), (4, .int (gI x4)), (5, .int (gI x5))] [] (gi_cv hh) (.inl (some (.int (gI res)))) (gi_cv h1)) (hr65 : ∀ (x0 : Nat) (x1 : Nat) (x2 : Nat) (x3 : Int) (x4 : Int) (x5 : Int) (x6 : Int) (hh : gi_H), r65 x0 x1 x2 x3 x4 x5 x6 hh = some (res, h1) → gx_Z mX12_makes al al 0 0 65 [(0, .ref x0), (1, .ref x1), (2, .ref x2), (3, .int (gI x3)), (4, .int (gI x4)), (5, .int (gI x5)), (6, .int (gI x6))] [] (gi_cv hh) (.inl (some (.int (gI res)))) (gi_cv h1)) {v0 : Nat} {v1 : Nat} {v2 : Nat} {v3 : Int} {v4 : Int} {v5 : Int} {v6 : Int} {v7 : Int}  {h : gi_H} (e : b_X12_makes_134 n r55 r65 v0 v1 v2 v3 v4 v5 v6 v7 h = some (res, h1)) : gx_Z mX12_makes al al 0 0 134 [(0, .ref v0), (1, .ref v1), (2, .ref v2), (3, .int (gI v3)), (4, .int (gI v4)), (5, .int (gI v5)), (6, .int (gI v6)), (7, .int (gI v7))] [] (gi_cv h) (.inl (some (.int (gI res)))) (gi_cv h1) := by
  refine gy_iconst dX12_makes_134 ?_
  refine gx_istore (ls2 := [(8, .int (gI (0 : Int))), (0, .ref v0), (1, .ref v1), (2, .ref v2), (3, .int (gI v3)), (4, .int (gI v4)), (5, .int (gI v5)), (6, .int (gI v6)), (7, .int (gI v7))]) dX12_makes_135 (Nat.le_of_ble_eq_true rfl) rfl ?_
  refine gx_sub (ls2 := [(0, .ref v0), (1, .ref v1), (2, .ref v2), (3, .int (gI v3)), (4, .int (gI v4)), (5, .int (gI v5)), (6, .int (gI v6)), (7, .int (gI v7)), (8, .int (gI (0 : Int)))]) [1, 2, 3, 4, 5, 6, 7, 8, 0] rfl ?_
  exact zl_X12_makes_137 hr55 hr65 n _ _ _ _ _ _ _ _ _ _ e
set_option maxRecDepth 100000 in
def b_X12_makes_65 (n : Nat) (r55 : Nat → Nat → Nat → Int → Int → Int → gi_H → Option (Int × gi_H)) (r65 : Nat → Nat → Nat → Int → Int → Int → Int → gi_H → Option (Int × gi_H)) (v0 : Nat) (v1 : Nat) (v2 : Nat) (v3 : Int) (v4 : Int) (v5 : Int) (v6 : Int)  (h : gi_H) : Option (Int × gi_H) :=
  Option.bind (gi_rg v6) fun _ => if (24 : Int) ≤ v6 then (b_X12_makes_221 n r55 v0 v1 v2 v3 v4 v5 h) else (Option.bind (gi_s1 h v2 (((24 : Int) * v5) + v6) (-1 : Int)) fun h20 => Option.bind (gi_is h20 v0 10) fun _ => Option.bind (f_X12_steps n v0 v1 ((146 : Int) * v5) v6 h20) fun q22 => Option.bind (gi_rg q22.1) fun _ => if q22.1 = 0 then (b_X12_makes_215 n r55 r65 v0 v1 v2 v3 v4 v5 v6 q22.2) else (Option.bind (gi_gR q22.2 v0 10 26) fun t26 => Option.bind (gi_is q22.2 v0 10) fun _ => Option.bind (f_X12_closure n v0 t26 (0 : Int) q22.2) fun q28 => Option.bind (gi_is q28 v0 10) fun _ => Option.bind (f_X12_findState n v0 v1 v4 v3 q28) fun q30 => Option.bind (gi_rg q30) fun _ => if q30 = (-1 : Int) then (Option.bind (gi_rg v4) fun _ => if v4 = (80 : Int) then (some ((-2 : Int), q28)) else (b_X12_makes_134 n r55 r65 v0 v1 v2 v3 v4 v5 v6 q30 q28)) else (b_X12_makes_134 n r55 r65 v0 v1 v2 v3 v4 v5 v6 q30 q28)))
set_option maxRecDepth 100000 in
theorem zb_X12_makes_65 {al : Bool} {n : Nat} {r55 : Nat → Nat → Nat → Int → Int → Int → gi_H → Option (Int × gi_H)} {r65 : Nat → Nat → Nat → Int → Int → Int → Int → gi_H → Option (Int × gi_H)} {res : Int} {h1 : gi_H} (hr55 : ∀ (x0 : Nat) (x1 : Nat) (x2 : Nat) (x3 : Int) (x4 : Int) (x5 : Int) (hh : gi_H), r55 x0 x1 x2 x3 x4 x5 hh = some (res, h1) → gx_Z mX12_makes al al 0 0 55 [(0, .ref x0), (1, .ref x1), (2, .ref x2), (3, .int (gI x3)), (4, .int (gI x4)), (5, .int (gI x5))] [] (gi_cv hh) (.inl (some (.int (gI res)))) (gi_cv h1)) (hr65 : ∀ (x0 : Nat) (x1 : Nat) (x2 : Nat) (x3 : Int) (x4 : Int) (x5 : Int) (x6 : Int) (hh : gi_H), r65 x0 x1 x2 x3 x4 x5 x6 hh = some (res, h1) → gx_Z mX12_makes al al 0 0 65 [(0, .ref x0), (1, .ref x1), (2, .ref x2), (3, .int (gI x3)), (4, .int (gI x4)), (5, .int (gI x5)), (6, .int (gI x6))] [] (gi_cv hh) (.inl (some (.int (gI res)))) (gi_cv h1)) {v0 : Nat} {v1 : Nat} {v2 : Nat} {v3 : Int} {v4 : Int} {v5 : Int} {v6 : Int}  {h : gi_H} (e : b_X12_makes_65 n r55 r65 v0 v1 v2 v3 v4 v5 v6 h = some (res, h1)) : gx_Z mX12_makes al al 0 0 65 [(0, .ref v0), (1, .ref v1), (2, .ref v2), (3, .int (gI v3)), (4, .int (gI v4)), (5, .int (gI v5)), (6, .int (gI v6))] [] (gi_cv h) (.inl (some (.int (gI res)))) (gi_cv h1) := by
  refine gx_iload dX12_makes_65 6 rfl ?_
  refine gy_bipush dX12_makes_67 gcb_24 ?_
  refine gx_bE e (fun _ g17 e => ?_)
  refine gx_iE e (fun c18 e => ?_) (fun c18 e => ?_)
  · refine gy_icmp_ge (tgt := 221) (gi_rgS g17) (by decide) dX12_makes_69 (by decide) (fun _ => ?_) (fun z => absurd c18 z)
    refine gx_sub (ls2 := [(0, .ref v0), (1, .ref v1), (2, .ref v2), (3, .int (gI v3)), (4, .int (gI v4)), (5, .int (gI v5))]) [0, 1, 2, 3, 4, 5] rfl ?_
    exact zb_X12_makes_221 hr55 e
  · refine gy_icmp_ge (tgt := 221) (gi_rgS g17) (by decide) dX12_makes_69 (by decide) (fun z => absurd z c18) (fun _ => ?_)
    refine gx_aload_n dX12_makes_72 rfl 2 rfl ?_
    refine gy_bipush dX12_makes_73 gcb_24 ?_
    refine gx_iload dX12_makes_75 5 rfl ?_
    refine gy_imul dX12_makes_77 ?_
    refine gx_iload dX12_makes_78 6 rfl ?_
    refine gy_iadd dX12_makes_80 ?_
    refine gy_iconst dX12_makes_81 ?_
    refine gx_bE e (fun h20 hh20 e => ?_)
    refine gy_t1 hh20 dX12_makes_82 ?_
    refine gx_aload_n dX12_makes_83 rfl 0 rfl ?_
    refine gx_aload_n dX12_makes_84 rfl 1 rfl ?_
    refine gy_sipush dX12_makes_85 gcs_146 ?_
    refine gx_iload dX12_makes_88 5 rfl ?_
    refine gy_imul dX12_makes_90 ?_
    refine gx_iload dX12_makes_91 6 rfl ?_
    refine gx_bE e (fun _ hu21 e => ?_)
    refine gx_bE e (fun q22 hq22 e => ?_)
    refine gx_callV (n := 3) (st := []) (As := [.ref v1, .int (gI ((146 : Int) * v5)), .int (gI v6)]) (b := v0) dX12_makes_93 (z_X12_steps hq22) rfl ⟨rfl, gw_cw_X12_steps, gw_14, gp_X12_steps, ⟨Nat.le_of_ble_eq_true rfl, Nat.le_of_ble_eq_true rfl⟩⟩ (gi_isS hu21) (by decide) gw_1680 gw_1682 gs_87 rfl ⟨Nat.le_of_ble_eq_true rfl, Nat.le_of_ble_eq_true rfl⟩ (Nat.le_of_ble_eq_true rfl) (gy_k1 (x := .int (gI q22.1)) (kc2 := 0) (ks2 := 0) ⟨rfl, rfl⟩ ?_) gy_kn
    refine gx_bE e (fun _ g23 e => ?_)
    refine gx_iE e (fun c24 e => ?_) (fun c24 e => ?_)
    · refine gy_if_eq (tgt := 215) (gi_rgS g23) dX12_makes_96 (by decide) (fun _ => ?_) (fun z => absurd c24 z)
      exact zb_X12_makes_215 hr55 hr65 e
    · refine gy_if_eq (tgt := 215) (gi_rgS g23) dX12_makes_96 (by decide) (fun z => absurd z c24) (fun _ => ?_)
      refine gx_aload_n dX12_makes_99 rfl 0 rfl ?_
      refine gx_aload_n dX12_makes_100 rfl 0 rfl ?_
      refine gx_bE e (fun t26 ht26 e => ?_)
      refine gy_fR ht26 dX12_makes_101 gf_RX12_71_10_26 (by decide) gkN_10_26 gkR_10_26 ?_
      refine gy_iconst dX12_makes_104 ?_
      refine gx_bE e (fun _ hu27 e => ?_)
      refine gx_bE e (fun q28 hq28 e => ?_)
      refine gx_callV (n := 2) (st := []) (As := [.ref t26, .int (gI (0 : Int))]) (b := v0) dX12_makes_105 (z_X12_closure hq28) rfl ⟨rfl, gw_cw_X12_closure, gw_14, gp_X12_closure, ⟨Nat.le_of_ble_eq_true rfl, Nat.le_of_ble_eq_true rfl⟩⟩ (gi_isS hu27) (by decide) gw_1668 gw_1670 gs_84 rfl ⟨Nat.le_of_ble_eq_true rfl, Nat.le_of_ble_eq_true rfl⟩ (Nat.le_of_ble_eq_true rfl) (gy_k0 (kc2 := 0) (ks2 := 0) ⟨rfl, rfl⟩ ?_) gy_kn
      refine gx_aload_n dX12_makes_108 rfl 0 rfl ?_
      refine gx_aload_n dX12_makes_109 rfl 1 rfl ?_
      refine gx_iload dX12_makes_110 4 rfl ?_
      refine gx_iload_n dX12_makes_112 rfl 3 rfl ?_
      refine gx_bE e (fun _ hu29 e => ?_)
      refine gx_bE e (fun q30 hq30 e => ?_)
      refine gx_callV (n := 3) (st := []) (As := [.ref v1, .int (gI v4), .int (gI v3)]) (b := v0) dX12_makes_113 (z_X12_findState hq30) rfl ⟨rfl, gw_cw_X12_findState, gw_14, gp_X12_findState, ⟨Nat.le_of_ble_eq_true rfl, Nat.le_of_ble_eq_true rfl⟩⟩ (gi_isS hu29) (by decide) gw_1687 gw_1689 gs_88 rfl ⟨Nat.le_of_ble_eq_true rfl, Nat.le_of_ble_eq_true rfl⟩ (Nat.le_of_ble_eq_true rfl) (gy_k1 (x := .int (gI q30)) (kc2 := 0) (ks2 := 0) ⟨rfl, rfl⟩ ?_) gy_kn
      refine gx_istore (ls2 := [(7, .int (gI q30)), (0, .ref v0), (1, .ref v1), (2, .ref v2), (3, .int (gI v3)), (4, .int (gI v4)), (5, .int (gI v5)), (6, .int (gI v6))]) dX12_makes_116 (Nat.le_of_ble_eq_true rfl) rfl ?_
      refine gx_iload dX12_makes_118 0 rfl ?_
      refine gy_iconst dX12_makes_120 ?_
      refine gx_bE e (fun _ g31 e => ?_)
      refine gx_iE e (fun c32 e => ?_) (fun c32 e => ?_)
      · refine gy_icmp_ne (tgt := 134) (gi_rgS g31) (by decide) dX12_makes_121 (by decide) (fun z => absurd c32 z) (fun _ => ?_)
        refine gx_iload dX12_makes_124 5 rfl ?_
        refine gy_bipush dX12_makes_126 gcb_80 ?_
        refine gx_bE e (fun _ g33 e => ?_)
        refine gx_iE e (fun c34 e => ?_) (fun c34 e => ?_)
        · refine gy_icmp_ne (tgt := 134) (gi_rgS g33) (by decide) dX12_makes_128 (by decide) (fun z => absurd c34 z) (fun _ => ?_)
          refine gy_bipush dX12_makes_131 gcb_m2 ?_
          cases e
          exact gx_iret dX12_makes_133 rfl ⟨Nat.le_of_ble_eq_true rfl, Nat.le_of_ble_eq_true rfl⟩ (fun z => z)
        · refine gy_icmp_ne (tgt := 134) (gi_rgS g33) (by decide) dX12_makes_128 (by decide) (fun _ => ?_) (fun z => absurd z c34)
          refine gx_sub (ls2 := [(0, .ref v0), (1, .ref v1), (2, .ref v2), (3, .int (gI v3)), (4, .int (gI v4)), (5, .int (gI v5)), (6, .int (gI v6)), (7, .int (gI q30))]) [1, 2, 3, 4, 5, 6, 7, 0] rfl ?_
          exact zb_X12_makes_134 hr55 hr65 e
      · refine gy_icmp_ne (tgt := 134) (gi_rgS g31) (by decide) dX12_makes_121 (by decide) (fun _ => ?_) (fun z => absurd z c32)
        refine gx_sub (ls2 := [(0, .ref v0), (1, .ref v1), (2, .ref v2), (3, .int (gI v3)), (4, .int (gI v4)), (5, .int (gI v5)), (6, .int (gI v6)), (7, .int (gI q30))]) [1, 2, 3, 4, 5, 6, 7, 0] rfl ?_
        exact zb_X12_makes_134 hr55 hr65 e
def l_X12_makes_65 (n : Nat) (r55 : Nat → Nat → Nat → Int → Int → Int → gi_H → Option (Int × gi_H)) : Nat → Nat → Nat → Nat → Int → Int → Int → Int → gi_H → Option (Int × gi_H)
  | 0, _, _, _, _, _, _, _, _ => none
  | k + 1, v0, v1, v2, v3, v4, v5, v6, h => b_X12_makes_65 n r55 (l_X12_makes_65 n r55 k) v0 v1 v2 v3 v4 v5 v6 h
theorem zl_X12_makes_65 {al : Bool} {n : Nat} {r55 : Nat → Nat → Nat → Int → Int → Int → gi_H → Option (Int × gi_H)} {res : Int} {h1 : gi_H} (hr55 : ∀ (x0 : Nat) (x1 : Nat) (x2 : Nat) (x3 : Int) (x4 : Int) (x5 : Int) (hh : gi_H), r55 x0 x1 x2 x3 x4 x5 hh = some (res, h1) → gx_Z mX12_makes al al 0 0 55 [(0, .ref x0), (1, .ref x1), (2, .ref x2), (3, .int (gI x3)), (4, .int (gI x4)), (5, .int (gI x5))] [] (gi_cv hh) (.inl (some (.int (gI res)))) (gi_cv h1)) : ∀ (k : Nat) (v0 : Nat) (v1 : Nat) (v2 : Nat) (v3 : Int) (v4 : Int) (v5 : Int) (v6 : Int) (h : gi_H), l_X12_makes_65 n r55 k v0 v1 v2 v3 v4 v5 v6 h = some (res, h1) → gx_Z mX12_makes al al 0 0 65 [(0, .ref v0), (1, .ref v1), (2, .ref v2), (3, .int (gI v3)), (4, .int (gI v4)), (5, .int (gI v5)), (6, .int (gI v6))] [] (gi_cv h) (.inl (some (.int (gI res)))) (gi_cv h1)
  | 0, _, _, _, _, _, _, _, _, e => gx_0E e
  | k + 1, _, _, _, _, _, _, _, _, e => zb_X12_makes_65 (n := n) hr55 (zl_X12_makes_65 hr55 k) e
set_option maxRecDepth 100000 in
def b_X12_makes_55 (n : Nat) (r55 : Nat → Nat → Nat → Int → Int → Int → gi_H → Option (Int × gi_H)) (v0 : Nat) (v1 : Nat) (v2 : Nat) (v3 : Int) (v4 : Int) (v5 : Int)  (h : gi_H) : Option (Int × gi_H) :=
  Option.bind (gi_rg v5) fun _ => Option.bind (gi_rg v4) fun _ => if v4 ≤ v5 then (some (v4, h)) else (l_X12_makes_65 n r55 n v0 v1 v2 v3 v4 v5 (0 : Int) h)
set_option maxRecDepth 100000 in
theorem zb_X12_makes_55 {al : Bool} {n : Nat} {r55 : Nat → Nat → Nat → Int → Int → Int → gi_H → Option (Int × gi_H)} {res : Int} {h1 : gi_H} (hr55 : ∀ (x0 : Nat) (x1 : Nat) (x2 : Nat) (x3 : Int) (x4 : Int) (x5 : Int) (hh : gi_H), r55 x0 x1 x2 x3 x4 x5 hh = some (res, h1) → gx_Z mX12_makes al al 0 0 55 [(0, .ref x0), (1, .ref x1), (2, .ref x2), (3, .int (gI x3)), (4, .int (gI x4)), (5, .int (gI x5))] [] (gi_cv hh) (.inl (some (.int (gI res)))) (gi_cv h1)) {v0 : Nat} {v1 : Nat} {v2 : Nat} {v3 : Int} {v4 : Int} {v5 : Int}  {h : gi_H} (e : b_X12_makes_55 n r55 v0 v1 v2 v3 v4 v5 h = some (res, h1)) : gx_Z mX12_makes al al 0 0 55 [(0, .ref v0), (1, .ref v1), (2, .ref v2), (3, .int (gI v3)), (4, .int (gI v4)), (5, .int (gI v5))] [] (gi_cv h) (.inl (some (.int (gI res)))) (gi_cv h1) := by
  refine gx_iload dX12_makes_55 5 rfl ?_
  refine gx_iload dX12_makes_57 4 rfl ?_
  refine gx_bE e (fun _ g14 e => ?_)
  refine gx_bE e (fun _ g15 e => ?_)
  refine gx_iE e (fun c16 e => ?_) (fun c16 e => ?_)
  · refine gy_icmp_ge (tgt := 227) (gi_rgS g14) (gi_rgS g15) dX12_makes_59 (by decide) (fun _ => ?_) (fun z => absurd c16 z)
    refine gx_iload dX12_makes_227 4 rfl ?_
    cases e
    exact gx_iret dX12_makes_229 rfl ⟨Nat.le_of_ble_eq_true rfl, Nat.le_of_ble_eq_true rfl⟩ (fun z => z)
  · refine gy_icmp_ge (tgt := 227) (gi_rgS g14) (gi_rgS g15) dX12_makes_59 (by decide) (fun z => absurd z c16) (fun _ => ?_)
    refine gy_iconst dX12_makes_62 ?_
    refine gx_istore (ls2 := [(6, .int (gI (0 : Int))), (0, .ref v0), (1, .ref v1), (2, .ref v2), (3, .int (gI v3)), (4, .int (gI v4)), (5, .int (gI v5))]) dX12_makes_63 (Nat.le_of_ble_eq_true rfl) rfl ?_
    refine gx_sub (ls2 := [(0, .ref v0), (1, .ref v1), (2, .ref v2), (3, .int (gI v3)), (4, .int (gI v4)), (5, .int (gI v5)), (6, .int (gI (0 : Int)))]) [1, 2, 3, 4, 5, 6, 0] rfl ?_
    exact zl_X12_makes_65 hr55 n _ _ _ _ _ _ _ _ e
def l_X12_makes_55 (n : Nat)  : Nat → Nat → Nat → Nat → Int → Int → Int → gi_H → Option (Int × gi_H)
  | 0, _, _, _, _, _, _, _ => none
  | k + 1, v0, v1, v2, v3, v4, v5, h => b_X12_makes_55 n  (l_X12_makes_55 n  k) v0 v1 v2 v3 v4 v5 h
theorem zl_X12_makes_55 {al : Bool} {n : Nat}  {res : Int} {h1 : gi_H}  : ∀ (k : Nat) (v0 : Nat) (v1 : Nat) (v2 : Nat) (v3 : Int) (v4 : Int) (v5 : Int) (h : gi_H), l_X12_makes_55 n  k v0 v1 v2 v3 v4 v5 h = some (res, h1) → gx_Z mX12_makes al al 0 0 55 [(0, .ref v0), (1, .ref v1), (2, .ref v2), (3, .int (gI v3)), (4, .int (gI v4)), (5, .int (gI v5))] [] (gi_cv h) (.inl (some (.int (gI res)))) (gi_cv h1)
  | 0, _, _, _, _, _, _, _, e => gx_0E e
  | k + 1, _, _, _, _, _, _, _, e => zb_X12_makes_55 (n := n)  (zl_X12_makes_55  k) e
set_option maxRecDepth 100000 in
def b_X12_makes_31 (n : Nat)  (v0 : Nat) (v1 : Nat) (v2 : Nat) (v3 : Int)  (h : gi_H) : Option (Int × gi_H) :=
  Option.bind (gi_gR h v0 10 24) fun t9 => Option.bind (gi_aI h 1 t9 (24 : Int)) fun t10 => Option.bind (gi_s1 h v1 t10 (768 : Int)) fun h11 => Option.bind (gi_is h11 v0 10) fun _ => Option.bind (f_X12_closure n v0 v1 (0 : Int) h11) fun q13 => l_X12_makes_55 n  n v0 v1 v2 v3 (1 : Int) (0 : Int) q13
set_option maxRecDepth 100000 in
theorem zb_X12_makes_31 {al : Bool} {n : Nat}  {res : Int} {h1 : gi_H}  {v0 : Nat} {v1 : Nat} {v2 : Nat} {v3 : Int}  {h : gi_H} (e : b_X12_makes_31 n v0 v1 v2 v3 h = some (res, h1)) : gx_Z mX12_makes al al 0 0 31 [(0, .ref v0), (1, .ref v1), (2, .ref v2), (3, .int (gI v3))] [] (gi_cv h) (.inl (some (.int (gI res)))) (gi_cv h1) := by
  refine gx_aload_n dX12_makes_31 rfl 1 rfl ?_
  refine gx_aload_n dX12_makes_32 rfl 0 rfl ?_
  refine gx_bE e (fun t9 ht9 e => ?_)
  refine gy_fR ht9 dX12_makes_33 gf_RX12_68_10_24 (by decide) gkN_10_24 gkR_10_24 ?_
  refine gy_bipush dX12_makes_36 gcb_24 ?_
  refine gx_bE e (fun t10 ht10 e => ?_)
  refine gy_l1 ht10 dX12_makes_38 ?_
  refine gy_sipush dX12_makes_39 gcs_768 ?_
  refine gx_bE e (fun h11 hh11 e => ?_)
  refine gy_t1 hh11 dX12_makes_42 ?_
  refine gx_aload_n dX12_makes_43 rfl 0 rfl ?_
  refine gx_aload_n dX12_makes_44 rfl 1 rfl ?_
  refine gy_iconst dX12_makes_45 ?_
  refine gx_bE e (fun _ hu12 e => ?_)
  refine gx_bE e (fun q13 hq13 e => ?_)
  refine gx_callV (n := 2) (st := []) (As := [.ref v1, .int (gI (0 : Int))]) (b := v0) dX12_makes_46 (z_X12_closure hq13) rfl ⟨rfl, gw_cw_X12_closure, gw_14, gp_X12_closure, ⟨Nat.le_of_ble_eq_true rfl, Nat.le_of_ble_eq_true rfl⟩⟩ (gi_isS hu12) (by decide) gw_1668 gw_1670 gs_84 rfl ⟨Nat.le_of_ble_eq_true rfl, Nat.le_of_ble_eq_true rfl⟩ (Nat.le_of_ble_eq_true rfl) (gy_k0 (kc2 := 0) (ks2 := 0) ⟨rfl, rfl⟩ ?_) gy_kn
  refine gy_iconst dX12_makes_49 ?_
  refine gx_istore (ls2 := [(4, .int (gI (1 : Int))), (0, .ref v0), (1, .ref v1), (2, .ref v2), (3, .int (gI v3))]) dX12_makes_50 (Nat.le_of_ble_eq_true rfl) rfl ?_
  refine gy_iconst dX12_makes_52 ?_
  refine gx_istore (ls2 := [(5, .int (gI (0 : Int))), (4, .int (gI (1 : Int))), (0, .ref v0), (1, .ref v1), (2, .ref v2), (3, .int (gI v3))]) dX12_makes_53 (Nat.le_of_ble_eq_true rfl) rfl ?_
  refine gx_sub (ls2 := [(0, .ref v0), (1, .ref v1), (2, .ref v2), (3, .int (gI v3)), (4, .int (gI (1 : Int))), (5, .int (gI (0 : Int)))]) [2, 3, 4, 5, 1, 0] rfl ?_
  exact zl_X12_makes_55  n _ _ _ _ _ _ _ e
set_option maxRecDepth 100000 in
def b_X12_makes_11 (n : Nat) (r11 : Nat → Nat → Nat → Int → Int → gi_H → Option (Int × gi_H)) (v0 : Nat) (v1 : Nat) (v2 : Nat) (v3 : Int) (v4 : Int)  (h : gi_H) : Option (Int × gi_H) :=
  Option.bind (gi_gI h v0 10 25) fun t5 => Option.bind (gi_rg v4) fun _ => Option.bind (gi_rg t5) fun _ => if t5 ≤ v4 then (b_X12_makes_31 n  v0 v1 v2 v3 h) else (Option.bind (gi_s1 h v1 v4 (0 : Int)) fun h51 => gx_nm (v4 + (1 : Int)) fun t52 => r11 v0 v1 v2 v3 t52 h51)
set_option maxRecDepth 100000 in
theorem zb_X12_makes_11 {al : Bool} {n : Nat} {r11 : Nat → Nat → Nat → Int → Int → gi_H → Option (Int × gi_H)} {res : Int} {h1 : gi_H} (hr11 : ∀ (x0 : Nat) (x1 : Nat) (x2 : Nat) (x3 : Int) (x4 : Int) (hh : gi_H), r11 x0 x1 x2 x3 x4 hh = some (res, h1) → gx_Z mX12_makes al al 0 0 11 [(0, .ref x0), (1, .ref x1), (2, .ref x2), (3, .int (gI x3)), (4, .int (gI x4))] [] (gi_cv hh) (.inl (some (.int (gI res)))) (gi_cv h1)) {v0 : Nat} {v1 : Nat} {v2 : Nat} {v3 : Int} {v4 : Int}  {h : gi_H} (e : b_X12_makes_11 n r11 v0 v1 v2 v3 v4 h = some (res, h1)) : gx_Z mX12_makes al al 0 0 11 [(0, .ref v0), (1, .ref v1), (2, .ref v2), (3, .int (gI v3)), (4, .int (gI v4))] [] (gi_cv h) (.inl (some (.int (gI res)))) (gi_cv h1) := by
  refine gx_iload dX12_makes_11 4 rfl ?_
  refine gx_aload_n dX12_makes_13 rfl 0 rfl ?_
  refine gx_bE e (fun t5 ht5 e => ?_)
  refine gy_fI ht5 dX12_makes_14 gf_RX12_221_10_25 (by decide) gkN_10_25 gkR_10_25 ?_
  refine gx_bE e (fun _ g6 e => ?_)
  refine gx_bE e (fun _ g7 e => ?_)
  refine gx_iE e (fun c8 e => ?_) (fun c8 e => ?_)
  · refine gy_icmp_ge (tgt := 31) (gi_rgS g6) (gi_rgS g7) dX12_makes_17 (by decide) (fun _ => ?_) (fun z => absurd c8 z)
    refine gx_sub (ls2 := [(0, .ref v0), (1, .ref v1), (2, .ref v2), (3, .int (gI v3))]) [0, 1, 2, 3] rfl ?_
    exact zb_X12_makes_31  e
  · refine gy_icmp_ge (tgt := 31) (gi_rgS g6) (gi_rgS g7) dX12_makes_17 (by decide) (fun z => absurd z c8) (fun _ => ?_)
    refine gx_aload_n dX12_makes_20 rfl 1 rfl ?_
    refine gx_iload dX12_makes_21 4 rfl ?_
    refine gy_iconst dX12_makes_23 ?_
    refine gx_bE e (fun h51 hh51 e => ?_)
    refine gy_t1 hh51 dX12_makes_24 ?_
    refine gx_nE e (fun t52 ht52 e => ?_)
    refine gy_iinc (v := t52) (ls2 := [(4, .int (gI t52)), (0, .ref v0), (1, .ref v1), (2, .ref v2), (3, .int (gI v3))]) dX12_makes_25 4 rfl ht52 (Nat.le_of_ble_eq_true rfl) rfl ?_
    refine gx_goto (tgt := 11) dX12_makes_28 (by decide) ?_
    refine gx_sub (ls2 := [(0, .ref v0), (1, .ref v1), (2, .ref v2), (3, .int (gI v3)), (4, .int (gI t52))]) [1, 2, 3, 4, 0] rfl ?_
    exact hr11 _ _ _ _ _ _ e
def l_X12_makes_11 (n : Nat)  : Nat → Nat → Nat → Nat → Int → Int → gi_H → Option (Int × gi_H)
  | 0, _, _, _, _, _, _ => none
  | k + 1, v0, v1, v2, v3, v4, h => b_X12_makes_11 n  (l_X12_makes_11 n  k) v0 v1 v2 v3 v4 h
theorem zl_X12_makes_11 {al : Bool} {n : Nat}  {res : Int} {h1 : gi_H}  : ∀ (k : Nat) (v0 : Nat) (v1 : Nat) (v2 : Nat) (v3 : Int) (v4 : Int) (h : gi_H), l_X12_makes_11 n  k v0 v1 v2 v3 v4 h = some (res, h1) → gx_Z mX12_makes al al 0 0 11 [(0, .ref v0), (1, .ref v1), (2, .ref v2), (3, .int (gI v3)), (4, .int (gI v4))] [] (gi_cv h) (.inl (some (.int (gI res)))) (gi_cv h1)
  | 0, _, _, _, _, _, _, e => gx_0E e
  | k + 1, _, _, _, _, _, _, e => zb_X12_makes_11 (n := n)  (zl_X12_makes_11  k) e
set_option maxRecDepth 100000 in
def f_X12_makes (n : Nat) (v0 : Nat) (v1 : Nat) (v2 : Nat) (v3 : Int) (h : gi_H) : Option (Int × gi_H) :=
  Option.bind (gi_is h v0 10) fun _ => Option.bind (f_X12_finds n v0 h) fun q2 => Option.bind (gi_is q2 v0 10) fun _ => Option.bind (f_X12_numbers n v0 q2) fun q4 => l_X12_makes_11 n  n v0 v1 v2 v3 (0 : Int) q4
set_option maxRecDepth 100000 in
theorem z_X12_makes {al : Bool} {n : Nat} {v0 : Nat} {v1 : Nat} {v2 : Nat} {v3 : Int} {h : gi_H} {res : Int} {h1 : gi_H} (e : f_X12_makes n v0 v1 v2 v3 h = some (res, h1)) : gx_Cw mX12_makes al [.ref v0, .ref v1, .ref v2, .int (gI v3)] (gi_cv h) (.inl (some (.int (gI res)))) (gi_cv h1) := by
  refine gx_enter (by decide +kernel) rfl (Nat.le_of_ble_eq_true rfl) ?_
  show gx_Z mX12_makes al al 0 0 0 [(0, .ref v0), (1, .ref v1), (2, .ref v2), (3, .int (gI v3))] [] (gi_cv h) (.inl (some (.int (gI res)))) (gi_cv h1)
  refine gx_aload_n dX12_makes_0 rfl 0 rfl ?_
  refine gx_bE e (fun _ hu1 e => ?_)
  refine gx_bE e (fun q2 hq2 e => ?_)
  refine gx_callV (n := 0) (st := []) (As := []) (b := v0) dX12_makes_1 (z_X12_finds hq2) rfl ⟨rfl, gw_cw_X12_finds, gw_14, gp_X12_finds, ⟨Nat.le_of_ble_eq_true rfl, Nat.le_of_ble_eq_true rfl⟩⟩ (gi_isS hu1) (by decide) gw_1587 gw_1589 gs_72 rfl ⟨Nat.le_of_ble_eq_true rfl, Nat.le_of_ble_eq_true rfl⟩ (Nat.le_of_ble_eq_true rfl) (gy_k0 (kc2 := 0) (ks2 := 0) ⟨rfl, rfl⟩ ?_) gy_kn
  refine gx_aload_n dX12_makes_4 rfl 0 rfl ?_
  refine gx_bE e (fun _ hu3 e => ?_)
  refine gx_bE e (fun q4 hq4 e => ?_)
  refine gx_callV (n := 0) (st := []) (As := []) (b := v0) dX12_makes_5 (z_X12_numbers hq4) rfl ⟨rfl, gw_cw_X12_numbers, gw_14, gp_X12_numbers, ⟨Nat.le_of_ble_eq_true rfl, Nat.le_of_ble_eq_true rfl⟩⟩ (gi_isS hu3) (by decide) gw_1664 gw_1666 gs_83 rfl ⟨Nat.le_of_ble_eq_true rfl, Nat.le_of_ble_eq_true rfl⟩ (Nat.le_of_ble_eq_true rfl) (gy_k0 (kc2 := 0) (ks2 := 0) ⟨rfl, rfl⟩ ?_) gy_kn
  refine gy_iconst dX12_makes_8 ?_
  refine gx_istore (ls2 := [(4, .int (gI (0 : Int))), (0, .ref v0), (1, .ref v1), (2, .ref v2), (3, .int (gI v3))]) dX12_makes_9 (Nat.le_of_ble_eq_true rfl) rfl ?_
  refine gx_sub (ls2 := [(0, .ref v0), (1, .ref v1), (2, .ref v2), (3, .int (gI v3)), (4, .int (gI (0 : Int)))]) [1, 2, 3, 4, 0] rfl ?_
  exact zl_X12_makes_11  n _ _ _ _ _ _ e
/-! X12_wholes  -/
set_option maxRecDepth 100000 in
def f_X12_wholes (n : Nat) (v0 : Nat) (h : gi_H) : Option (gi_H) :=
  Option.bind (gi_gI h v0 10 35) fun t1 => Option.bind (gi_rg t1) fun _ => if t1 = 0 then (Option.bind (gi_pZ h v0 10 35 (1 : Int)) fun h4 => Option.bind (gi_gR h4 v0 10 30) fun t5 => Option.bind (gi_gR h4 v0 10 31) fun t6 => Option.bind (gi_is h4 v0 10) fun _ => Option.bind (f_X12_makes n v0 t5 t6 (0 : Int) h4) fun q8 => Option.bind (gi_pI q8.2 v0 10 32 q8.1) fun h9 => some h9) else (some h)
set_option maxRecDepth 100000 in
theorem z_X12_wholes {al : Bool} {n : Nat} {v0 : Nat} {h : gi_H} {h1 : gi_H} (e : f_X12_wholes n v0 h = some h1) : gx_Cw mX12_wholes al [.ref v0] (gi_cv h) (.inl none) (gi_cv h1) := by
  refine gx_enter (by decide +kernel) rfl (Nat.le_of_ble_eq_true rfl) ?_
  show gx_Z mX12_wholes al al 0 0 0 [(0, .ref v0)] [] (gi_cv h) (.inl none) (gi_cv h1)
  refine gx_aload_n dX12_wholes_0 rfl 0 rfl ?_
  refine gx_bE e (fun t1 ht1 e => ?_)
  refine gy_fI ht1 dX12_wholes_1 gf_RX12_115_10_35 (by decide) gkN_10_35 gkR_10_35 ?_
  refine gx_bE e (fun _ g2 e => ?_)
  refine gx_iE e (fun c3 e => ?_) (fun c3 e => ?_)
  · refine gy_if_ne (tgt := 29) (gi_rgS g2) dX12_wholes_4 (by decide) (fun z => absurd c3 z) (fun _ => ?_)
    refine gx_aload_n dX12_wholes_7 rfl 0 rfl ?_
    refine gy_iconst dX12_wholes_8 ?_
    refine gx_bE e (fun h4 hh4 e => ?_)
    refine gy_qZ hh4 dX12_wholes_9 gf_RX12_115_10_35 (by decide) gkN_10_35 rfl (Or.inl rfl) ?_
    refine gx_aload_n dX12_wholes_12 rfl 0 rfl ?_
    refine gx_aload_n dX12_wholes_13 rfl 0 rfl ?_
    refine gx_aload_n dX12_wholes_14 rfl 0 rfl ?_
    refine gx_bE e (fun t5 ht5 e => ?_)
    refine gy_fR ht5 dX12_wholes_15 gf_RX12_80_10_30 (by decide) gkN_10_30 gkR_10_30 ?_
    refine gx_aload_n dX12_wholes_18 rfl 0 rfl ?_
    refine gx_bE e (fun t6 ht6 e => ?_)
    refine gy_fR ht6 dX12_wholes_19 gf_RX12_83_10_31 (by decide) gkN_10_31 gkR_10_31 ?_
    refine gy_iconst dX12_wholes_22 ?_
    refine gx_bE e (fun _ hu7 e => ?_)
    refine gx_bE e (fun q8 hq8 e => ?_)
    refine gx_callV (n := 3) (st := [.ref v0]) (As := [.ref t5, .ref t6, .int (gI (0 : Int))]) (b := v0) dX12_wholes_23 (z_X12_makes hq8) rfl ⟨rfl, gw_cw_X12_makes, gw_14, gp_X12_makes, ⟨Nat.le_of_ble_eq_true rfl, Nat.le_of_ble_eq_true rfl⟩⟩ (gi_isS hu7) (by decide) gw_1660 gw_1662 gs_82 rfl ⟨Nat.le_of_ble_eq_true rfl, Nat.le_of_ble_eq_true rfl⟩ (Nat.le_of_ble_eq_true rfl) (gy_k1 (x := .int (gI q8.1)) (kc2 := 0) (ks2 := 0) ⟨rfl, rfl⟩ ?_) gy_kn
    refine gx_bE e (fun h9 hh9 e => ?_)
    refine gy_qI hh9 dX12_wholes_26 gf_RX12_260_10_32 (by decide) gkN_10_32 rfl (Or.inl rfl) ?_
    cases e
    exact gx_vret dX12_wholes_29 rfl ⟨Nat.le_of_ble_eq_true rfl, Nat.le_of_ble_eq_true rfl⟩ (fun z => z)
  · refine gy_if_ne (tgt := 29) (gi_rgS g2) dX12_wholes_4 (by decide) (fun _ => ?_) (fun z => absurd z c3)
    cases e
    exact gx_vret dX12_wholes_29 rfl ⟨Nat.le_of_ble_eq_true rfl, Nat.le_of_ble_eq_true rfl⟩ (fun z => z)
/-! X12_spreads  -/
set_option maxRecDepth 100000 in
def b_X12_spreads_168 (n : Nat) (r4 : Nat → Int → Int → Int → gi_H → Option (Int × gi_H)) (v0 : Nat) (v1 : Int) (v2 : Int) (v3 : Int)  (h : gi_H) : Option (Int × gi_H) :=
  gx_nm (v3 + (1 : Int)) fun t18 => r4 v0 v1 v2 t18 h
set_option maxRecDepth 100000 in
theorem zb_X12_spreads_168 {al : Bool} {n : Nat} {r4 : Nat → Int → Int → Int → gi_H → Option (Int × gi_H)} {res : Int} {h1 : gi_H} (hr4 : ∀ (x0 : Nat) (x1 : Int) (x2 : Int) (x3 : Int) (hh : gi_H), r4 x0 x1 x2 x3 hh = some (res, h1) → gx_Z mX12_spreads al al 0 0 4 [(0, .ref x0), (1, .int (gI x1)), (2, .int (gI x2)), (3, .int (gI x3))] [] (gi_cv hh) (.inl (some (.int (gI res)))) (gi_cv h1)) {v0 : Nat} {v1 : Int} {v2 : Int} {v3 : Int}  {h : gi_H} (e : b_X12_spreads_168 n r4 v0 v1 v2 v3 h = some (res, h1)) : gx_Z mX12_spreads al al 0 0 168 [(0, .ref v0), (1, .int (gI v1)), (2, .int (gI v2)), (3, .int (gI v3))] [] (gi_cv h) (.inl (some (.int (gI res)))) (gi_cv h1) := by
  refine gx_nE e (fun t18 ht18 e => ?_)
  refine gy_iinc (v := t18) (ls2 := [(3, .int (gI t18)), (0, .ref v0), (1, .int (gI v1)), (2, .int (gI v2))]) dX12_spreads_168 3 rfl ht18 (Nat.le_of_ble_eq_true rfl) rfl ?_
  refine gx_goto (tgt := 4) dX12_spreads_171 (by decide) ?_
  refine gx_sub (ls2 := [(0, .ref v0), (1, .int (gI v1)), (2, .int (gI v2)), (3, .int (gI t18))]) [1, 2, 3, 0] rfl ?_
  exact hr4 _ _ _ _ _ e
set_option maxRecDepth 100000 in
def b_X12_spreads_162 (n : Nat) (r4 : Nat → Int → Int → Int → gi_H → Option (Int × gi_H)) (r41 : Nat → Int → Int → Int → Int → Int → gi_H → Option (Int × gi_H)) (v0 : Nat) (v1 : Int) (v2 : Int) (v3 : Int) (v4 : Int) (v5 : Int)  (h : gi_H) : Option (Int × gi_H) :=
  gx_nm (v5 + (1 : Int)) fun t33 => r41 v0 v1 v2 v3 v4 t33 h
set_option maxRecDepth 100000 in
theorem zb_X12_spreads_162 {al : Bool} {n : Nat} {r4 : Nat → Int → Int → Int → gi_H → Option (Int × gi_H)} {r41 : Nat → Int → Int → Int → Int → Int → gi_H → Option (Int × gi_H)} {res : Int} {h1 : gi_H} (hr4 : ∀ (x0 : Nat) (x1 : Int) (x2 : Int) (x3 : Int) (hh : gi_H), r4 x0 x1 x2 x3 hh = some (res, h1) → gx_Z mX12_spreads al al 0 0 4 [(0, .ref x0), (1, .int (gI x1)), (2, .int (gI x2)), (3, .int (gI x3))] [] (gi_cv hh) (.inl (some (.int (gI res)))) (gi_cv h1)) (hr41 : ∀ (x0 : Nat) (x1 : Int) (x2 : Int) (x3 : Int) (x4 : Int) (x5 : Int) (hh : gi_H), r41 x0 x1 x2 x3 x4 x5 hh = some (res, h1) → gx_Z mX12_spreads al al 0 0 41 [(0, .ref x0), (1, .int (gI x1)), (2, .int (gI x2)), (3, .int (gI x3)), (4, .int (gI x4)), (5, .int (gI x5))] [] (gi_cv hh) (.inl (some (.int (gI res)))) (gi_cv h1)) {v0 : Nat} {v1 : Int} {v2 : Int} {v3 : Int} {v4 : Int} {v5 : Int}  {h : gi_H} (e : b_X12_spreads_162 n r4 r41 v0 v1 v2 v3 v4 v5 h = some (res, h1)) : gx_Z mX12_spreads al al 0 0 162 [(0, .ref v0), (1, .int (gI v1)), (2, .int (gI v2)), (3, .int (gI v3)), (4, .int (gI v4)), (5, .int (gI v5))] [] (gi_cv h) (.inl (some (.int (gI res)))) (gi_cv h1) := by
  refine gx_nE e (fun t33 ht33 e => ?_)
  refine gy_iinc (v := t33) (ls2 := [(5, .int (gI t33)), (0, .ref v0), (1, .int (gI v1)), (2, .int (gI v2)), (3, .int (gI v3)), (4, .int (gI v4))]) dX12_spreads_162 5 rfl ht33 (Nat.le_of_ble_eq_true rfl) rfl ?_
  refine gx_goto (tgt := 41) dX12_spreads_165 (by decide) ?_
  refine gx_sub (ls2 := [(0, .ref v0), (1, .int (gI v1)), (2, .int (gI v2)), (3, .int (gI v3)), (4, .int (gI v4)), (5, .int (gI t33))]) [1, 2, 3, 4, 5, 0] rfl ?_
  exact hr41 _ _ _ _ _ _ _ e
set_option maxRecDepth 100000 in
def b_X12_spreads_41 (n : Nat) (r4 : Nat → Int → Int → Int → gi_H → Option (Int × gi_H)) (r41 : Nat → Int → Int → Int → Int → Int → gi_H → Option (Int × gi_H)) (v0 : Nat) (v1 : Int) (v2 : Int) (v3 : Int) (v4 : Int) (v5 : Int)  (h : gi_H) : Option (Int × gi_H) :=
  Option.bind (gi_is h v0 10) fun _ => Option.bind (f_X12_sizeOf v0 v4 h) fun q14 => Option.bind (gi_rg v5) fun _ => Option.bind (gi_rg q14) fun _ => if q14 ≤ v5 then (b_X12_spreads_168 n r4 v0 v1 v2 v3 h) else (Option.bind (gi_gR h v0 10 27) fun t19 => Option.bind (gi_gR h v0 10 24) fun t20 => Option.bind (gi_aI h 1 t20 v4) fun t21 => Option.bind (gi_aI h 1 t19 ((((146 : Int) * v1) + t21) + v5)) fun t22 => Option.bind (gi_gR h v0 10 28) fun t23 => Option.bind (gi_is h v0 10) fun _ => Option.bind (f_X12_symbol v0 v4 v5 h) fun q25 => Option.bind (f_X12_index q25 h) fun q26 => Option.bind (gi_aI h 1 t23 (((24 : Int) * v1) + q26)) fun t27 => Option.bind (gi_gR h v0 10 24) fun t28 => Option.bind (gi_aI h 1 t28 v4) fun t29 => gx_nm (((((146 : Int) * t27) + t29) + v5) + (1 : Int)) fun t30 => Option.bind (gi_rg (gi_and t22 (512 : Int))) fun _ => if (gi_and t22 (512 : Int)) = 0 then (b_X12_spreads_162 n r4 r41 v0 v1 v2 v3 v4 v5 h) else (Option.bind (gi_gR h v0 10 27) fun t34 => Option.bind (gi_aI h 1 t34 t30) fun t35 => Option.bind (gi_gR h v0 10 27) fun t36 => Option.bind (gi_aI h 1 t36 t30) fun t37 => Option.bind (gi_rg (gi_or t35 t22)) fun _ => Option.bind (gi_rg t37) fun _ => if (gi_or t35 t22) = t37 then (b_X12_spreads_162 n r4 r41 v0 v1 v2 v3 v4 v5 h) else (Option.bind (gi_gR h v0 10 27) fun t41 => Option.bind (gi_aI h 1 t41 t30) fun t42 => Option.bind (gi_s1 h t41 t30 (gi_or t42 t22)) fun h43 => b_X12_spreads_162 n r4 r41 v0 v1 (1 : Int) v3 v4 v5 h43)))
set_option maxRecDepth 100000 in
theorem zb_X12_spreads_41 {al : Bool} {n : Nat} {r4 : Nat → Int → Int → Int → gi_H → Option (Int × gi_H)} {r41 : Nat → Int → Int → Int → Int → Int → gi_H → Option (Int × gi_H)} {res : Int} {h1 : gi_H} (hr4 : ∀ (x0 : Nat) (x1 : Int) (x2 : Int) (x3 : Int) (hh : gi_H), r4 x0 x1 x2 x3 hh = some (res, h1) → gx_Z mX12_spreads al al 0 0 4 [(0, .ref x0), (1, .int (gI x1)), (2, .int (gI x2)), (3, .int (gI x3))] [] (gi_cv hh) (.inl (some (.int (gI res)))) (gi_cv h1)) (hr41 : ∀ (x0 : Nat) (x1 : Int) (x2 : Int) (x3 : Int) (x4 : Int) (x5 : Int) (hh : gi_H), r41 x0 x1 x2 x3 x4 x5 hh = some (res, h1) → gx_Z mX12_spreads al al 0 0 41 [(0, .ref x0), (1, .int (gI x1)), (2, .int (gI x2)), (3, .int (gI x3)), (4, .int (gI x4)), (5, .int (gI x5))] [] (gi_cv hh) (.inl (some (.int (gI res)))) (gi_cv h1)) {v0 : Nat} {v1 : Int} {v2 : Int} {v3 : Int} {v4 : Int} {v5 : Int}  {h : gi_H} (e : b_X12_spreads_41 n r4 r41 v0 v1 v2 v3 v4 v5 h = some (res, h1)) : gx_Z mX12_spreads al al 0 0 41 [(0, .ref v0), (1, .int (gI v1)), (2, .int (gI v2)), (3, .int (gI v3)), (4, .int (gI v4)), (5, .int (gI v5))] [] (gi_cv h) (.inl (some (.int (gI res)))) (gi_cv h1) := by
  refine gx_iload dX12_spreads_41 5 rfl ?_
  refine gx_aload_n dX12_spreads_43 rfl 0 rfl ?_
  refine gx_iload dX12_spreads_44 4 rfl ?_
  refine gx_bE e (fun _ hu13 e => ?_)
  refine gx_bE e (fun q14 hq14 e => ?_)
  refine gx_callV (n := 1) (st := [.int (gI v5)]) (As := [.int (gI v4)]) (b := v0) dX12_spreads_46 (z_X12_sizeOf hq14) rfl ⟨rfl, gw_cw_X12_sizeOf, gw_14, gp_X12_sizeOf, ⟨Nat.le_of_ble_eq_true rfl, Nat.le_of_ble_eq_true rfl⟩⟩ (gi_isS hu13) (by decide) gw_1579 gw_1581 gs_71 rfl ⟨Nat.le_of_ble_eq_true rfl, Nat.le_of_ble_eq_true rfl⟩ (Nat.le_of_ble_eq_true rfl) (gy_k1 (x := .int (gI q14)) (kc2 := 0) (ks2 := 0) ⟨rfl, rfl⟩ ?_) gy_kn
  refine gx_bE e (fun _ g15 e => ?_)
  refine gx_bE e (fun _ g16 e => ?_)
  refine gx_iE e (fun c17 e => ?_) (fun c17 e => ?_)
  · refine gy_icmp_ge (tgt := 168) (gi_rgS g15) (gi_rgS g16) dX12_spreads_49 (by decide) (fun _ => ?_) (fun z => absurd c17 z)
    refine gx_sub (ls2 := [(0, .ref v0), (1, .int (gI v1)), (2, .int (gI v2)), (3, .int (gI v3))]) [0, 1, 2, 3] rfl ?_
    exact zb_X12_spreads_168 hr4 e
  · refine gy_icmp_ge (tgt := 168) (gi_rgS g15) (gi_rgS g16) dX12_spreads_49 (by decide) (fun z => absurd z c17) (fun _ => ?_)
    refine gx_aload_n dX12_spreads_52 rfl 0 rfl ?_
    refine gx_bE e (fun t19 ht19 e => ?_)
    refine gy_fR ht19 dX12_spreads_53 gf_RX12_74_10_27 (by decide) gkN_10_27 gkR_10_27 ?_
    refine gy_sipush dX12_spreads_56 gcs_146 ?_
    refine gx_iload_n dX12_spreads_59 rfl 1 rfl ?_
    refine gy_imul dX12_spreads_60 ?_
    refine gx_aload_n dX12_spreads_61 rfl 0 rfl ?_
    refine gx_bE e (fun t20 ht20 e => ?_)
    refine gy_fR ht20 dX12_spreads_62 gf_RX12_68_10_24 (by decide) gkN_10_24 gkR_10_24 ?_
    refine gx_iload dX12_spreads_65 4 rfl ?_
    refine gx_bE e (fun t21 ht21 e => ?_)
    refine gy_l1 ht21 dX12_spreads_67 ?_
    refine gy_iadd dX12_spreads_68 ?_
    refine gx_iload dX12_spreads_69 5 rfl ?_
    refine gy_iadd dX12_spreads_71 ?_
    refine gx_bE e (fun t22 ht22 e => ?_)
    refine gy_l1 ht22 dX12_spreads_72 ?_
    refine gx_istore (ls2 := [(6, .int (gI t22)), (0, .ref v0), (1, .int (gI v1)), (2, .int (gI v2)), (3, .int (gI v3)), (4, .int (gI v4)), (5, .int (gI v5))]) dX12_spreads_73 (Nat.le_of_ble_eq_true rfl) rfl ?_
    refine gx_aload_n dX12_spreads_75 rfl 1 rfl ?_
    refine gx_bE e (fun t23 ht23 e => ?_)
    refine gy_fR ht23 dX12_spreads_76 gf_RX12_77_10_28 (by decide) gkN_10_28 gkR_10_28 ?_
    refine gy_bipush dX12_spreads_79 gcb_24 ?_
    refine gx_iload_n dX12_spreads_81 rfl 2 rfl ?_
    refine gy_imul dX12_spreads_82 ?_
    refine gx_aload_n dX12_spreads_83 rfl 1 rfl ?_
    refine gx_iload dX12_spreads_84 5 rfl ?_
    refine gx_iload dX12_spreads_86 6 rfl ?_
    refine gx_bE e (fun _ hu24 e => ?_)
    refine gx_bE e (fun q25 hq25 e => ?_)
    refine gx_callV (n := 2) (st := [.int (gI ((24 : Int) * v1)), .ref t23]) (As := [.int (gI v4), .int (gI v5)]) (b := v0) dX12_spreads_88 (z_X12_symbol hq25) rfl ⟨rfl, gw_cw_X12_symbol, gw_14, gp_X12_symbol, ⟨Nat.le_of_ble_eq_true rfl, Nat.le_of_ble_eq_true rfl⟩⟩ (gi_isS hu24) (by decide) gw_1575 gw_1577 gs_70 rfl ⟨Nat.le_of_ble_eq_true rfl, Nat.le_of_ble_eq_true rfl⟩ (Nat.le_of_ble_eq_true rfl) (gy_k1 (x := .int (gI q25)) (kc2 := 0) (ks2 := 0) ⟨rfl, rfl⟩ ?_) gy_kn
    refine gx_bE e (fun q26 hq26 e => ?_)
    refine gx_callS (n := 1) (st := [.int (gI ((24 : Int) * v1)), .ref t23]) (As := [.int (gI q25)]) dX12_spreads_91 (z_X12_index hq26) rfl ⟨rfl, gw_cw_X12_index, gw_14, gp_X12_index, ⟨Nat.le_of_ble_eq_true rfl, Nat.le_of_ble_eq_true rfl⟩⟩ gw_1684 gw_1685 ⟨Nat.le_of_ble_eq_true rfl, Nat.le_of_ble_eq_true rfl⟩ (Nat.le_of_ble_eq_true rfl) (gy_k1 (x := .int (gI q26)) (kc2 := 0) (ks2 := 0) ⟨rfl, rfl⟩ ?_) gy_kn
    refine gy_iadd dX12_spreads_94 ?_
    refine gx_bE e (fun t27 ht27 e => ?_)
    refine gy_l1 ht27 dX12_spreads_95 ?_
    refine gx_istore (ls2 := [(7, .int (gI t27)), (6, .int (gI t22)), (0, .ref v0), (1, .int (gI v1)), (2, .int (gI v2)), (3, .int (gI v3)), (4, .int (gI v4)), (5, .int (gI v5))]) dX12_spreads_96 (Nat.le_of_ble_eq_true rfl) rfl ?_
    refine gy_sipush dX12_spreads_98 gcs_146 ?_
    refine gx_iload dX12_spreads_101 0 rfl ?_
    refine gy_imul dX12_spreads_103 ?_
    refine gx_aload_n dX12_spreads_104 rfl 2 rfl ?_
    refine gx_bE e (fun t28 ht28 e => ?_)
    refine gy_fR ht28 dX12_spreads_105 gf_RX12_68_10_24 (by decide) gkN_10_24 gkR_10_24 ?_
    refine gx_iload dX12_spreads_108 6 rfl ?_
    refine gx_bE e (fun t29 ht29 e => ?_)
    refine gy_l1 ht29 dX12_spreads_110 ?_
    refine gy_iadd dX12_spreads_111 ?_
    refine gx_iload dX12_spreads_112 7 rfl ?_
    refine gy_iadd dX12_spreads_114 ?_
    refine gy_iconst dX12_spreads_115 ?_
    refine gy_iadd dX12_spreads_116 ?_
    refine gx_nE e (fun t30 ht30 e => ?_)
    rw [ht30]
    refine gx_istore (ls2 := [(8, .int (gI t30)), (7, .int (gI t27)), (6, .int (gI t22)), (0, .ref v0), (1, .int (gI v1)), (2, .int (gI v2)), (3, .int (gI v3)), (4, .int (gI v4)), (5, .int (gI v5))]) dX12_spreads_117 (Nat.le_of_ble_eq_true rfl) rfl ?_
    refine gx_iload dX12_spreads_119 2 rfl ?_
    refine gy_sipush dX12_spreads_121 gcs_512 ?_
    refine gy_iand dX12_spreads_124 ?_
    refine gx_bE e (fun _ g31 e => ?_)
    refine gx_iE e (fun c32 e => ?_) (fun c32 e => ?_)
    · refine gy_if_eq (tgt := 162) (gi_rgS g31) dX12_spreads_125 (by decide) (fun _ => ?_) (fun z => absurd c32 z)
      refine gx_sub (ls2 := [(0, .ref v0), (1, .int (gI v1)), (2, .int (gI v2)), (3, .int (gI v3)), (4, .int (gI v4)), (5, .int (gI v5))]) [3, 4, 5, 6, 7, 8] rfl ?_
      exact zb_X12_spreads_162 hr4 hr41 e
    · refine gy_if_eq (tgt := 162) (gi_rgS g31) dX12_spreads_125 (by decide) (fun z => absurd z c32) (fun _ => ?_)
      refine gx_aload_n dX12_spreads_128 rfl 3 rfl ?_
      refine gx_bE e (fun t34 ht34 e => ?_)
      refine gy_fR ht34 dX12_spreads_129 gf_RX12_74_10_27 (by decide) gkN_10_27 gkR_10_27 ?_
      refine gx_iload dX12_spreads_132 0 rfl ?_
      refine gx_bE e (fun t35 ht35 e => ?_)
      refine gy_l1 ht35 dX12_spreads_134 ?_
      refine gx_iload dX12_spreads_135 2 rfl ?_
      refine gy_ior dX12_spreads_137 ?_
      refine gx_aload_n dX12_spreads_138 rfl 3 rfl ?_
      refine gx_bE e (fun t36 ht36 e => ?_)
      refine gy_fR ht36 dX12_spreads_139 gf_RX12_74_10_27 (by decide) gkN_10_27 gkR_10_27 ?_
      refine gx_iload dX12_spreads_142 0 rfl ?_
      refine gx_bE e (fun t37 ht37 e => ?_)
      refine gy_l1 ht37 dX12_spreads_144 ?_
      refine gx_bE e (fun _ g38 e => ?_)
      refine gx_bE e (fun _ g39 e => ?_)
      refine gx_iE e (fun c40 e => ?_) (fun c40 e => ?_)
      · refine gy_icmp_eq (tgt := 162) (gi_rgS g38) (gi_rgS g39) dX12_spreads_145 (by decide) (fun _ => ?_) (fun z => absurd c40 z)
        refine gx_sub (ls2 := [(0, .ref v0), (1, .int (gI v1)), (2, .int (gI v2)), (3, .int (gI v3)), (4, .int (gI v4)), (5, .int (gI v5))]) [3, 4, 5, 6, 7, 8] rfl ?_
        exact zb_X12_spreads_162 hr4 hr41 e
      · refine gy_icmp_eq (tgt := 162) (gi_rgS g38) (gi_rgS g39) dX12_spreads_145 (by decide) (fun z => absurd z c40) (fun _ => ?_)
        refine gx_aload_n dX12_spreads_148 rfl 3 rfl ?_
        refine gx_bE e (fun t41 ht41 e => ?_)
        refine gy_fR ht41 dX12_spreads_149 gf_RX12_74_10_27 (by decide) gkN_10_27 gkR_10_27 ?_
        refine gx_iload dX12_spreads_152 0 rfl ?_
        refine gx_dup2 dX12_spreads_154 rfl rfl ?_
        refine gx_bE e (fun t42 ht42 e => ?_)
        refine gy_l1 ht42 dX12_spreads_155 ?_
        refine gx_iload dX12_spreads_156 2 rfl ?_
        refine gy_ior dX12_spreads_158 ?_
        refine gx_bE e (fun h43 hh43 e => ?_)
        refine gy_t1 hh43 dX12_spreads_159 ?_
        refine gy_iconst dX12_spreads_160 ?_
        refine gx_istore_n (ls2 := [(2, .int (gI (1 : Int))), (8, .int (gI t30)), (7, .int (gI t27)), (6, .int (gI t22)), (0, .ref v0), (1, .int (gI v1)), (3, .int (gI v3)), (4, .int (gI v4)), (5, .int (gI v5))]) dX12_spreads_161 rfl (Nat.le_of_ble_eq_true rfl) rfl ?_
        refine gx_sub (ls2 := [(0, .ref v0), (1, .int (gI v1)), (2, .int (gI (1 : Int))), (3, .int (gI v3)), (4, .int (gI v4)), (5, .int (gI v5))]) [4, 5, 0, 6, 7, 8] rfl ?_
        exact zb_X12_spreads_162 hr4 hr41 e
def l_X12_spreads_41 (n : Nat) (r4 : Nat → Int → Int → Int → gi_H → Option (Int × gi_H)) : Nat → Nat → Int → Int → Int → Int → Int → gi_H → Option (Int × gi_H)
  | 0, _, _, _, _, _, _, _ => none
  | k + 1, v0, v1, v2, v3, v4, v5, h => b_X12_spreads_41 n r4 (l_X12_spreads_41 n r4 k) v0 v1 v2 v3 v4 v5 h
theorem zl_X12_spreads_41 {al : Bool} {n : Nat} {r4 : Nat → Int → Int → Int → gi_H → Option (Int × gi_H)} {res : Int} {h1 : gi_H} (hr4 : ∀ (x0 : Nat) (x1 : Int) (x2 : Int) (x3 : Int) (hh : gi_H), r4 x0 x1 x2 x3 hh = some (res, h1) → gx_Z mX12_spreads al al 0 0 4 [(0, .ref x0), (1, .int (gI x1)), (2, .int (gI x2)), (3, .int (gI x3))] [] (gi_cv hh) (.inl (some (.int (gI res)))) (gi_cv h1)) : ∀ (k : Nat) (v0 : Nat) (v1 : Int) (v2 : Int) (v3 : Int) (v4 : Int) (v5 : Int) (h : gi_H), l_X12_spreads_41 n r4 k v0 v1 v2 v3 v4 v5 h = some (res, h1) → gx_Z mX12_spreads al al 0 0 41 [(0, .ref v0), (1, .int (gI v1)), (2, .int (gI v2)), (3, .int (gI v3)), (4, .int (gI v4)), (5, .int (gI v5))] [] (gi_cv h) (.inl (some (.int (gI res)))) (gi_cv h1)
  | 0, _, _, _, _, _, _, _, e => gx_0E e
  | k + 1, _, _, _, _, _, _, _, e => zb_X12_spreads_41 (n := n) hr4 (zl_X12_spreads_41 hr4 k) e
set_option maxRecDepth 100000 in
def b_X12_spreads_36 (n : Nat) (r4 : Nat → Int → Int → Int → gi_H → Option (Int × gi_H)) (v0 : Nat) (v1 : Int) (v2 : Int) (v3 : Int) (s0 : Int) (h : gi_H) : Option (Int × gi_H) :=
  l_X12_spreads_41 n r4 n v0 v1 v2 v3 s0 (0 : Int) h
set_option maxRecDepth 100000 in
theorem zb_X12_spreads_36 {al : Bool} {n : Nat} {r4 : Nat → Int → Int → Int → gi_H → Option (Int × gi_H)} {res : Int} {h1 : gi_H} (hr4 : ∀ (x0 : Nat) (x1 : Int) (x2 : Int) (x3 : Int) (hh : gi_H), r4 x0 x1 x2 x3 hh = some (res, h1) → gx_Z mX12_spreads al al 0 0 4 [(0, .ref x0), (1, .int (gI x1)), (2, .int (gI x2)), (3, .int (gI x3))] [] (gi_cv hh) (.inl (some (.int (gI res)))) (gi_cv h1)) {v0 : Nat} {v1 : Int} {v2 : Int} {v3 : Int} {s0 : Int} {h : gi_H} (e : b_X12_spreads_36 n r4 v0 v1 v2 v3 s0 h = some (res, h1)) : gx_Z mX12_spreads al al 0 0 36 [(0, .ref v0), (1, .int (gI v1)), (2, .int (gI v2)), (3, .int (gI v3))] [.int (gI s0)] (gi_cv h) (.inl (some (.int (gI res)))) (gi_cv h1) := by
  refine gx_istore (ls2 := [(4, .int (gI s0)), (0, .ref v0), (1, .int (gI v1)), (2, .int (gI v2)), (3, .int (gI v3))]) dX12_spreads_36 (Nat.le_of_ble_eq_true rfl) rfl ?_
  refine gy_iconst dX12_spreads_38 ?_
  refine gx_istore (ls2 := [(5, .int (gI (0 : Int))), (4, .int (gI s0)), (0, .ref v0), (1, .int (gI v1)), (2, .int (gI v2)), (3, .int (gI v3))]) dX12_spreads_39 (Nat.le_of_ble_eq_true rfl) rfl ?_
  refine gx_sub (ls2 := [(0, .ref v0), (1, .int (gI v1)), (2, .int (gI v2)), (3, .int (gI v3)), (4, .int (gI s0)), (5, .int (gI (0 : Int)))]) [2, 3, 4, 5, 1, 0] rfl ?_
  exact zl_X12_spreads_41 hr4 n _ _ _ _ _ _ _ e
set_option maxRecDepth 100000 in
def b_X12_spreads_4 (n : Nat) (r4 : Nat → Int → Int → Int → gi_H → Option (Int × gi_H)) (v0 : Nat) (v1 : Int) (v2 : Int) (v3 : Int)  (h : gi_H) : Option (Int × gi_H) :=
  Option.bind (gi_gR h v0 10 3) fun t1 => Option.bind (gi_gI h v0 10 9) fun t2 => Option.bind (gi_aI h 1 t1 t2) fun t3 => Option.bind (gi_rg v3) fun _ => Option.bind (gi_rg t3) fun _ => if t3 < v3 then (Option.bind (gi_zo v2) fun _ => some (v2, h)) else (Option.bind (gi_gR h v0 10 3) fun t8 => Option.bind (gi_gI h v0 10 9) fun t9 => Option.bind (gi_aI h 1 t8 t9) fun t10 => Option.bind (gi_rg t10) fun _ => if v3 = t10 then (b_X12_spreads_36 n r4 v0 v1 v2 v3 (24 : Int) h) else (b_X12_spreads_36 n r4 v0 v1 v2 v3 v3 h))
set_option maxRecDepth 100000 in
theorem zb_X12_spreads_4 {al : Bool} {n : Nat} {r4 : Nat → Int → Int → Int → gi_H → Option (Int × gi_H)} {res : Int} {h1 : gi_H} (hr4 : ∀ (x0 : Nat) (x1 : Int) (x2 : Int) (x3 : Int) (hh : gi_H), r4 x0 x1 x2 x3 hh = some (res, h1) → gx_Z mX12_spreads al al 0 0 4 [(0, .ref x0), (1, .int (gI x1)), (2, .int (gI x2)), (3, .int (gI x3))] [] (gi_cv hh) (.inl (some (.int (gI res)))) (gi_cv h1)) {v0 : Nat} {v1 : Int} {v2 : Int} {v3 : Int}  {h : gi_H} (e : b_X12_spreads_4 n r4 v0 v1 v2 v3 h = some (res, h1)) : gx_Z mX12_spreads al al 0 0 4 [(0, .ref v0), (1, .int (gI v1)), (2, .int (gI v2)), (3, .int (gI v3))] [] (gi_cv h) (.inl (some (.int (gI res)))) (gi_cv h1) := by
  refine gx_iload_n dX12_spreads_4 rfl 3 rfl ?_
  refine gx_aload_n dX12_spreads_5 rfl 0 rfl ?_
  refine gx_bE e (fun t1 ht1 e => ?_)
  refine gy_fR ht1 dX12_spreads_6 gf_RX12_19_10_3 (by decide) gkN_10_3 gkR_10_3 ?_
  refine gx_aload_n dX12_spreads_9 rfl 0 rfl ?_
  refine gx_bE e (fun t2 ht2 e => ?_)
  refine gy_fI ht2 dX12_spreads_10 gf_RX12_139_10_9 (by decide) gkN_10_9 gkR_10_9 ?_
  refine gx_bE e (fun t3 ht3 e => ?_)
  refine gy_l1 ht3 dX12_spreads_13 ?_
  refine gx_bE e (fun _ g4 e => ?_)
  refine gx_bE e (fun _ g5 e => ?_)
  refine gx_iE e (fun c6 e => ?_) (fun c6 e => ?_)
  · refine gy_icmp_gt (tgt := 174) (gi_rgS g4) (gi_rgS g5) dX12_spreads_14 (by decide) (fun _ => ?_) (fun z => absurd c6 z)
    refine gx_iload_n dX12_spreads_174 rfl 2 rfl ?_
    refine gx_bE e (fun _ hu7 e => ?_)
    cases e
    exact gx_zret (gi_zoS hu7) dX12_spreads_175 rfl ⟨Nat.le_of_ble_eq_true rfl, Nat.le_of_ble_eq_true rfl⟩ (fun z => z)
  · refine gy_icmp_gt (tgt := 174) (gi_rgS g4) (gi_rgS g5) dX12_spreads_14 (by decide) (fun z => absurd z c6) (fun _ => ?_)
    refine gx_iload_n dX12_spreads_17 rfl 3 rfl ?_
    refine gx_aload_n dX12_spreads_18 rfl 0 rfl ?_
    refine gx_bE e (fun t8 ht8 e => ?_)
    refine gy_fR ht8 dX12_spreads_19 gf_RX12_19_10_3 (by decide) gkN_10_3 gkR_10_3 ?_
    refine gx_aload_n dX12_spreads_22 rfl 0 rfl ?_
    refine gx_bE e (fun t9 ht9 e => ?_)
    refine gy_fI ht9 dX12_spreads_23 gf_RX12_139_10_9 (by decide) gkN_10_9 gkR_10_9 ?_
    refine gx_bE e (fun t10 ht10 e => ?_)
    refine gy_l1 ht10 dX12_spreads_26 ?_
    refine gx_bE e (fun _ g11 e => ?_)
    refine gx_iE e (fun c12 e => ?_) (fun c12 e => ?_)
    · refine gy_icmp_ne (tgt := 35) (gi_rgS g4) (gi_rgS g11) dX12_spreads_27 (by decide) (fun z => absurd c12 z) (fun _ => ?_)
      refine gy_bipush dX12_spreads_30 gcb_24 ?_
      refine gx_goto (tgt := 36) dX12_spreads_32 (by decide) ?_
      exact zb_X12_spreads_36 hr4 e
    · refine gy_icmp_ne (tgt := 35) (gi_rgS g4) (gi_rgS g11) dX12_spreads_27 (by decide) (fun _ => ?_) (fun z => absurd z c12)
      refine gx_iload_n dX12_spreads_35 rfl 3 rfl ?_
      exact zb_X12_spreads_36 hr4 e
def l_X12_spreads_4 (n : Nat)  : Nat → Nat → Int → Int → Int → gi_H → Option (Int × gi_H)
  | 0, _, _, _, _, _ => none
  | k + 1, v0, v1, v2, v3, h => b_X12_spreads_4 n  (l_X12_spreads_4 n  k) v0 v1 v2 v3 h
theorem zl_X12_spreads_4 {al : Bool} {n : Nat}  {res : Int} {h1 : gi_H}  : ∀ (k : Nat) (v0 : Nat) (v1 : Int) (v2 : Int) (v3 : Int) (h : gi_H), l_X12_spreads_4 n  k v0 v1 v2 v3 h = some (res, h1) → gx_Z mX12_spreads al al 0 0 4 [(0, .ref v0), (1, .int (gI v1)), (2, .int (gI v2)), (3, .int (gI v3))] [] (gi_cv h) (.inl (some (.int (gI res)))) (gi_cv h1)
  | 0, _, _, _, _, _, e => gx_0E e
  | k + 1, _, _, _, _, _, e => zb_X12_spreads_4 (n := n)  (zl_X12_spreads_4  k) e
set_option maxRecDepth 100000 in
def f_X12_spreads (n : Nat) (v0 : Nat) (v1 : Int) (h : gi_H) : Option (Int × gi_H) :=
  l_X12_spreads_4 n  n v0 v1 (0 : Int) (0 : Int) h
set_option maxRecDepth 100000 in
theorem z_X12_spreads {al : Bool} {n : Nat} {v0 : Nat} {v1 : Int} {h : gi_H} {res : Int} {h1 : gi_H} (e : f_X12_spreads n v0 v1 h = some (res, h1)) : gx_Cw mX12_spreads al [.ref v0, .int (gI v1)] (gi_cv h) (.inl (some (.int (gI res)))) (gi_cv h1) := by
  refine gx_enter (by decide +kernel) rfl (Nat.le_of_ble_eq_true rfl) ?_
  show gx_Z mX12_spreads al al 0 0 0 [(0, .ref v0), (1, .int (gI v1))] [] (gi_cv h) (.inl (some (.int (gI res)))) (gi_cv h1)
  refine gy_iconst dX12_spreads_0 ?_
  refine gx_istore_n (ls2 := [(2, .int (gI (0 : Int))), (0, .ref v0), (1, .int (gI v1))]) dX12_spreads_1 rfl (Nat.le_of_ble_eq_true rfl) rfl ?_
  refine gy_iconst dX12_spreads_2 ?_
  refine gx_istore_n (ls2 := [(3, .int (gI (0 : Int))), (2, .int (gI (0 : Int))), (0, .ref v0), (1, .int (gI v1))]) dX12_spreads_3 rfl (Nat.le_of_ble_eq_true rfl) rfl ?_
  refine gx_sub (ls2 := [(0, .ref v0), (1, .int (gI v1)), (2, .int (gI (0 : Int))), (3, .int (gI (0 : Int)))]) [2, 3, 1, 0] rfl ?_
  exact zl_X12_spreads_4  n _ _ _ _ _ e
/-! X12_merges  -/
set_option maxRecDepth 100000 in
def b_X12_merges_85 (n : Nat) (r32 : Nat → Int → gi_H → Option (gi_H)) (v0 : Nat) (v1 : Int)  (h : gi_H) : Option (gi_H) :=
  r32 v0 v1 h
set_option maxRecDepth 100000 in
theorem zb_X12_merges_85 {al : Bool} {n : Nat} {r32 : Nat → Int → gi_H → Option (gi_H)} {h1 : gi_H} (hr32 : ∀ (x0 : Nat) (x1 : Int) (hh : gi_H), r32 x0 x1 hh = some h1 → gx_Z mX12_merges al al 0 0 32 [(0, .ref x0), (1, .int (gI x1))] [] (gi_cv hh) (.inl none) (gi_cv h1)) {v0 : Nat} {v1 : Int}  {h : gi_H} (e : b_X12_merges_85 n r32 v0 v1 h = some h1) : gx_Z mX12_merges al al 0 0 85 [(0, .ref v0), (1, .int (gI v1))] [] (gi_cv h) (.inl none) (gi_cv h1) := by
  refine gx_goto (tgt := 32) dX12_merges_85 (by decide) ?_
  exact hr32 _ _ _ e
set_option maxRecDepth 100000 in
def b_X12_merges_78 (n : Nat) (r32 : Nat → Int → gi_H → Option (gi_H)) (r40 : Nat → Int → Int → gi_H → Option (gi_H)) (v0 : Nat) (v2 : Int) (s0 : Int) (h : gi_H) : Option (gi_H) :=
  gx_nm (v2 + (1 : Int)) fun t25 => r40 v0 s0 t25 h
set_option maxRecDepth 100000 in
theorem zb_X12_merges_78 {al : Bool} {n : Nat} {r32 : Nat → Int → gi_H → Option (gi_H)} {r40 : Nat → Int → Int → gi_H → Option (gi_H)} {h1 : gi_H} (hr32 : ∀ (x0 : Nat) (x1 : Int) (hh : gi_H), r32 x0 x1 hh = some h1 → gx_Z mX12_merges al al 0 0 32 [(0, .ref x0), (1, .int (gI x1))] [] (gi_cv hh) (.inl none) (gi_cv h1)) (hr40 : ∀ (x0 : Nat) (x1 : Int) (x2 : Int) (hh : gi_H), r40 x0 x1 x2 hh = some h1 → gx_Z mX12_merges al al 0 0 40 [(0, .ref x0), (1, .int (gI x1)), (2, .int (gI x2))] [] (gi_cv hh) (.inl none) (gi_cv h1)) {v0 : Nat} {v2 : Int} {s0 : Int} {h : gi_H} (e : b_X12_merges_78 n r32 r40 v0 v2 s0 h = some h1) : gx_Z mX12_merges al al 0 0 78 [(0, .ref v0), (2, .int (gI v2))] [.int (gI s0)] (gi_cv h) (.inl none) (gi_cv h1) := by
  refine gx_istore_n (ls2 := [(1, .int (gI s0)), (0, .ref v0), (2, .int (gI v2))]) dX12_merges_78 rfl (Nat.le_of_ble_eq_true rfl) rfl ?_
  refine gx_nE e (fun t25 ht25 e => ?_)
  refine gy_iinc (v := t25) (ls2 := [(2, .int (gI t25)), (1, .int (gI s0)), (0, .ref v0)]) dX12_merges_79 2 rfl ht25 (Nat.le_of_ble_eq_true rfl) rfl ?_
  refine gx_goto (tgt := 40) dX12_merges_82 (by decide) ?_
  refine gx_sub (ls2 := [(0, .ref v0), (1, .int (gI s0)), (2, .int (gI t25))]) [2, 1, 0] rfl ?_
  exact hr40 _ _ _ _ e
set_option maxRecDepth 100000 in
def b_X12_merges_73 (n : Nat) (r32 : Nat → Int → gi_H → Option (gi_H)) (r40 : Nat → Int → Int → gi_H → Option (gi_H)) (v0 : Nat) (v2 : Int)  (h : gi_H) : Option (gi_H) :=
  b_X12_merges_78 n r32 r40 v0 v2 (1 : Int) h
set_option maxRecDepth 100000 in
theorem zb_X12_merges_73 {al : Bool} {n : Nat} {r32 : Nat → Int → gi_H → Option (gi_H)} {r40 : Nat → Int → Int → gi_H → Option (gi_H)} {h1 : gi_H} (hr32 : ∀ (x0 : Nat) (x1 : Int) (hh : gi_H), r32 x0 x1 hh = some h1 → gx_Z mX12_merges al al 0 0 32 [(0, .ref x0), (1, .int (gI x1))] [] (gi_cv hh) (.inl none) (gi_cv h1)) (hr40 : ∀ (x0 : Nat) (x1 : Int) (x2 : Int) (hh : gi_H), r40 x0 x1 x2 hh = some h1 → gx_Z mX12_merges al al 0 0 40 [(0, .ref x0), (1, .int (gI x1)), (2, .int (gI x2))] [] (gi_cv hh) (.inl none) (gi_cv h1)) {v0 : Nat} {v2 : Int}  {h : gi_H} (e : b_X12_merges_73 n r32 r40 v0 v2 h = some h1) : gx_Z mX12_merges al al 0 0 73 [(0, .ref v0), (2, .int (gI v2))] [] (gi_cv h) (.inl none) (gi_cv h1) := by
  refine gy_iconst dX12_merges_73 ?_
  refine gx_goto (tgt := 78) dX12_merges_74 (by decide) ?_
  exact zb_X12_merges_78 hr32 hr40 e
set_option maxRecDepth 100000 in
def b_X12_merges_40 (n : Nat) (r32 : Nat → Int → gi_H → Option (gi_H)) (r40 : Nat → Int → Int → gi_H → Option (gi_H)) (v0 : Nat) (v1 : Int) (v2 : Int)  (h : gi_H) : Option (gi_H) :=
  Option.bind (gi_gI h v0 10 29) fun t12 => Option.bind (gi_rg v2) fun _ => Option.bind (gi_rg t12) fun _ => if t12 ≤ v2 then (b_X12_merges_85 n r32 v0 v1 h) else (Option.bind (gi_gR h v0 10 27) fun t16 => Option.bind (gi_is h v0 10) fun _ => Option.bind (f_X12_closure n v0 t16 ((146 : Int) * v2) h) fun q18 => Option.bind (gi_is q18 v0 10) fun _ => Option.bind (f_X12_spreads n v0 v2 q18) fun q20 => Option.bind (gi_rg q20.1) fun _ => if q20.1 = 0 then (Option.bind (gi_rg v1) fun _ => if v1 = 0 then (b_X12_merges_78 n r32 r40 v0 v2 (0 : Int) q20.2) else (b_X12_merges_73 n r32 r40 v0 v2 q20.2)) else (b_X12_merges_73 n r32 r40 v0 v2 q20.2))
set_option maxRecDepth 100000 in
theorem zb_X12_merges_40 {al : Bool} {n : Nat} {r32 : Nat → Int → gi_H → Option (gi_H)} {r40 : Nat → Int → Int → gi_H → Option (gi_H)} {h1 : gi_H} (hr32 : ∀ (x0 : Nat) (x1 : Int) (hh : gi_H), r32 x0 x1 hh = some h1 → gx_Z mX12_merges al al 0 0 32 [(0, .ref x0), (1, .int (gI x1))] [] (gi_cv hh) (.inl none) (gi_cv h1)) (hr40 : ∀ (x0 : Nat) (x1 : Int) (x2 : Int) (hh : gi_H), r40 x0 x1 x2 hh = some h1 → gx_Z mX12_merges al al 0 0 40 [(0, .ref x0), (1, .int (gI x1)), (2, .int (gI x2))] [] (gi_cv hh) (.inl none) (gi_cv h1)) {v0 : Nat} {v1 : Int} {v2 : Int}  {h : gi_H} (e : b_X12_merges_40 n r32 r40 v0 v1 v2 h = some h1) : gx_Z mX12_merges al al 0 0 40 [(0, .ref v0), (1, .int (gI v1)), (2, .int (gI v2))] [] (gi_cv h) (.inl none) (gi_cv h1) := by
  refine gx_iload_n dX12_merges_40 rfl 2 rfl ?_
  refine gx_aload_n dX12_merges_41 rfl 0 rfl ?_
  refine gx_bE e (fun t12 ht12 e => ?_)
  refine gy_fI ht12 dX12_merges_42 gf_RX12_254_10_29 (by decide) gkN_10_29 gkR_10_29 ?_
  refine gx_bE e (fun _ g13 e => ?_)
  refine gx_bE e (fun _ g14 e => ?_)
  refine gx_iE e (fun c15 e => ?_) (fun c15 e => ?_)
  · refine gy_icmp_ge (tgt := 85) (gi_rgS g13) (gi_rgS g14) dX12_merges_45 (by decide) (fun _ => ?_) (fun z => absurd c15 z)
    refine gx_sub (ls2 := [(0, .ref v0), (1, .int (gI v1))]) [0, 1] rfl ?_
    exact zb_X12_merges_85 hr32 e
  · refine gy_icmp_ge (tgt := 85) (gi_rgS g13) (gi_rgS g14) dX12_merges_45 (by decide) (fun z => absurd z c15) (fun _ => ?_)
    refine gx_aload_n dX12_merges_48 rfl 0 rfl ?_
    refine gx_aload_n dX12_merges_49 rfl 0 rfl ?_
    refine gx_bE e (fun t16 ht16 e => ?_)
    refine gy_fR ht16 dX12_merges_50 gf_RX12_74_10_27 (by decide) gkN_10_27 gkR_10_27 ?_
    refine gy_sipush dX12_merges_53 gcs_146 ?_
    refine gx_iload_n dX12_merges_56 rfl 2 rfl ?_
    refine gy_imul dX12_merges_57 ?_
    refine gx_bE e (fun _ hu17 e => ?_)
    refine gx_bE e (fun q18 hq18 e => ?_)
    refine gx_callV (n := 2) (st := []) (As := [.ref t16, .int (gI ((146 : Int) * v2))]) (b := v0) dX12_merges_58 (z_X12_closure hq18) rfl ⟨rfl, gw_cw_X12_closure, gw_14, gp_X12_closure, ⟨Nat.le_of_ble_eq_true rfl, Nat.le_of_ble_eq_true rfl⟩⟩ (gi_isS hu17) (by decide) gw_1668 gw_1670 gs_84 rfl ⟨Nat.le_of_ble_eq_true rfl, Nat.le_of_ble_eq_true rfl⟩ (Nat.le_of_ble_eq_true rfl) (gy_k0 (kc2 := 0) (ks2 := 0) ⟨rfl, rfl⟩ ?_) gy_kn
    refine gx_aload_n dX12_merges_61 rfl 0 rfl ?_
    refine gx_iload_n dX12_merges_62 rfl 2 rfl ?_
    refine gx_bE e (fun _ hu19 e => ?_)
    refine gx_bE e (fun q20 hq20 e => ?_)
    refine gx_callV (n := 1) (st := []) (As := [.int (gI v2)]) (b := v0) dX12_merges_63 (z_X12_spreads hq20) rfl ⟨rfl, gw_cw_X12_spreads, gw_14, gp_X12_spreads, ⟨Nat.le_of_ble_eq_true rfl, Nat.le_of_ble_eq_true rfl⟩⟩ (gi_isS hu19) (by decide) gw_1695 gw_1697 gs_90 rfl ⟨Nat.le_of_ble_eq_true rfl, Nat.le_of_ble_eq_true rfl⟩ (Nat.le_of_ble_eq_true rfl) (gy_k1 (x := .int (gI q20.1)) (kc2 := 0) (ks2 := 0) ⟨rfl, rfl⟩ ?_) gy_kn
    refine gx_bE e (fun _ g21 e => ?_)
    refine gx_iE e (fun c22 e => ?_) (fun c22 e => ?_)
    · refine gy_if_ne (tgt := 73) (gi_rgS g21) dX12_merges_66 (by decide) (fun z => absurd c22 z) (fun _ => ?_)
      refine gx_iload_n dX12_merges_69 rfl 1 rfl ?_
      refine gx_bE e (fun _ g23 e => ?_)
      refine gx_iE e (fun c24 e => ?_) (fun c24 e => ?_)
      · refine gy_if_eq (tgt := 77) (gi_rgS g23) dX12_merges_70 (by decide) (fun _ => ?_) (fun z => absurd c24 z)
        refine gy_iconst dX12_merges_77 ?_
        refine gx_sub (ls2 := [(0, .ref v0), (2, .int (gI v2))]) [0, 2] rfl ?_
        exact zb_X12_merges_78 hr32 hr40 e
      · refine gy_if_eq (tgt := 77) (gi_rgS g23) dX12_merges_70 (by decide) (fun z => absurd z c24) (fun _ => ?_)
        refine gx_sub (ls2 := [(0, .ref v0), (2, .int (gI v2))]) [0, 2] rfl ?_
        exact zb_X12_merges_73 hr32 hr40 e
    · refine gy_if_ne (tgt := 73) (gi_rgS g21) dX12_merges_66 (by decide) (fun _ => ?_) (fun z => absurd z c22)
      refine gx_sub (ls2 := [(0, .ref v0), (2, .int (gI v2))]) [0, 2] rfl ?_
      exact zb_X12_merges_73 hr32 hr40 e
def l_X12_merges_40 (n : Nat) (r32 : Nat → Int → gi_H → Option (gi_H)) : Nat → Nat → Int → Int → gi_H → Option (gi_H)
  | 0, _, _, _, _ => none
  | k + 1, v0, v1, v2, h => b_X12_merges_40 n r32 (l_X12_merges_40 n r32 k) v0 v1 v2 h
theorem zl_X12_merges_40 {al : Bool} {n : Nat} {r32 : Nat → Int → gi_H → Option (gi_H)} {h1 : gi_H} (hr32 : ∀ (x0 : Nat) (x1 : Int) (hh : gi_H), r32 x0 x1 hh = some h1 → gx_Z mX12_merges al al 0 0 32 [(0, .ref x0), (1, .int (gI x1))] [] (gi_cv hh) (.inl none) (gi_cv h1)) : ∀ (k : Nat) (v0 : Nat) (v1 : Int) (v2 : Int) (h : gi_H), l_X12_merges_40 n r32 k v0 v1 v2 h = some h1 → gx_Z mX12_merges al al 0 0 40 [(0, .ref v0), (1, .int (gI v1)), (2, .int (gI v2))] [] (gi_cv h) (.inl none) (gi_cv h1)
  | 0, _, _, _, _, e => gx_0E e
  | k + 1, _, _, _, _, e => zb_X12_merges_40 (n := n) hr32 (zl_X12_merges_40 hr32 k) e
set_option maxRecDepth 100000 in
def b_X12_merges_32 (n : Nat) (r32 : Nat → Int → gi_H → Option (gi_H)) (v0 : Nat) (v1 : Int)  (h : gi_H) : Option (gi_H) :=
  Option.bind (gi_rg v1) fun _ => if v1 = 0 then (some h) else (l_X12_merges_40 n r32 n v0 (0 : Int) (0 : Int) h)
set_option maxRecDepth 100000 in
theorem zb_X12_merges_32 {al : Bool} {n : Nat} {r32 : Nat → Int → gi_H → Option (gi_H)} {h1 : gi_H} (hr32 : ∀ (x0 : Nat) (x1 : Int) (hh : gi_H), r32 x0 x1 hh = some h1 → gx_Z mX12_merges al al 0 0 32 [(0, .ref x0), (1, .int (gI x1))] [] (gi_cv hh) (.inl none) (gi_cv h1)) {v0 : Nat} {v1 : Int}  {h : gi_H} (e : b_X12_merges_32 n r32 v0 v1 h = some h1) : gx_Z mX12_merges al al 0 0 32 [(0, .ref v0), (1, .int (gI v1))] [] (gi_cv h) (.inl none) (gi_cv h1) := by
  refine gx_iload_n dX12_merges_32 rfl 1 rfl ?_
  refine gx_bE e (fun _ g10 e => ?_)
  refine gx_iE e (fun c11 e => ?_) (fun c11 e => ?_)
  · refine gy_if_eq (tgt := 88) (gi_rgS g10) dX12_merges_33 (by decide) (fun _ => ?_) (fun z => absurd c11 z)
    cases e
    exact gx_vret dX12_merges_88 rfl ⟨Nat.le_of_ble_eq_true rfl, Nat.le_of_ble_eq_true rfl⟩ (fun z => z)
  · refine gy_if_eq (tgt := 88) (gi_rgS g10) dX12_merges_33 (by decide) (fun z => absurd z c11) (fun _ => ?_)
    refine gy_iconst dX12_merges_36 ?_
    refine gx_istore_n (ls2 := [(1, .int (gI (0 : Int))), (0, .ref v0)]) dX12_merges_37 rfl (Nat.le_of_ble_eq_true rfl) rfl ?_
    refine gy_iconst dX12_merges_38 ?_
    refine gx_istore_n (ls2 := [(2, .int (gI (0 : Int))), (1, .int (gI (0 : Int))), (0, .ref v0)]) dX12_merges_39 rfl (Nat.le_of_ble_eq_true rfl) rfl ?_
    refine gx_sub (ls2 := [(0, .ref v0), (1, .int (gI (0 : Int))), (2, .int (gI (0 : Int)))]) [2, 1, 0] rfl ?_
    exact zl_X12_merges_40 hr32 n _ _ _ _ e
def l_X12_merges_32 (n : Nat)  : Nat → Nat → Int → gi_H → Option (gi_H)
  | 0, _, _, _ => none
  | k + 1, v0, v1, h => b_X12_merges_32 n  (l_X12_merges_32 n  k) v0 v1 h
theorem zl_X12_merges_32 {al : Bool} {n : Nat}  {h1 : gi_H}  : ∀ (k : Nat) (v0 : Nat) (v1 : Int) (h : gi_H), l_X12_merges_32 n  k v0 v1 h = some h1 → gx_Z mX12_merges al al 0 0 32 [(0, .ref v0), (1, .int (gI v1))] [] (gi_cv h) (.inl none) (gi_cv h1)
  | 0, _, _, _, e => gx_0E e
  | k + 1, _, _, _, e => zb_X12_merges_32 (n := n)  (zl_X12_merges_32  k) e
set_option maxRecDepth 100000 in
def f_X12_merges (n : Nat) (v0 : Nat) (h : gi_H) : Option (gi_H) :=
  Option.bind (gi_gI h v0 10 34) fun t1 => Option.bind (gi_rg t1) fun _ => if t1 = 0 then (Option.bind (gi_pZ h v0 10 34 (1 : Int)) fun h4 => Option.bind (gi_gR h4 v0 10 27) fun t5 => Option.bind (gi_gR h4 v0 10 28) fun t6 => Option.bind (gi_is h4 v0 10) fun _ => Option.bind (f_X12_makes n v0 t5 t6 (1 : Int) h4) fun q8 => Option.bind (gi_pI q8.2 v0 10 29 q8.1) fun h9 => l_X12_merges_32 n  n v0 (1 : Int) h9) else (some h)
set_option maxRecDepth 100000 in
theorem z_X12_merges {al : Bool} {n : Nat} {v0 : Nat} {h : gi_H} {h1 : gi_H} (e : f_X12_merges n v0 h = some h1) : gx_Cw mX12_merges al [.ref v0] (gi_cv h) (.inl none) (gi_cv h1) := by
  refine gx_enter (by decide +kernel) rfl (Nat.le_of_ble_eq_true rfl) ?_
  show gx_Z mX12_merges al al 0 0 0 [(0, .ref v0)] [] (gi_cv h) (.inl none) (gi_cv h1)
  refine gx_aload_n dX12_merges_0 rfl 0 rfl ?_
  refine gx_bE e (fun t1 ht1 e => ?_)
  refine gy_fI ht1 dX12_merges_1 gf_RX12_112_10_34 (by decide) gkN_10_34 gkR_10_34 ?_
  refine gx_bE e (fun _ g2 e => ?_)
  refine gx_iE e (fun c3 e => ?_) (fun c3 e => ?_)
  · refine gy_if_eq (tgt := 8) (gi_rgS g2) dX12_merges_4 (by decide) (fun _ => ?_) (fun z => absurd c3 z)
    refine gx_aload_n dX12_merges_8 rfl 0 rfl ?_
    refine gy_iconst dX12_merges_9 ?_
    refine gx_bE e (fun h4 hh4 e => ?_)
    refine gy_qZ hh4 dX12_merges_10 gf_RX12_112_10_34 (by decide) gkN_10_34 rfl (Or.inl rfl) ?_
    refine gx_aload_n dX12_merges_13 rfl 0 rfl ?_
    refine gx_aload_n dX12_merges_14 rfl 0 rfl ?_
    refine gx_aload_n dX12_merges_15 rfl 0 rfl ?_
    refine gx_bE e (fun t5 ht5 e => ?_)
    refine gy_fR ht5 dX12_merges_16 gf_RX12_74_10_27 (by decide) gkN_10_27 gkR_10_27 ?_
    refine gx_aload_n dX12_merges_19 rfl 0 rfl ?_
    refine gx_bE e (fun t6 ht6 e => ?_)
    refine gy_fR ht6 dX12_merges_20 gf_RX12_77_10_28 (by decide) gkN_10_28 gkR_10_28 ?_
    refine gy_iconst dX12_merges_23 ?_
    refine gx_bE e (fun _ hu7 e => ?_)
    refine gx_bE e (fun q8 hq8 e => ?_)
    refine gx_callV (n := 3) (st := [.ref v0]) (As := [.ref t5, .ref t6, .int (gI (1 : Int))]) (b := v0) dX12_merges_24 (z_X12_makes hq8) rfl ⟨rfl, gw_cw_X12_makes, gw_14, gp_X12_makes, ⟨Nat.le_of_ble_eq_true rfl, Nat.le_of_ble_eq_true rfl⟩⟩ (gi_isS hu7) (by decide) gw_1660 gw_1662 gs_82 rfl ⟨Nat.le_of_ble_eq_true rfl, Nat.le_of_ble_eq_true rfl⟩ (Nat.le_of_ble_eq_true rfl) (gy_k1 (x := .int (gI q8.1)) (kc2 := 0) (ks2 := 0) ⟨rfl, rfl⟩ ?_) gy_kn
    refine gx_bE e (fun h9 hh9 e => ?_)
    refine gy_qI hh9 dX12_merges_27 gf_RX12_254_10_29 (by decide) gkN_10_29 rfl (Or.inl rfl) ?_
    refine gy_iconst dX12_merges_30 ?_
    refine gx_istore_n (ls2 := [(1, .int (gI (1 : Int))), (0, .ref v0)]) dX12_merges_31 rfl (Nat.le_of_ble_eq_true rfl) rfl ?_
    refine gx_sub (ls2 := [(0, .ref v0), (1, .int (gI (1 : Int)))]) [1, 0] rfl ?_
    exact zl_X12_merges_32  n _ _ _ e
  · refine gy_if_eq (tgt := 8) (gi_rgS g2) dX12_merges_4 (by decide) (fun z => absurd z c3) (fun _ => ?_)
    cases e
    exact gx_vret dX12_merges_7 rfl ⟨Nat.le_of_ble_eq_true rfl, Nat.le_of_ble_eq_true rfl⟩ (fun z => z)
/-! X12_states  -/
set_option maxRecDepth 100000 in
def f_X12_states (n : Nat) (v0 : Nat) (v1 : Int) (h : gi_H) : Option (Int × gi_H) :=
  Option.bind (gi_rg v1) fun _ => if v1 = (3 : Int) then (Option.bind (gi_is h v0 10) fun _ => Option.bind (f_X12_wholes n v0 h) fun q4 => Option.bind (gi_gI q4 v0 10 32) fun t5 => some (t5, q4)) else (Option.bind (gi_is h v0 10) fun _ => Option.bind (f_X12_merges n v0 h) fun q7 => Option.bind (gi_is q7 v0 10) fun _ => Option.bind (f_X12_finds n v0 q7) fun q9 => Option.bind (gi_is q9 v0 10) fun _ => Option.bind (f_X12_numbers n v0 q9) fun q11 => Option.bind (gi_gI q11 v0 10 29) fun t12 => some (t12, q11))
set_option maxRecDepth 100000 in
theorem z_X12_states {al : Bool} {n : Nat} {v0 : Nat} {v1 : Int} {h : gi_H} {res : Int} {h1 : gi_H} (e : f_X12_states n v0 v1 h = some (res, h1)) : gx_Cw mX12_states al [.ref v0, .int (gI v1)] (gi_cv h) (.inl (some (.int (gI res)))) (gi_cv h1) := by
  refine gx_enter (by decide +kernel) rfl (Nat.le_of_ble_eq_true rfl) ?_
  show gx_Z mX12_states al al 0 0 0 [(0, .ref v0), (1, .int (gI v1))] [] (gi_cv h) (.inl (some (.int (gI res)))) (gi_cv h1)
  refine gx_iload_n dX12_states_0 rfl 1 rfl ?_
  refine gy_iconst dX12_states_1 ?_
  refine gx_bE e (fun _ g1 e => ?_)
  refine gx_iE e (fun c2 e => ?_) (fun c2 e => ?_)
  · refine gy_icmp_ne (tgt := 14) (gi_rgS g1) (by decide) dX12_states_2 (by decide) (fun z => absurd c2 z) (fun _ => ?_)
    refine gx_aload_n dX12_states_5 rfl 0 rfl ?_
    refine gx_bE e (fun _ hu3 e => ?_)
    refine gx_bE e (fun q4 hq4 e => ?_)
    refine gx_callV (n := 0) (st := []) (As := []) (b := v0) dX12_states_6 (z_X12_wholes hq4) rfl ⟨rfl, gw_cw_X12_wholes, gw_14, gp_X12_wholes, ⟨Nat.le_of_ble_eq_true rfl, Nat.le_of_ble_eq_true rfl⟩⟩ (gi_isS hu3) (by decide) gw_1656 gw_1658 gs_81 rfl ⟨Nat.le_of_ble_eq_true rfl, Nat.le_of_ble_eq_true rfl⟩ (Nat.le_of_ble_eq_true rfl) (gy_k0 (kc2 := 0) (ks2 := 0) ⟨rfl, rfl⟩ ?_) gy_kn
    refine gx_aload_n dX12_states_9 rfl 0 rfl ?_
    refine gx_bE e (fun t5 ht5 e => ?_)
    refine gy_fI ht5 dX12_states_10 gf_RX12_260_10_32 (by decide) gkN_10_32 gkR_10_32 ?_
    cases e
    exact gx_iret dX12_states_13 rfl ⟨Nat.le_of_ble_eq_true rfl, Nat.le_of_ble_eq_true rfl⟩ (fun z => z)
  · refine gy_icmp_ne (tgt := 14) (gi_rgS g1) (by decide) dX12_states_2 (by decide) (fun _ => ?_) (fun z => absurd z c2)
    refine gx_aload_n dX12_states_14 rfl 0 rfl ?_
    refine gx_bE e (fun _ hu6 e => ?_)
    refine gx_bE e (fun q7 hq7 e => ?_)
    refine gx_callV (n := 0) (st := []) (As := []) (b := v0) dX12_states_15 (z_X12_merges hq7) rfl ⟨rfl, gw_cw_X12_merges, gw_14, gp_X12_merges, ⟨Nat.le_of_ble_eq_true rfl, Nat.le_of_ble_eq_true rfl⟩⟩ (gi_isS hu6) (by decide) gw_1691 gw_1693 gs_89 rfl ⟨Nat.le_of_ble_eq_true rfl, Nat.le_of_ble_eq_true rfl⟩ (Nat.le_of_ble_eq_true rfl) (gy_k0 (kc2 := 0) (ks2 := 0) ⟨rfl, rfl⟩ ?_) gy_kn
    refine gx_aload_n dX12_states_18 rfl 0 rfl ?_
    refine gx_bE e (fun _ hu8 e => ?_)
    refine gx_bE e (fun q9 hq9 e => ?_)
    refine gx_callV (n := 0) (st := []) (As := []) (b := v0) dX12_states_19 (z_X12_finds hq9) rfl ⟨rfl, gw_cw_X12_finds, gw_14, gp_X12_finds, ⟨Nat.le_of_ble_eq_true rfl, Nat.le_of_ble_eq_true rfl⟩⟩ (gi_isS hu8) (by decide) gw_1587 gw_1589 gs_72 rfl ⟨Nat.le_of_ble_eq_true rfl, Nat.le_of_ble_eq_true rfl⟩ (Nat.le_of_ble_eq_true rfl) (gy_k0 (kc2 := 0) (ks2 := 0) ⟨rfl, rfl⟩ ?_) gy_kn
    refine gx_aload_n dX12_states_22 rfl 0 rfl ?_
    refine gx_bE e (fun _ hu10 e => ?_)
    refine gx_bE e (fun q11 hq11 e => ?_)
    refine gx_callV (n := 0) (st := []) (As := []) (b := v0) dX12_states_23 (z_X12_numbers hq11) rfl ⟨rfl, gw_cw_X12_numbers, gw_14, gp_X12_numbers, ⟨Nat.le_of_ble_eq_true rfl, Nat.le_of_ble_eq_true rfl⟩⟩ (gi_isS hu10) (by decide) gw_1664 gw_1666 gs_83 rfl ⟨Nat.le_of_ble_eq_true rfl, Nat.le_of_ble_eq_true rfl⟩ (Nat.le_of_ble_eq_true rfl) (gy_k0 (kc2 := 0) (ks2 := 0) ⟨rfl, rfl⟩ ?_) gy_kn
    refine gx_aload_n dX12_states_26 rfl 0 rfl ?_
    refine gx_bE e (fun t12 ht12 e => ?_)
    refine gy_fI ht12 dX12_states_27 gf_RX12_254_10_29 (by decide) gkN_10_29 gkR_10_29 ?_
    cases e
    exact gx_iret dX12_states_30 rfl ⟨Nat.le_of_ble_eq_true rfl, Nat.le_of_ble_eq_true rfl⟩ (fun z => z)
/-! X12_predicted  -/
set_option maxRecDepth 100000 in
def b_X12_predicted_113 (n : Nat)  (v3 : Int) (v4 : Int)  (h : gi_H) : Option (Int) :=
  some ((((100 : Int) * v3) + v4) + (1 : Int))
set_option maxRecDepth 100000 in
theorem zb_X12_predicted_113 {al : Bool} {n : Nat}  {res : Int}  {v3 : Int} {v4 : Int}  {h : gi_H} (e : b_X12_predicted_113 n v3 v4 h = some res) : gx_Z mX12_predicted al al 0 0 113 [(3, .int (gI v3)), (4, .int (gI v4))] [] (gi_cv h) (.inl (some (.int (gI res)))) (gi_cv h) := by
  refine gy_bipush dX12_predicted_113 gcb_100 ?_
  refine gx_iload_n dX12_predicted_115 rfl 0 rfl ?_
  refine gy_imul dX12_predicted_116 ?_
  refine gx_iload dX12_predicted_117 1 rfl ?_
  refine gy_iadd dX12_predicted_119 ?_
  refine gy_iconst dX12_predicted_120 ?_
  refine gy_iadd dX12_predicted_121 ?_
  cases e
  exact gx_iret dX12_predicted_122 rfl ⟨Nat.le_of_ble_eq_true rfl, Nat.le_of_ble_eq_true rfl⟩ (fun z => z)
set_option maxRecDepth 100000 in
def b_X12_predicted_105 (n : Nat) (r18 : Nat → Int → Int → Int → Int → Int → gi_H → Option (Int)) (v0 : Nat) (v1 : Int) (v2 : Int) (v3 : Int) (v5 : Int) (s0 : Int) (h : gi_H) : Option (Int) :=
  gx_nm (v5 + (-1 : Int)) fun t26 => r18 v0 v1 v2 v3 s0 t26 h
set_option maxRecDepth 100000 in
theorem zb_X12_predicted_105 {al : Bool} {n : Nat} {r18 : Nat → Int → Int → Int → Int → Int → gi_H → Option (Int)} {res : Int} (hr18 : ∀ (x0 : Nat) (x1 : Int) (x2 : Int) (x3 : Int) (x4 : Int) (x5 : Int) (hh : gi_H), r18 x0 x1 x2 x3 x4 x5 hh = some res → gx_Z mX12_predicted al al 0 0 18 [(0, .ref x0), (1, .int (gI x1)), (2, .int (gI x2)), (3, .int (gI x3)), (4, .int (gI x4)), (5, .int (gI x5))] [] (gi_cv hh) (.inl (some (.int (gI res)))) (gi_cv hh)) {v0 : Nat} {v1 : Int} {v2 : Int} {v3 : Int} {v5 : Int} {s0 : Int} {h : gi_H} (e : b_X12_predicted_105 n r18 v0 v1 v2 v3 v5 s0 h = some res) : gx_Z mX12_predicted al al 0 0 105 [(0, .ref v0), (1, .int (gI v1)), (2, .int (gI v2)), (3, .int (gI v3)), (5, .int (gI v5))] [.int (gI s0)] (gi_cv h) (.inl (some (.int (gI res)))) (gi_cv h) := by
  refine gx_istore (ls2 := [(4, .int (gI s0)), (0, .ref v0), (1, .int (gI v1)), (2, .int (gI v2)), (3, .int (gI v3)), (5, .int (gI v5))]) dX12_predicted_105 (Nat.le_of_ble_eq_true rfl) rfl ?_
  refine gx_nE e (fun t26 ht26 e => ?_)
  refine gy_iinc (v := t26) (ls2 := [(5, .int (gI t26)), (4, .int (gI s0)), (0, .ref v0), (1, .int (gI v1)), (2, .int (gI v2)), (3, .int (gI v3))]) dX12_predicted_107 5 rfl ht26 (Nat.le_of_ble_eq_true rfl) rfl ?_
  refine gx_goto (tgt := 18) dX12_predicted_110 (by decide) ?_
  refine gx_sub (ls2 := [(0, .ref v0), (1, .int (gI v1)), (2, .int (gI v2)), (3, .int (gI v3)), (4, .int (gI s0)), (5, .int (gI t26))]) [2, 3, 4, 5, 1, 0] rfl ?_
  exact hr18 _ _ _ _ _ _ _ e
set_option maxRecDepth 100000 in
def b_X12_predicted_91 (n : Nat) (r18 : Nat → Int → Int → Int → Int → Int → gi_H → Option (Int)) (v0 : Nat) (v1 : Int) (v2 : Int) (v4 : Int) (v5 : Int) (v7 : Int) (s0 : Int) (s1 : Int) (h : gi_H) : Option (Int) :=
  gx_nm (s0 + s1) fun t23 => Option.bind (gi_rg v7) fun _ => if v7 = 0 then (b_X12_predicted_105 n r18 v0 v1 v2 t23 v5 v4 h) else (b_X12_predicted_105 n r18 v0 v1 v2 t23 v5 v5 h)
set_option maxRecDepth 100000 in
theorem zb_X12_predicted_91 {al : Bool} {n : Nat} {r18 : Nat → Int → Int → Int → Int → Int → gi_H → Option (Int)} {res : Int} (hr18 : ∀ (x0 : Nat) (x1 : Int) (x2 : Int) (x3 : Int) (x4 : Int) (x5 : Int) (hh : gi_H), r18 x0 x1 x2 x3 x4 x5 hh = some res → gx_Z mX12_predicted al al 0 0 18 [(0, .ref x0), (1, .int (gI x1)), (2, .int (gI x2)), (3, .int (gI x3)), (4, .int (gI x4)), (5, .int (gI x5))] [] (gi_cv hh) (.inl (some (.int (gI res)))) (gi_cv hh)) {v0 : Nat} {v1 : Int} {v2 : Int} {v4 : Int} {v5 : Int} {v7 : Int} {s0 : Int} {s1 : Int} {h : gi_H} (e : b_X12_predicted_91 n r18 v0 v1 v2 v4 v5 v7 s0 s1 h = some res) : gx_Z mX12_predicted al al 0 0 91 [(0, .ref v0), (1, .int (gI v1)), (2, .int (gI v2)), (4, .int (gI v4)), (5, .int (gI v5)), (7, .int (gI v7))] [.int (gI s1), .int (gI s0)] (gi_cv h) (.inl (some (.int (gI res)))) (gi_cv h) := by
  refine gy_iadd dX12_predicted_91 ?_
  refine gx_nE e (fun t23 ht23 e => ?_)
  rw [ht23]
  refine gx_istore_n (ls2 := [(3, .int (gI t23)), (0, .ref v0), (1, .int (gI v1)), (2, .int (gI v2)), (4, .int (gI v4)), (5, .int (gI v5)), (7, .int (gI v7))]) dX12_predicted_92 rfl (Nat.le_of_ble_eq_true rfl) rfl ?_
  refine gx_iload dX12_predicted_93 6 rfl ?_
  refine gx_bE e (fun _ g24 e => ?_)
  refine gx_iE e (fun c25 e => ?_) (fun c25 e => ?_)
  · refine gy_if_eq (tgt := 103) (gi_rgS g24) dX12_predicted_95 (by decide) (fun _ => ?_) (fun z => absurd c25 z)
    refine gx_iload dX12_predicted_103 4 rfl ?_
    refine gx_sub (ls2 := [(0, .ref v0), (1, .int (gI v1)), (2, .int (gI v2)), (3, .int (gI t23)), (5, .int (gI v5))]) [1, 2, 3, 0, 5] rfl ?_
    exact zb_X12_predicted_105 hr18 e
  · refine gy_if_eq (tgt := 103) (gi_rgS g24) dX12_predicted_95 (by decide) (fun z => absurd z c25) (fun _ => ?_)
    refine gx_iload dX12_predicted_98 5 rfl ?_
    refine gx_goto (tgt := 105) dX12_predicted_100 (by decide) ?_
    refine gx_sub (ls2 := [(0, .ref v0), (1, .int (gI v1)), (2, .int (gI v2)), (3, .int (gI t23)), (5, .int (gI v5))]) [1, 2, 3, 0, 5] rfl ?_
    exact zb_X12_predicted_105 hr18 e
set_option maxRecDepth 100000 in
def b_X12_predicted_78 (n : Nat) (r18 : Nat → Int → Int → Int → Int → Int → gi_H → Option (Int)) (v0 : Nat) (v1 : Int) (v2 : Int) (v3 : Int) (v4 : Int) (v5 : Int) (s0 : Int) (h : gi_H) : Option (Int) :=
  Option.bind (gi_rg s0) fun _ => if s0 = 0 then (b_X12_predicted_91 n r18 v0 v1 v2 v4 v5 s0 v3 (0 : Int) h) else (b_X12_predicted_91 n r18 v0 v1 v2 v4 v5 s0 v3 (1 : Int) h)
set_option maxRecDepth 100000 in
theorem zb_X12_predicted_78 {al : Bool} {n : Nat} {r18 : Nat → Int → Int → Int → Int → Int → gi_H → Option (Int)} {res : Int} (hr18 : ∀ (x0 : Nat) (x1 : Int) (x2 : Int) (x3 : Int) (x4 : Int) (x5 : Int) (hh : gi_H), r18 x0 x1 x2 x3 x4 x5 hh = some res → gx_Z mX12_predicted al al 0 0 18 [(0, .ref x0), (1, .int (gI x1)), (2, .int (gI x2)), (3, .int (gI x3)), (4, .int (gI x4)), (5, .int (gI x5))] [] (gi_cv hh) (.inl (some (.int (gI res)))) (gi_cv hh)) {v0 : Nat} {v1 : Int} {v2 : Int} {v3 : Int} {v4 : Int} {v5 : Int} {s0 : Int} {h : gi_H} (e : b_X12_predicted_78 n r18 v0 v1 v2 v3 v4 v5 s0 h = some res) : gx_Z mX12_predicted al al 0 0 78 [(0, .ref v0), (1, .int (gI v1)), (2, .int (gI v2)), (3, .int (gI v3)), (4, .int (gI v4)), (5, .int (gI v5))] [.int (gI s0)] (gi_cv h) (.inl (some (.int (gI res)))) (gi_cv h) := by
  refine gx_istore (ls2 := [(7, .int (gI s0)), (0, .ref v0), (1, .int (gI v1)), (2, .int (gI v2)), (3, .int (gI v3)), (4, .int (gI v4)), (5, .int (gI v5))]) dX12_predicted_78 (Nat.le_of_ble_eq_true rfl) rfl ?_
  refine gx_iload_n dX12_predicted_80 rfl 4 rfl ?_
  refine gx_iload dX12_predicted_81 0 rfl ?_
  refine gx_bE e (fun _ g21 e => ?_)
  refine gx_iE e (fun c22 e => ?_) (fun c22 e => ?_)
  · refine gy_if_eq (tgt := 90) (gi_rgS g21) dX12_predicted_83 (by decide) (fun _ => ?_) (fun z => absurd c22 z)
    refine gy_iconst dX12_predicted_90 ?_
    refine gx_sub (ls2 := [(0, .ref v0), (1, .int (gI v1)), (2, .int (gI v2)), (4, .int (gI v4)), (5, .int (gI v5)), (7, .int (gI s0))]) [1, 2, 3, 5, 6, 0] rfl ?_
    exact zb_X12_predicted_91 hr18 e
  · refine gy_if_eq (tgt := 90) (gi_rgS g21) dX12_predicted_83 (by decide) (fun z => absurd z c22) (fun _ => ?_)
    refine gy_iconst dX12_predicted_86 ?_
    refine gx_goto (tgt := 91) dX12_predicted_87 (by decide) ?_
    refine gx_sub (ls2 := [(0, .ref v0), (1, .int (gI v1)), (2, .int (gI v2)), (4, .int (gI v4)), (5, .int (gI v5)), (7, .int (gI s0))]) [1, 2, 3, 5, 6, 0] rfl ?_
    exact zb_X12_predicted_91 hr18 e
set_option maxRecDepth 100000 in
def b_X12_predicted_77 (n : Nat) (r18 : Nat → Int → Int → Int → Int → Int → gi_H → Option (Int)) (v0 : Nat) (v1 : Int) (v2 : Int) (v3 : Int) (v4 : Int) (v5 : Int)  (h : gi_H) : Option (Int) :=
  b_X12_predicted_78 n r18 v0 v1 v2 v3 v4 v5 (0 : Int) h
set_option maxRecDepth 100000 in
theorem zb_X12_predicted_77 {al : Bool} {n : Nat} {r18 : Nat → Int → Int → Int → Int → Int → gi_H → Option (Int)} {res : Int} (hr18 : ∀ (x0 : Nat) (x1 : Int) (x2 : Int) (x3 : Int) (x4 : Int) (x5 : Int) (hh : gi_H), r18 x0 x1 x2 x3 x4 x5 hh = some res → gx_Z mX12_predicted al al 0 0 18 [(0, .ref x0), (1, .int (gI x1)), (2, .int (gI x2)), (3, .int (gI x3)), (4, .int (gI x4)), (5, .int (gI x5))] [] (gi_cv hh) (.inl (some (.int (gI res)))) (gi_cv hh)) {v0 : Nat} {v1 : Int} {v2 : Int} {v3 : Int} {v4 : Int} {v5 : Int}  {h : gi_H} (e : b_X12_predicted_77 n r18 v0 v1 v2 v3 v4 v5 h = some res) : gx_Z mX12_predicted al al 0 0 77 [(0, .ref v0), (1, .int (gI v1)), (2, .int (gI v2)), (3, .int (gI v3)), (4, .int (gI v4)), (5, .int (gI v5))] [] (gi_cv h) (.inl (some (.int (gI res)))) (gi_cv h) := by
  refine gy_iconst dX12_predicted_77 ?_
  exact zb_X12_predicted_78 hr18 e
set_option maxRecDepth 100000 in
def b_X12_predicted_50 (n : Nat) (r18 : Nat → Int → Int → Int → Int → Int → gi_H → Option (Int)) (v0 : Nat) (v1 : Int) (v2 : Int) (v3 : Int) (v4 : Int) (v5 : Int) (s0 : Int) (s1 : Int) (h : gi_H) : Option (Int) :=
  gx_nm (gi_or s0 s1) fun t13 => Option.bind (gi_is h v0 10) fun _ => Option.bind (f_X12_lead v0 v5 h) fun q15 => Option.bind (gi_rg q15) fun _ => Option.bind (gi_rg v1) fun _ => if q15 = v1 then (Option.bind (gi_rg (gi_and (gi_shr t13 v2) (1 : Int))) fun _ => if (gi_and (gi_shr t13 v2) (1 : Int)) = (1 : Int) then (b_X12_predicted_78 n r18 v0 v1 v2 v3 v4 v5 (1 : Int) h) else (b_X12_predicted_77 n r18 v0 v1 v2 v3 v4 v5 h)) else (b_X12_predicted_77 n r18 v0 v1 v2 v3 v4 v5 h)
set_option maxRecDepth 100000 in
theorem zb_X12_predicted_50 {al : Bool} {n : Nat} {r18 : Nat → Int → Int → Int → Int → Int → gi_H → Option (Int)} {res : Int} (hr18 : ∀ (x0 : Nat) (x1 : Int) (x2 : Int) (x3 : Int) (x4 : Int) (x5 : Int) (hh : gi_H), r18 x0 x1 x2 x3 x4 x5 hh = some res → gx_Z mX12_predicted al al 0 0 18 [(0, .ref x0), (1, .int (gI x1)), (2, .int (gI x2)), (3, .int (gI x3)), (4, .int (gI x4)), (5, .int (gI x5))] [] (gi_cv hh) (.inl (some (.int (gI res)))) (gi_cv hh)) {v0 : Nat} {v1 : Int} {v2 : Int} {v3 : Int} {v4 : Int} {v5 : Int} {s0 : Int} {s1 : Int} {h : gi_H} (e : b_X12_predicted_50 n r18 v0 v1 v2 v3 v4 v5 s0 s1 h = some res) : gx_Z mX12_predicted al al 0 0 50 [(0, .ref v0), (1, .int (gI v1)), (2, .int (gI v2)), (3, .int (gI v3)), (4, .int (gI v4)), (5, .int (gI v5))] [.int (gI s1), .int (gI s0)] (gi_cv h) (.inl (some (.int (gI res)))) (gi_cv h) := by
  refine gy_ior dX12_predicted_50 ?_
  refine gx_nE e (fun t13 ht13 e => ?_)
  rw [ht13]
  refine gx_istore (ls2 := [(6, .int (gI t13)), (0, .ref v0), (1, .int (gI v1)), (2, .int (gI v2)), (3, .int (gI v3)), (4, .int (gI v4)), (5, .int (gI v5))]) dX12_predicted_51 (Nat.le_of_ble_eq_true rfl) rfl ?_
  refine gx_aload_n dX12_predicted_53 rfl 1 rfl ?_
  refine gx_iload dX12_predicted_54 6 rfl ?_
  refine gx_bE e (fun _ hu14 e => ?_)
  refine gx_bE e (fun q15 hq15 e => ?_)
  refine gx_callV (n := 1) (st := []) (As := [.int (gI v5)]) (b := v0) dX12_predicted_56 (z_X12_lead hq15) rfl ⟨rfl, gw_cw_X12_lead, gw_14, gp_X12_lead, ⟨Nat.le_of_ble_eq_true rfl, Nat.le_of_ble_eq_true rfl⟩⟩ (gi_isS hu14) (by decide) gw_1595 gw_1597 gs_74 rfl ⟨Nat.le_of_ble_eq_true rfl, Nat.le_of_ble_eq_true rfl⟩ (Nat.le_of_ble_eq_true rfl) (gy_k1 (x := .int (gI q15)) (kc2 := 0) (ks2 := 0) ⟨rfl, rfl⟩ ?_) gy_kn
  refine gx_iload_n dX12_predicted_59 rfl 2 rfl ?_
  refine gx_bE e (fun _ g16 e => ?_)
  refine gx_bE e (fun _ g17 e => ?_)
  refine gx_iE e (fun c18 e => ?_) (fun c18 e => ?_)
  · refine gy_icmp_ne (tgt := 77) (gi_rgS g16) (gi_rgS g17) dX12_predicted_60 (by decide) (fun z => absurd c18 z) (fun _ => ?_)
    refine gx_iload dX12_predicted_63 0 rfl ?_
    refine gx_iload_n dX12_predicted_65 rfl 3 rfl ?_
    refine gy_ishr dX12_predicted_66 ?_
    refine gy_iconst dX12_predicted_67 ?_
    refine gy_iand dX12_predicted_68 ?_
    refine gy_iconst dX12_predicted_69 ?_
    refine gx_bE e (fun _ g19 e => ?_)
    refine gx_iE e (fun c20 e => ?_) (fun c20 e => ?_)
    · refine gy_icmp_ne (tgt := 77) (gi_rgS g19) (by decide) dX12_predicted_70 (by decide) (fun z => absurd c20 z) (fun _ => ?_)
      refine gy_iconst dX12_predicted_73 ?_
      refine gx_goto (tgt := 78) dX12_predicted_74 (by decide) ?_
      refine gx_sub (ls2 := [(0, .ref v0), (1, .int (gI v1)), (2, .int (gI v2)), (3, .int (gI v3)), (4, .int (gI v4)), (5, .int (gI v5))]) [1, 2, 3, 4, 5, 6] rfl ?_
      exact zb_X12_predicted_78 hr18 e
    · refine gy_icmp_ne (tgt := 77) (gi_rgS g19) (by decide) dX12_predicted_70 (by decide) (fun _ => ?_) (fun z => absurd z c20)
      refine gx_sub (ls2 := [(0, .ref v0), (1, .int (gI v1)), (2, .int (gI v2)), (3, .int (gI v3)), (4, .int (gI v4)), (5, .int (gI v5))]) [1, 2, 3, 4, 5, 6] rfl ?_
      exact zb_X12_predicted_77 hr18 e
  · refine gy_icmp_ne (tgt := 77) (gi_rgS g16) (gi_rgS g17) dX12_predicted_60 (by decide) (fun _ => ?_) (fun z => absurd z c18)
    refine gx_sub (ls2 := [(0, .ref v0), (1, .int (gI v1)), (2, .int (gI v2)), (3, .int (gI v3)), (4, .int (gI v4)), (5, .int (gI v5))]) [1, 2, 3, 4, 5, 6] rfl ?_
    exact zb_X12_predicted_77 hr18 e
set_option maxRecDepth 100000 in
def b_X12_predicted_18 (n : Nat) (r18 : Nat → Int → Int → Int → Int → Int → gi_H → Option (Int)) (v0 : Nat) (v1 : Int) (v2 : Int) (v3 : Int) (v4 : Int) (v5 : Int)  (h : gi_H) : Option (Int) :=
  Option.bind (gi_rg v5) fun _ => if v5 < 0 then (b_X12_predicted_113 n  v3 v4 h) else (Option.bind (gi_is h v0 10) fun _ => Option.bind (f_X12_firstFrom n v0 v5 (0 : Int) h) fun q8 => Option.bind (gi_is h v0 10) fun _ => Option.bind (f_X12_isEmptyFrom n v0 v5 (0 : Int) h) fun q10 => Option.bind (gi_rg q10) fun _ => if q10 = 0 then (b_X12_predicted_50 n r18 v0 v1 v2 v3 v4 v5 q8 (0 : Int) h) else (Option.bind (gi_gR h v0 10 20) fun t27 => Option.bind (gi_aI h 1 t27 v1) fun t28 => b_X12_predicted_50 n r18 v0 v1 v2 v3 v4 v5 q8 t28 h))
set_option maxRecDepth 100000 in
theorem zb_X12_predicted_18 {al : Bool} {n : Nat} {r18 : Nat → Int → Int → Int → Int → Int → gi_H → Option (Int)} {res : Int} (hr18 : ∀ (x0 : Nat) (x1 : Int) (x2 : Int) (x3 : Int) (x4 : Int) (x5 : Int) (hh : gi_H), r18 x0 x1 x2 x3 x4 x5 hh = some res → gx_Z mX12_predicted al al 0 0 18 [(0, .ref x0), (1, .int (gI x1)), (2, .int (gI x2)), (3, .int (gI x3)), (4, .int (gI x4)), (5, .int (gI x5))] [] (gi_cv hh) (.inl (some (.int (gI res)))) (gi_cv hh)) {v0 : Nat} {v1 : Int} {v2 : Int} {v3 : Int} {v4 : Int} {v5 : Int}  {h : gi_H} (e : b_X12_predicted_18 n r18 v0 v1 v2 v3 v4 v5 h = some res) : gx_Z mX12_predicted al al 0 0 18 [(0, .ref v0), (1, .int (gI v1)), (2, .int (gI v2)), (3, .int (gI v3)), (4, .int (gI v4)), (5, .int (gI v5))] [] (gi_cv h) (.inl (some (.int (gI res)))) (gi_cv h) := by
  refine gx_iload dX12_predicted_18 5 rfl ?_
  refine gx_bE e (fun _ g5 e => ?_)
  refine gx_iE e (fun c6 e => ?_) (fun c6 e => ?_)
  · refine gy_if_lt (tgt := 113) (gi_rgS g5) dX12_predicted_20 (by decide) (fun _ => ?_) (fun z => absurd c6 z)
    refine gx_sub (ls2 := [(3, .int (gI v3)), (4, .int (gI v4))]) [3, 4] rfl ?_
    exact zb_X12_predicted_113  e
  · refine gy_if_lt (tgt := 113) (gi_rgS g5) dX12_predicted_20 (by decide) (fun z => absurd z c6) (fun _ => ?_)
    refine gx_aload_n dX12_predicted_23 rfl 0 rfl ?_
    refine gx_iload dX12_predicted_24 5 rfl ?_
    refine gy_iconst dX12_predicted_26 ?_
    refine gx_bE e (fun _ hu7 e => ?_)
    refine gx_bE e (fun q8 hq8 e => ?_)
    refine gx_callV (n := 2) (st := []) (As := [.int (gI v5), .int (gI (0 : Int))]) (b := v0) dX12_predicted_27 (z_X12_firstFrom hq8) rfl ⟨rfl, gw_cw_X12_firstFrom, gw_14, gp_X12_firstFrom, ⟨Nat.le_of_ble_eq_true rfl, Nat.le_of_ble_eq_true rfl⟩⟩ (gi_isS hu7) (by decide) gw_1599 gw_1601 gs_75 rfl ⟨Nat.le_of_ble_eq_true rfl, Nat.le_of_ble_eq_true rfl⟩ (Nat.le_of_ble_eq_true rfl) (gy_k1 (x := .int (gI q8)) (kc2 := 0) (ks2 := 0) ⟨rfl, rfl⟩ ?_) gy_kn
    refine gx_aload_n dX12_predicted_30 rfl 0 rfl ?_
    refine gx_iload dX12_predicted_31 5 rfl ?_
    refine gy_iconst dX12_predicted_33 ?_
    refine gx_bE e (fun _ hu9 e => ?_)
    refine gx_bE e (fun q10 hq10 e => ?_)
    refine gx_callV (n := 2) (st := [.int (gI q8)]) (As := [.int (gI v5), .int (gI (0 : Int))]) (b := v0) dX12_predicted_34 (z_X12_isEmptyFrom hq10) rfl ⟨rfl, gw_cw_X12_isEmptyFrom, gw_14, gp_X12_isEmptyFrom, ⟨Nat.le_of_ble_eq_true rfl, Nat.le_of_ble_eq_true rfl⟩⟩ (gi_isS hu9) (by decide) gw_1603 gw_1605 gs_76 rfl ⟨Nat.le_of_ble_eq_true rfl, Nat.le_of_ble_eq_true rfl⟩ (Nat.le_of_ble_eq_true rfl) (gy_k1 (x := .int (gI q10)) (kc2 := 0) (ks2 := 0) ⟨rfl, rfl⟩ ?_) gy_kn
    refine gx_bE e (fun _ g11 e => ?_)
    refine gx_iE e (fun c12 e => ?_) (fun c12 e => ?_)
    · refine gy_if_eq (tgt := 49) (gi_rgS g11) dX12_predicted_37 (by decide) (fun _ => ?_) (fun z => absurd c12 z)
      refine gy_iconst dX12_predicted_49 ?_
      exact zb_X12_predicted_50 hr18 e
    · refine gy_if_eq (tgt := 49) (gi_rgS g11) dX12_predicted_37 (by decide) (fun z => absurd z c12) (fun _ => ?_)
      refine gx_aload_n dX12_predicted_40 rfl 0 rfl ?_
      refine gx_bE e (fun t27 ht27 e => ?_)
      refine gy_fR ht27 dX12_predicted_41 gf_RX12_55_10_20 (by decide) gkN_10_20 gkR_10_20 ?_
      refine gx_iload_n dX12_predicted_44 rfl 1 rfl ?_
      refine gx_bE e (fun t28 ht28 e => ?_)
      refine gy_l1 ht28 dX12_predicted_45 ?_
      refine gx_goto (tgt := 50) dX12_predicted_46 (by decide) ?_
      exact zb_X12_predicted_50 hr18 e
def l_X12_predicted_18 (n : Nat)  : Nat → Nat → Int → Int → Int → Int → Int → gi_H → Option (Int)
  | 0, _, _, _, _, _, _, _ => none
  | k + 1, v0, v1, v2, v3, v4, v5, h => b_X12_predicted_18 n  (l_X12_predicted_18 n  k) v0 v1 v2 v3 v4 v5 h
theorem zl_X12_predicted_18 {al : Bool} {n : Nat}  {res : Int}  : ∀ (k : Nat) (v0 : Nat) (v1 : Int) (v2 : Int) (v3 : Int) (v4 : Int) (v5 : Int) (h : gi_H), l_X12_predicted_18 n  k v0 v1 v2 v3 v4 v5 h = some res → gx_Z mX12_predicted al al 0 0 18 [(0, .ref v0), (1, .int (gI v1)), (2, .int (gI v2)), (3, .int (gI v3)), (4, .int (gI v4)), (5, .int (gI v5))] [] (gi_cv h) (.inl (some (.int (gI res)))) (gi_cv h)
  | 0, _, _, _, _, _, _, _, e => gx_0E e
  | k + 1, _, _, _, _, _, _, _, e => zb_X12_predicted_18 (n := n)  (zl_X12_predicted_18  k) e
set_option maxRecDepth 100000 in
def f_X12_predicted (n : Nat) (v0 : Nat) (v1 : Int) (v2 : Int) (h : gi_H) : Option (Int) :=
  Option.bind (gi_gR h v0 10 3) fun t1 => Option.bind (gi_gI h v0 10 9) fun t2 => Option.bind (gi_aI h 1 t1 t2) fun t3 => gx_nm (t3 - (1 : Int)) fun t4 => l_X12_predicted_18 n  n v0 v1 v2 (0 : Int) (-1 : Int) t4 h
set_option maxRecDepth 100000 in
theorem z_X12_predicted {al : Bool} {n : Nat} {v0 : Nat} {v1 : Int} {v2 : Int} {h : gi_H} {res : Int} (e : f_X12_predicted n v0 v1 v2 h = some res) : gx_Cw mX12_predicted al [.ref v0, .int (gI v1), .int (gI v2)] (gi_cv h) (.inl (some (.int (gI res)))) (gi_cv h) := by
  refine gx_enter (by decide +kernel) rfl (Nat.le_of_ble_eq_true rfl) ?_
  show gx_Z mX12_predicted al al 0 0 0 [(0, .ref v0), (1, .int (gI v1)), (2, .int (gI v2))] [] (gi_cv h) (.inl (some (.int (gI res)))) (gi_cv h)
  refine gy_iconst dX12_predicted_0 ?_
  refine gx_istore_n (ls2 := [(3, .int (gI (0 : Int))), (0, .ref v0), (1, .int (gI v1)), (2, .int (gI v2))]) dX12_predicted_1 rfl (Nat.le_of_ble_eq_true rfl) rfl ?_
  refine gy_iconst dX12_predicted_2 ?_
  refine gx_istore (ls2 := [(4, .int (gI (-1 : Int))), (3, .int (gI (0 : Int))), (0, .ref v0), (1, .int (gI v1)), (2, .int (gI v2))]) dX12_predicted_3 (Nat.le_of_ble_eq_true rfl) rfl ?_
  refine gx_aload_n dX12_predicted_5 rfl 2 rfl ?_
  refine gx_bE e (fun t1 ht1 e => ?_)
  refine gy_fR ht1 dX12_predicted_6 gf_RX12_19_10_3 (by decide) gkN_10_3 gkR_10_3 ?_
  refine gx_aload_n dX12_predicted_9 rfl 2 rfl ?_
  refine gx_bE e (fun t2 ht2 e => ?_)
  refine gy_fI ht2 dX12_predicted_10 gf_RX12_139_10_9 (by decide) gkN_10_9 gkR_10_9 ?_
  refine gx_bE e (fun t3 ht3 e => ?_)
  refine gy_l1 ht3 dX12_predicted_13 ?_
  refine gy_iconst dX12_predicted_14 ?_
  refine gy_isub dX12_predicted_15 ?_
  refine gx_nE e (fun t4 ht4 e => ?_)
  rw [ht4]
  refine gx_istore (ls2 := [(5, .int (gI t4)), (4, .int (gI (-1 : Int))), (3, .int (gI (0 : Int))), (0, .ref v0), (1, .int (gI v1)), (2, .int (gI v2))]) dX12_predicted_16 (Nat.le_of_ble_eq_true rfl) rfl ?_
  refine gx_sub (ls2 := [(0, .ref v0), (1, .int (gI v1)), (2, .int (gI v2)), (3, .int (gI (0 : Int))), (4, .int (gI (-1 : Int))), (5, .int (gI t4))]) [3, 4, 5, 2, 1, 0] rfl ?_
  exact zl_X12_predicted_18  n _ _ _ _ _ _ _ e
/-! X12_size  -/
set_option maxRecDepth 100000 in
def b_X12_size_63 (n : Nat) (r33 : Nat → Int → Int → gi_H → Option (Int × gi_H)) (v0 : Nat) (v3 : Int) (s0 : Int) (s1 : Int) (h : gi_H) : Option (Int × gi_H) :=
  gx_nm (s0 + s1) fun t18 => gx_nm (v3 + (1 : Int)) fun t19 => r33 v0 t18 t19 h
set_option maxRecDepth 100000 in
theorem zb_X12_size_63 {al : Bool} {n : Nat} {r33 : Nat → Int → Int → gi_H → Option (Int × gi_H)} {res : Int} {h1 : gi_H} (hr33 : ∀ (x0 : Nat) (x2 : Int) (x3 : Int) (hh : gi_H), r33 x0 x2 x3 hh = some (res, h1) → gx_Z mX12_size al al 0 0 33 [(0, .ref x0), (2, .int (gI x2)), (3, .int (gI x3))] [] (gi_cv hh) (.inl (some (.int (gI res)))) (gi_cv h1)) {v0 : Nat} {v3 : Int} {s0 : Int} {s1 : Int} {h : gi_H} (e : b_X12_size_63 n r33 v0 v3 s0 s1 h = some (res, h1)) : gx_Z mX12_size al al 0 0 63 [(0, .ref v0), (3, .int (gI v3))] [.int (gI s1), .int (gI s0)] (gi_cv h) (.inl (some (.int (gI res)))) (gi_cv h1) := by
  refine gy_iadd dX12_size_63 ?_
  refine gx_nE e (fun t18 ht18 e => ?_)
  rw [ht18]
  refine gx_istore_n (ls2 := [(2, .int (gI t18)), (0, .ref v0), (3, .int (gI v3))]) dX12_size_64 rfl (Nat.le_of_ble_eq_true rfl) rfl ?_
  refine gx_nE e (fun t19 ht19 e => ?_)
  refine gy_iinc (v := t19) (ls2 := [(3, .int (gI t19)), (2, .int (gI t18)), (0, .ref v0)]) dX12_size_65 2 rfl ht19 (Nat.le_of_ble_eq_true rfl) rfl ?_
  refine gx_goto (tgt := 33) dX12_size_68 (by decide) ?_
  refine gx_sub (ls2 := [(0, .ref v0), (2, .int (gI t18)), (3, .int (gI t19))]) [2, 1, 0] rfl ?_
  exact hr33 _ _ _ _ e
set_option maxRecDepth 100000 in
def b_X12_size_33 (n : Nat) (r33 : Nat → Int → Int → gi_H → Option (Int × gi_H)) (v0 : Nat) (v2 : Int) (v3 : Int)  (h : gi_H) : Option (Int × gi_H) :=
  Option.bind (gi_rg v3) fun _ => if (144 : Int) ≤ v3 then (some (v2, h)) else (Option.bind (gi_dg v3 (9 : Int)) fun _ => Option.bind (gi_dg v3 (9 : Int)) fun _ => Option.bind (gi_is h v0 10) fun _ => Option.bind (f_X12_predicted n v0 (v3 / (9 : Int)) (v3 % (9 : Int)) h) fun q15 => Option.bind (gi_rg q15) fun _ => if q15 < (100 : Int) then (b_X12_size_63 n r33 v0 v3 v2 (0 : Int) h) else (b_X12_size_63 n r33 v0 v3 v2 (1 : Int) h))
set_option maxRecDepth 100000 in
theorem zb_X12_size_33 {al : Bool} {n : Nat} {r33 : Nat → Int → Int → gi_H → Option (Int × gi_H)} {res : Int} {h1 : gi_H} (hr33 : ∀ (x0 : Nat) (x2 : Int) (x3 : Int) (hh : gi_H), r33 x0 x2 x3 hh = some (res, h1) → gx_Z mX12_size al al 0 0 33 [(0, .ref x0), (2, .int (gI x2)), (3, .int (gI x3))] [] (gi_cv hh) (.inl (some (.int (gI res)))) (gi_cv h1)) {v0 : Nat} {v2 : Int} {v3 : Int}  {h : gi_H} (e : b_X12_size_33 n r33 v0 v2 v3 h = some (res, h1)) : gx_Z mX12_size al al 0 0 33 [(0, .ref v0), (2, .int (gI v2)), (3, .int (gI v3))] [] (gi_cv h) (.inl (some (.int (gI res)))) (gi_cv h1) := by
  refine gx_iload_n dX12_size_33 rfl 2 rfl ?_
  refine gy_sipush dX12_size_34 gcs_144 ?_
  refine gx_bE e (fun _ g10 e => ?_)
  refine gx_iE e (fun c11 e => ?_) (fun c11 e => ?_)
  · refine gy_icmp_ge (tgt := 71) (gi_rgS g10) (by decide) dX12_size_37 (by decide) (fun _ => ?_) (fun z => absurd c11 z)
    refine gx_iload_n dX12_size_71 rfl 1 rfl ?_
    cases e
    exact gx_iret dX12_size_72 rfl ⟨Nat.le_of_ble_eq_true rfl, Nat.le_of_ble_eq_true rfl⟩ (fun z => z)
  · refine gy_icmp_ge (tgt := 71) (gi_rgS g10) (by decide) dX12_size_37 (by decide) (fun z => absurd z c11) (fun _ => ?_)
    refine gx_iload_n dX12_size_40 rfl 1 rfl ?_
    refine gx_aload_n dX12_size_41 rfl 0 rfl ?_
    refine gx_iload_n dX12_size_42 rfl 2 rfl ?_
    refine gy_bipush dX12_size_43 gcb_9 ?_
    refine gx_bE e (fun _ hu12 e => ?_)
    refine gy_idiv hu12 dX12_size_45 ?_
    refine gx_iload_n dX12_size_46 rfl 2 rfl ?_
    refine gy_bipush dX12_size_47 gcb_9 ?_
    refine gx_bE e (fun _ hu13 e => ?_)
    refine gy_irem hu13 dX12_size_49 ?_
    refine gx_bE e (fun _ hu14 e => ?_)
    refine gx_bE e (fun q15 hq15 e => ?_)
    refine gx_callV (n := 2) (st := [.int (gI v2)]) (As := [.int (gI (v3 / (9 : Int))), .int (gI (v3 % (9 : Int)))]) (b := v0) dX12_size_50 (z_X12_predicted hq15) rfl ⟨rfl, gw_cw_X12_predicted, gw_14, gp_X12_predicted, ⟨Nat.le_of_ble_eq_true rfl, Nat.le_of_ble_eq_true rfl⟩⟩ (gi_isS hu14) (by decide) gw_1699 gw_1701 gs_91 rfl ⟨Nat.le_of_ble_eq_true rfl, Nat.le_of_ble_eq_true rfl⟩ (Nat.le_of_ble_eq_true rfl) (gy_k1 (x := .int (gI q15)) (kc2 := 0) (ks2 := 0) ⟨rfl, rfl⟩ ?_) gy_kn
    refine gy_bipush dX12_size_53 gcb_100 ?_
    refine gx_bE e (fun _ g16 e => ?_)
    refine gx_iE e (fun c17 e => ?_) (fun c17 e => ?_)
    · refine gy_icmp_lt (tgt := 62) (gi_rgS g16) (by decide) dX12_size_55 (by decide) (fun _ => ?_) (fun z => absurd c17 z)
      refine gy_iconst dX12_size_62 ?_
      refine gx_sub (ls2 := [(0, .ref v0), (3, .int (gI v3))]) [0, 2] rfl ?_
      exact zb_X12_size_63 hr33 e
    · refine gy_icmp_lt (tgt := 62) (gi_rgS g16) (by decide) dX12_size_55 (by decide) (fun z => absurd z c17) (fun _ => ?_)
      refine gy_iconst dX12_size_58 ?_
      refine gx_goto (tgt := 63) dX12_size_59 (by decide) ?_
      refine gx_sub (ls2 := [(0, .ref v0), (3, .int (gI v3))]) [0, 2] rfl ?_
      exact zb_X12_size_63 hr33 e
def l_X12_size_33 (n : Nat)  : Nat → Nat → Int → Int → gi_H → Option (Int × gi_H)
  | 0, _, _, _, _ => none
  | k + 1, v0, v2, v3, h => b_X12_size_33 n  (l_X12_size_33 n  k) v0 v2 v3 h
theorem zl_X12_size_33 {al : Bool} {n : Nat}  {res : Int} {h1 : gi_H}  : ∀ (k : Nat) (v0 : Nat) (v2 : Int) (v3 : Int) (h : gi_H), l_X12_size_33 n  k v0 v2 v3 h = some (res, h1) → gx_Z mX12_size al al 0 0 33 [(0, .ref v0), (2, .int (gI v2)), (3, .int (gI v3))] [] (gi_cv h) (.inl (some (.int (gI res)))) (gi_cv h1)
  | 0, _, _, _, _, e => gx_0E e
  | k + 1, _, _, _, _, e => zb_X12_size_33 (n := n)  (zl_X12_size_33  k) e
set_option maxRecDepth 100000 in
def f_X12_size (n : Nat) (v0 : Nat) (v1 : Int) (h : gi_H) : Option (Int × gi_H) :=
  Option.bind (f_X12_isKind v1 h) fun q1 => Option.bind (gi_is h v0 10) fun _ => Option.bind (f_X12_goes v0 q1 (1 : Int) (1 : Int) h) fun q3 => Option.bind (gi_rg q3.1) fun _ => if q3.1 = 0 then (some ((0 : Int), q3.2)) else (Option.bind (gi_rg v1) fun _ => if v1 = 0 then (Option.bind (gi_is q3.2 v0 10) fun _ => Option.bind (f_X12_finds n v0 q3.2) fun q9 => l_X12_size_33 n  n v0 (0 : Int) (0 : Int) q9) else (Option.bind (gi_is q3.2 v0 10) fun _ => Option.bind (f_X12_states n v0 v1 q3.2) fun q21 => some (q21.1, q21.2)))
set_option maxRecDepth 100000 in
theorem z_X12_size {al : Bool} {n : Nat} {v0 : Nat} {v1 : Int} {h : gi_H} {res : Int} {h1 : gi_H} (e : f_X12_size n v0 v1 h = some (res, h1)) : gx_Cw mX12_size al [.ref v0, .int (gI v1)] (gi_cv h) (.inl (some (.int (gI res)))) (gi_cv h1) := by
  refine gx_enter (by decide +kernel) rfl (Nat.le_of_ble_eq_true rfl) ?_
  show gx_Z mX12_size al al 0 0 0 [(0, .ref v0), (1, .int (gI v1))] [] (gi_cv h) (.inl (some (.int (gI res)))) (gi_cv h1)
  refine gx_aload_n dX12_size_0 rfl 0 rfl ?_
  refine gx_iload_n dX12_size_1 rfl 1 rfl ?_
  refine gx_bE e (fun q1 hq1 e => ?_)
  refine gx_callS (n := 1) (st := [.ref v0]) (As := [.int (gI v1)]) dX12_size_2 (z_X12_isKind hq1) rfl ⟨rfl, gw_cw_X12_isKind, gw_14, gp_X12_isKind, ⟨Nat.le_of_ble_eq_true rfl, Nat.le_of_ble_eq_true rfl⟩⟩ gw_1649 gw_1650 ⟨Nat.le_of_ble_eq_true rfl, Nat.le_of_ble_eq_true rfl⟩ (Nat.le_of_ble_eq_true rfl) (gy_k1 (x := .int (gI q1)) (kc2 := 0) (ks2 := 0) ⟨rfl, rfl⟩ ?_) gy_kn
  refine gy_iconst dX12_size_5 ?_
  refine gy_iconst dX12_size_6 ?_
  refine gx_bE e (fun _ hu2 e => ?_)
  refine gx_bE e (fun q3 hq3 e => ?_)
  refine gx_callV (n := 3) (st := []) (As := [.int (gI q1), .int (gI (1 : Int)), .int (gI (1 : Int))]) (b := v0) dX12_size_7 (z_X12_goes hq3) rfl ⟨rfl, gw_cw_X12_goes, gw_14, gp_X12_goes, ⟨Nat.le_of_ble_eq_true rfl, Nat.le_of_ble_eq_true rfl⟩⟩ (gi_isS hu2) (by decide) gw_1480 gw_1482 gs_58 rfl ⟨Nat.le_of_ble_eq_true rfl, Nat.le_of_ble_eq_true rfl⟩ (Nat.le_of_ble_eq_true rfl) (gy_k1 (x := .int (gI q3.1)) (kc2 := 0) (ks2 := 0) ⟨rfl, rfl⟩ ?_) gy_kn
  refine gx_bE e (fun _ g4 e => ?_)
  refine gx_iE e (fun c5 e => ?_) (fun c5 e => ?_)
  · refine gy_if_ne (tgt := 15) (gi_rgS g4) dX12_size_10 (by decide) (fun z => absurd c5 z) (fun _ => ?_)
    refine gy_iconst dX12_size_13 ?_
    cases e
    exact gx_iret dX12_size_14 rfl ⟨Nat.le_of_ble_eq_true rfl, Nat.le_of_ble_eq_true rfl⟩ (fun z => z)
  · refine gy_if_ne (tgt := 15) (gi_rgS g4) dX12_size_10 (by decide) (fun _ => ?_) (fun z => absurd z c5)
    refine gx_iload_n dX12_size_15 rfl 1 rfl ?_
    refine gx_bE e (fun _ g6 e => ?_)
    refine gx_iE e (fun c7 e => ?_) (fun c7 e => ?_)
    · refine gy_if_eq (tgt := 25) (gi_rgS g6) dX12_size_16 (by decide) (fun _ => ?_) (fun z => absurd c7 z)
      refine gx_aload_n dX12_size_25 rfl 0 rfl ?_
      refine gx_bE e (fun _ hu8 e => ?_)
      refine gx_bE e (fun q9 hq9 e => ?_)
      refine gx_callV (n := 0) (st := []) (As := []) (b := v0) dX12_size_26 (z_X12_finds hq9) rfl ⟨rfl, gw_cw_X12_finds, gw_14, gp_X12_finds, ⟨Nat.le_of_ble_eq_true rfl, Nat.le_of_ble_eq_true rfl⟩⟩ (gi_isS hu8) (by decide) gw_1587 gw_1589 gs_72 rfl ⟨Nat.le_of_ble_eq_true rfl, Nat.le_of_ble_eq_true rfl⟩ (Nat.le_of_ble_eq_true rfl) (gy_k0 (kc2 := 0) (ks2 := 0) ⟨rfl, rfl⟩ ?_) gy_kn
      refine gy_iconst dX12_size_29 ?_
      refine gx_istore_n (ls2 := [(2, .int (gI (0 : Int))), (0, .ref v0), (1, .int (gI v1))]) dX12_size_30 rfl (Nat.le_of_ble_eq_true rfl) rfl ?_
      refine gy_iconst dX12_size_31 ?_
      refine gx_istore_n (ls2 := [(3, .int (gI (0 : Int))), (2, .int (gI (0 : Int))), (0, .ref v0), (1, .int (gI v1))]) dX12_size_32 rfl (Nat.le_of_ble_eq_true rfl) rfl ?_
      refine gx_sub (ls2 := [(0, .ref v0), (2, .int (gI (0 : Int))), (3, .int (gI (0 : Int)))]) [2, 1, 0] rfl ?_
      exact zl_X12_size_33  n _ _ _ _ e
    · refine gy_if_eq (tgt := 25) (gi_rgS g6) dX12_size_16 (by decide) (fun z => absurd z c7) (fun _ => ?_)
      refine gx_aload_n dX12_size_19 rfl 0 rfl ?_
      refine gx_iload_n dX12_size_20 rfl 1 rfl ?_
      refine gx_bE e (fun _ hu20 e => ?_)
      refine gx_bE e (fun q21 hq21 e => ?_)
      refine gx_callV (n := 1) (st := []) (As := [.int (gI v1)]) (b := v0) dX12_size_21 (z_X12_states hq21) rfl ⟨rfl, gw_cw_X12_states, gw_14, gp_X12_states, ⟨Nat.le_of_ble_eq_true rfl, Nat.le_of_ble_eq_true rfl⟩⟩ (gi_isS hu20) (by decide) gw_1652 gw_1654 gs_80 rfl ⟨Nat.le_of_ble_eq_true rfl, Nat.le_of_ble_eq_true rfl⟩ (Nat.le_of_ble_eq_true rfl) (gy_k1 (x := .int (gI q21.1)) (kc2 := 0) (ks2 := 0) ⟨rfl, rfl⟩ ?_) gy_kn
      cases e
      exact gx_iret dX12_size_24 rfl ⟨Nat.le_of_ble_eq_true rfl, Nat.le_of_ble_eq_true rfl⟩ (fun z => z)
/-! X5_clashes  -/
set_option maxRecDepth 100000 in
def f_X5_clashes (n : Nat) (v0 : Nat) (h : gi_H) : Option (Int) :=
  Option.bind (gi_is h v0 4) fun _ => Option.bind (f_X5_cellsWith n v0 (2 : Int) h) fun q2 => some q2
set_option maxRecDepth 100000 in
theorem z_X5_clashes {al : Bool} {n : Nat} {v0 : Nat} {h : gi_H} {res : Int} (e : f_X5_clashes n v0 h = some res) : gx_Cw mX5_clashes al [.ref v0] (gi_cv h) (.inl (some (.int (gI res)))) (gi_cv h) := by
  refine gx_enter (by decide +kernel) rfl (Nat.le_of_ble_eq_true rfl) ?_
  show gx_Z mX5_clashes al al 0 0 0 [(0, .ref v0)] [] (gi_cv h) (.inl (some (.int (gI res)))) (gi_cv h)
  refine gx_aload_n dX5_clashes_0 rfl 0 rfl ?_
  refine gy_iconst dX5_clashes_1 ?_
  refine gx_bE e (fun _ hu1 e => ?_)
  refine gx_bE e (fun q2 hq2 e => ?_)
  refine gx_callV (n := 1) (st := []) (As := [.int (gI (2 : Int))]) (b := v0) dX5_clashes_2 (z_X5_cellsWith hq2) rfl ⟨rfl, gw_cw_X5_cellsWith, gw_9, gp_X5_cellsWith, ⟨Nat.le_of_ble_eq_true rfl, Nat.le_of_ble_eq_true rfl⟩⟩ (gi_isS hu1) (by decide) gw_596 gw_598 gs_30 rfl ⟨Nat.le_of_ble_eq_true rfl, Nat.le_of_ble_eq_true rfl⟩ (Nat.le_of_ble_eq_true rfl) (gy_k1 (x := .int (gI q2)) (kc2 := 0) (ks2 := 0) ⟨rfl, rfl⟩ ?_) gy_kn
  cases e
  exact gx_iret dX5_clashes_5 rfl ⟨Nat.le_of_ble_eq_true rfl, Nat.le_of_ble_eq_true rfl⟩ (fun z => z)
/-! X0_facts  -/
set_option maxRecDepth 100000 in
def f_X0_facts (v0 : Nat) (h : gi_H) : Option (Nat) :=
  Option.bind (gi_gR h v0 0 0) fun t1 => some t1
set_option maxRecDepth 100000 in
theorem z_X0_facts {al : Bool} {v0 : Nat} {h : gi_H} {res : Nat} (e : f_X0_facts v0 h = some res) : gx_Cw mX0_facts al [.ref v0] (gi_cv h) (.inl (some (.ref res))) (gi_cv h) := by
  refine gx_enter (by decide +kernel) rfl (Nat.le_of_ble_eq_true rfl) ?_
  show gx_Z mX0_facts al al 0 0 0 [(0, .ref v0)] [] (gi_cv h) (.inl (some (.ref res))) (gi_cv h)
  refine gx_aload_n dX0_facts_0 rfl 0 rfl ?_
  refine gx_bE e (fun t1 ht1 e => ?_)
  refine gy_fR ht1 dX0_facts_1 gf_RX0_28_0_0 (by decide) gkN_0_0 gkR_0_0 ?_
  cases e
  exact gx_aret dX0_facts_4 rfl ⟨Nat.le_of_ble_eq_true rfl, Nat.le_of_ble_eq_true rfl⟩ (fun z => z)
/-! X0_move  -/
set_option maxRecDepth 100000 in
def b_X0_move_25  (v0 : Nat) (v1 : Int) (v2 : Int) (s0 : Int) (h : gi_H) : Option (Int) :=
  Option.bind (gi_rg s0) fun _ => if s0 = 0 then (some (-1 : Int)) else (Option.bind (gi_gR h v0 0 6) fun t5 => Option.bind (gi_aI h 1 t5 ((v1 * (32 : Int)) + v2)) fun t6 => some t6)
set_option maxRecDepth 100000 in
theorem zb_X0_move_25 {al : Bool}  {res : Int}  {v0 : Nat} {v1 : Int} {v2 : Int} {s0 : Int} {h : gi_H} (e : b_X0_move_25 v0 v1 v2 s0 h = some res) : gx_Z mX0_move al al 0 0 25 [(0, .ref v0), (1, .int (gI v1)), (2, .int (gI v2))] [.int (gI s0)] (gi_cv h) (.inl (some (.int (gI res)))) (gi_cv h) := by
  refine gx_istore_n (ls2 := [(3, .int (gI s0)), (0, .ref v0), (1, .int (gI v1)), (2, .int (gI v2))]) dX0_move_25 rfl (Nat.le_of_ble_eq_true rfl) rfl ?_
  refine gx_iload_n dX0_move_26 rfl 0 rfl ?_
  refine gx_bE e (fun _ g3 e => ?_)
  refine gx_iE e (fun c4 e => ?_) (fun c4 e => ?_)
  · refine gy_if_eq (tgt := 44) (gi_rgS g3) dX0_move_27 (by decide) (fun _ => ?_) (fun z => absurd c4 z)
    refine gy_iconst dX0_move_44 ?_
    cases e
    exact gx_iret dX0_move_45 rfl ⟨Nat.le_of_ble_eq_true rfl, Nat.le_of_ble_eq_true rfl⟩ (fun z => z)
  · refine gy_if_eq (tgt := 44) (gi_rgS g3) dX0_move_27 (by decide) (fun z => absurd z c4) (fun _ => ?_)
    refine gx_aload_n dX0_move_30 rfl 1 rfl ?_
    refine gx_bE e (fun t5 ht5 e => ?_)
    refine gy_fR ht5 dX0_move_31 gf_RX0_15_0_6 (by decide) gkN_0_6 gkR_0_6 ?_
    refine gx_iload_n dX0_move_34 rfl 2 rfl ?_
    refine gy_bipush dX0_move_35 gcb_32 ?_
    refine gy_imul dX0_move_37 ?_
    refine gx_iload_n dX0_move_38 rfl 3 rfl ?_
    refine gy_iadd dX0_move_39 ?_
    refine gx_bE e (fun t6 ht6 e => ?_)
    refine gy_l1 ht6 dX0_move_40 ?_
    refine gx_goto (tgt := 45) dX0_move_41 (by decide) ?_
    cases e
    exact gx_iret dX0_move_45 rfl ⟨Nat.le_of_ble_eq_true rfl, Nat.le_of_ble_eq_true rfl⟩ (fun z => z)
set_option maxRecDepth 100000 in
def b_X0_move_24  (v0 : Nat) (v1 : Int) (v2 : Int)  (h : gi_H) : Option (Int) :=
  b_X0_move_25  v0 v1 v2 (0 : Int) h
set_option maxRecDepth 100000 in
theorem zb_X0_move_24 {al : Bool}  {res : Int}  {v0 : Nat} {v1 : Int} {v2 : Int}  {h : gi_H} (e : b_X0_move_24 v0 v1 v2 h = some res) : gx_Z mX0_move al al 0 0 24 [(0, .ref v0), (1, .int (gI v1)), (2, .int (gI v2))] [] (gi_cv h) (.inl (some (.int (gI res)))) (gi_cv h) := by
  refine gy_iconst dX0_move_24 ?_
  exact zb_X0_move_25  e
set_option maxRecDepth 100000 in
def f_X0_move (v0 : Nat) (v1 : Int) (v2 : Int) (h : gi_H) : Option (Int) :=
  Option.bind (gi_rg v1) fun _ => if v1 < 0 then (b_X0_move_24  v0 v1 v2 h) else (if (80 : Int) ≤ v1 then (b_X0_move_24  v0 v1 v2 h) else (Option.bind (gi_rg v2) fun _ => if v2 < 0 then (b_X0_move_24  v0 v1 v2 h) else (if (32 : Int) ≤ v2 then (b_X0_move_24  v0 v1 v2 h) else (b_X0_move_25  v0 v1 v2 (1 : Int) h))))
set_option maxRecDepth 100000 in
theorem z_X0_move {al : Bool} {v0 : Nat} {v1 : Int} {v2 : Int} {h : gi_H} {res : Int} (e : f_X0_move v0 v1 v2 h = some res) : gx_Cw mX0_move al [.ref v0, .int (gI v1), .int (gI v2)] (gi_cv h) (.inl (some (.int (gI res)))) (gi_cv h) := by
  refine gx_enter (by decide +kernel) rfl (Nat.le_of_ble_eq_true rfl) ?_
  show gx_Z mX0_move al al 0 0 0 [(0, .ref v0), (1, .int (gI v1)), (2, .int (gI v2))] [] (gi_cv h) (.inl (some (.int (gI res)))) (gi_cv h)
  refine gx_iload_n dX0_move_0 rfl 1 rfl ?_
  refine gx_bE e (fun _ g1 e => ?_)
  refine gx_iE e (fun c2 e => ?_) (fun c2 e => ?_)
  · refine gy_if_lt (tgt := 24) (gi_rgS g1) dX0_move_1 (by decide) (fun _ => ?_) (fun z => absurd c2 z)
    exact zb_X0_move_24  e
  · refine gy_if_lt (tgt := 24) (gi_rgS g1) dX0_move_1 (by decide) (fun z => absurd z c2) (fun _ => ?_)
    refine gx_iload_n dX0_move_4 rfl 1 rfl ?_
    refine gy_bipush dX0_move_5 gcb_80 ?_
    refine gx_iE e (fun c7 e => ?_) (fun c7 e => ?_)
    · refine gy_icmp_ge (tgt := 24) (gi_rgS g1) (by decide) dX0_move_7 (by decide) (fun _ => ?_) (fun z => absurd c7 z)
      exact zb_X0_move_24  e
    · refine gy_icmp_ge (tgt := 24) (gi_rgS g1) (by decide) dX0_move_7 (by decide) (fun z => absurd z c7) (fun _ => ?_)
      refine gx_iload_n dX0_move_10 rfl 2 rfl ?_
      refine gx_bE e (fun _ g8 e => ?_)
      refine gx_iE e (fun c9 e => ?_) (fun c9 e => ?_)
      · refine gy_if_lt (tgt := 24) (gi_rgS g8) dX0_move_11 (by decide) (fun _ => ?_) (fun z => absurd c9 z)
        exact zb_X0_move_24  e
      · refine gy_if_lt (tgt := 24) (gi_rgS g8) dX0_move_11 (by decide) (fun z => absurd z c9) (fun _ => ?_)
        refine gx_iload_n dX0_move_14 rfl 2 rfl ?_
        refine gy_bipush dX0_move_15 gcb_32 ?_
        refine gx_iE e (fun c10 e => ?_) (fun c10 e => ?_)
        · refine gy_icmp_ge (tgt := 24) (gi_rgS g8) (by decide) dX0_move_17 (by decide) (fun _ => ?_) (fun z => absurd c10 z)
          exact zb_X0_move_24  e
        · refine gy_icmp_ge (tgt := 24) (gi_rgS g8) (by decide) dX0_move_17 (by decide) (fun z => absurd z c10) (fun _ => ?_)
          refine gy_iconst dX0_move_20 ?_
          refine gx_goto (tgt := 25) dX0_move_21 (by decide) ?_
          exact zb_X0_move_25  e
