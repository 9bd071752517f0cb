/-! X12_counted  -/
set_option maxRecDepth 100000 in
def b_X12_counted_108 (n : Nat) (r5 : Nat → Int → Int → Int → Int → gi_H → Option (Int × gi_H)) (v0 : Nat) (v1 : Int) (v2 : Int) (v4 : Int) (v5 : Int) (s0 : Int) (h : gi_H) : Option (Int × gi_H) :=
  Option.bind (gi_gR h v0 10 41) fun t20 => Option.bind (f_X12_at v4 v1 v2 h) fun q21 => Option.bind (gi_s1 h t20 q21 v5) fun h22 => gx_nm (v4 + (1 : Int)) fun t23 => r5 v0 v1 v2 s0 t23 h22
set_option maxRecDepth 100000 in
theorem zb_X12_counted_108 {al : Bool} {n : Nat} {r5 : Nat → Int → Int → Int → Int → gi_H → Option (Int × gi_H)} {res : Int} {h1 : gi_H} (hr5 : ∀ (x0 : Nat) (x1 : Int) (x2 : Int) (x3 : Int) (x4 : Int) (hh : gi_H), r5 x0 x1 x2 x3 x4 hh = some (res, h1) → gx_Z mX12_counted al al 0 0 5 [(0, .ref x0), (1, .int (gI x1)), (2, .int (gI x2)), (3, .int (gI x3)), (4, .int (gI x4))] [] (gi_cv hh) (.inl (some (.int (gI res)))) (gi_cv h1)) {v0 : Nat} {v1 : Int} {v2 : Int} {v4 : Int} {v5 : Int} {s0 : Int} {h : gi_H} (e : b_X12_counted_108 n r5 v0 v1 v2 v4 v5 s0 h = some (res, h1)) : gx_Z mX12_counted al al 0 0 108 [(0, .ref v0), (1, .int (gI v1)), (2, .int (gI v2)), (4, .int (gI v4)), (5, .int (gI v5))] [.int (gI s0)] (gi_cv h) (.inl (some (.int (gI res)))) (gi_cv h1) := by
  refine gx_istore_n (ls2 := [(3, .int (gI s0)), (0, .ref v0), (1, .int (gI v1)), (2, .int (gI v2)), (4, .int (gI v4)), (5, .int (gI v5))]) dX12_counted_108 rfl (Nat.le_of_ble_eq_true rfl) rfl ?_
  refine gx_aload_n dX12_counted_109 rfl 1 rfl ?_
  refine gx_bE e (fun t20 ht20 e => ?_)
  refine gy_fR ht20 dX12_counted_110 gf_RX12_95_10_41 (by decide) gkN_10_41 gkR_10_41 ?_
  refine gx_iload dX12_counted_113 4 rfl ?_
  refine gx_iload_n dX12_counted_115 rfl 2 rfl ?_
  refine gx_iload_n dX12_counted_116 rfl 3 rfl ?_
  refine gx_bE e (fun q21 hq21 e => ?_)
  refine gx_callS (n := 3) (st := [.ref t20]) (As := [.int (gI v4), .int (gI v1), .int (gI v2)]) dX12_counted_117 (z_X12_at hq21) rfl ⟨rfl, gw_cw_X12_at, gw_14, gp_X12_at, ⟨Nat.le_of_ble_eq_true rfl, Nat.le_of_ble_eq_true rfl⟩⟩ gw_1795 gw_1796 ⟨Nat.le_of_ble_eq_true rfl, Nat.le_of_ble_eq_true rfl⟩ (Nat.le_of_ble_eq_true rfl) (gy_k1 (x := .int (gI q21)) (kc2 := 0) (ks2 := 0) ⟨rfl, rfl⟩ ?_) gy_kn
  refine gx_iload dX12_counted_120 5 rfl ?_
  refine gx_bE e (fun h22 hh22 e => ?_)
  refine gy_t1 hh22 dX12_counted_122 ?_
  refine gx_nE e (fun t23 ht23 e => ?_)
  refine gy_iinc (v := t23) (ls2 := [(4, .int (gI t23)), (3, .int (gI s0)), (0, .ref v0), (1, .int (gI v1)), (2, .int (gI v2)), (5, .int (gI v5))]) dX12_counted_123 4 rfl ht23 (Nat.le_of_ble_eq_true rfl) rfl ?_
  refine gx_goto (tgt := 5) dX12_counted_126 (by decide) ?_
  refine gx_sub (ls2 := [(0, .ref v0), (1, .int (gI v1)), (2, .int (gI v2)), (3, .int (gI s0)), (4, .int (gI t23))]) [2, 3, 4, 1, 0] rfl ?_
  exact hr5 _ _ _ _ _ _ e
set_option maxRecDepth 100000 in
def b_X12_counted_103 (n : Nat) (r5 : Nat → Int → Int → Int → Int → gi_H → Option (Int × gi_H)) (v0 : Nat) (v1 : Int) (v2 : Int) (v4 : Int) (v5 : Int)  (h : gi_H) : Option (Int × gi_H) :=
  b_X12_counted_108 n r5 v0 v1 v2 v4 v5 (1 : Int) h
set_option maxRecDepth 100000 in
theorem zb_X12_counted_103 {al : Bool} {n : Nat} {r5 : Nat → Int → Int → Int → Int → gi_H → Option (Int × gi_H)} {res : Int} {h1 : gi_H} (hr5 : ∀ (x0 : Nat) (x1 : Int) (x2 : Int) (x3 : Int) (x4 : Int) (hh : gi_H), r5 x0 x1 x2 x3 x4 hh = some (res, h1) → gx_Z mX12_counted al al 0 0 5 [(0, .ref x0), (1, .int (gI x1)), (2, .int (gI x2)), (3, .int (gI x3)), (4, .int (gI x4))] [] (gi_cv hh) (.inl (some (.int (gI res)))) (gi_cv h1)) {v0 : Nat} {v1 : Int} {v2 : Int} {v4 : Int} {v5 : Int}  {h : gi_H} (e : b_X12_counted_103 n r5 v0 v1 v2 v4 v5 h = some (res, h1)) : gx_Z mX12_counted al al 0 0 103 [(0, .ref v0), (1, .int (gI v1)), (2, .int (gI v2)), (4, .int (gI v4)), (5, .int (gI v5))] [] (gi_cv h) (.inl (some (.int (gI res)))) (gi_cv h1) := by
  refine gy_iconst dX12_counted_103 ?_
  refine gx_goto (tgt := 108) dX12_counted_104 (by decide) ?_
  exact zb_X12_counted_108 hr5 e
set_option maxRecDepth 100000 in
def b_X12_counted_80 (n : Nat) (r5 : Nat → Int → Int → Int → Int → gi_H → Option (Int × gi_H)) (v0 : Nat) (v1 : Int) (v2 : Int) (v3 : Int) (v4 : Int) (s0 : Int) (h : gi_H) : Option (Int × gi_H) :=
  Option.bind (gi_rg v3) fun _ => if v3 = 0 then (Option.bind (gi_gR h v0 10 41) fun t14 => Option.bind (f_X12_at v4 v1 v2 h) fun q15 => Option.bind (gi_aI h 1 t14 q15) fun t16 => Option.bind (gi_rg s0) fun _ => Option.bind (gi_rg t16) fun _ => if s0 = t16 then (b_X12_counted_108 n r5 v0 v1 v2 v4 s0 (0 : Int) h) else (b_X12_counted_103 n r5 v0 v1 v2 v4 s0 h)) else (b_X12_counted_103 n r5 v0 v1 v2 v4 s0 h)
set_option maxRecDepth 100000 in
theorem zb_X12_counted_80 {al : Bool} {n : Nat} {r5 : Nat → Int → Int → Int → Int → gi_H → Option (Int × gi_H)} {res : Int} {h1 : gi_H} (hr5 : ∀ (x0 : Nat) (x1 : Int) (x2 : Int) (x3 : Int) (x4 : Int) (hh : gi_H), r5 x0 x1 x2 x3 x4 hh = some (res, h1) → gx_Z mX12_counted al al 0 0 5 [(0, .ref x0), (1, .int (gI x1)), (2, .int (gI x2)), (3, .int (gI x3)), (4, .int (gI x4))] [] (gi_cv hh) (.inl (some (.int (gI res)))) (gi_cv h1)) {v0 : Nat} {v1 : Int} {v2 : Int} {v3 : Int} {v4 : Int} {s0 : Int} {h : gi_H} (e : b_X12_counted_80 n r5 v0 v1 v2 v3 v4 s0 h = some (res, h1)) : gx_Z mX12_counted al al 0 0 80 [(0, .ref v0), (1, .int (gI v1)), (2, .int (gI v2)), (3, .int (gI v3)), (4, .int (gI v4))] [.int (gI s0)] (gi_cv h) (.inl (some (.int (gI res)))) (gi_cv h1) := by
  refine gx_istore (ls2 := [(5, .int (gI s0)), (0, .ref v0), (1, .int (gI v1)), (2, .int (gI v2)), (3, .int (gI v3)), (4, .int (gI v4))]) dX12_counted_80 (Nat.le_of_ble_eq_true rfl) rfl ?_
  refine gx_iload_n dX12_counted_82 rfl 4 rfl ?_
  refine gx_bE e (fun _ g12 e => ?_)
  refine gx_iE e (fun c13 e => ?_) (fun c13 e => ?_)
  · refine gy_if_ne (tgt := 103) (gi_rgS g12) dX12_counted_83 (by decide) (fun z => absurd c13 z) (fun _ => ?_)
    refine gx_iload dX12_counted_86 0 rfl ?_
    refine gx_aload_n dX12_counted_88 rfl 1 rfl ?_
    refine gx_bE e (fun t14 ht14 e => ?_)
    refine gy_fR ht14 dX12_counted_89 gf_RX12_95_10_41 (by decide) gkN_10_41 gkR_10_41 ?_
    refine gx_iload dX12_counted_92 5 rfl ?_
    refine gx_iload_n dX12_counted_94 rfl 2 rfl ?_
    refine gx_iload_n dX12_counted_95 rfl 3 rfl ?_
    refine gx_bE e (fun q15 hq15 e => ?_)
    refine gx_callS (n := 3) (st := [.ref t14, .int (gI s0)]) (As := [.int (gI v4), .int (gI v1), .int (gI v2)]) dX12_counted_96 (z_X12_at hq15) rfl ⟨rfl, gw_cw_X12_at, gw_14, gp_X12_at, ⟨Nat.le_of_ble_eq_true rfl, Nat.le_of_ble_eq_true rfl⟩⟩ gw_1795 gw_1796 ⟨Nat.le_of_ble_eq_true rfl, Nat.le_of_ble_eq_true rfl⟩ (Nat.le_of_ble_eq_true rfl) (gy_k1 (x := .int (gI q15)) (kc2 := 0) (ks2 := 0) ⟨rfl, rfl⟩ ?_) gy_kn
    refine gx_bE e (fun t16 ht16 e => ?_)
    refine gy_l1 ht16 dX12_counted_99 ?_
    refine gx_bE e (fun _ g17 e => ?_)
    refine gx_bE e (fun _ g18 e => ?_)
    refine gx_iE e (fun c19 e => ?_) (fun c19 e => ?_)
    · refine gy_icmp_eq (tgt := 107) (gi_rgS g17) (gi_rgS g18) dX12_counted_100 (by decide) (fun _ => ?_) (fun z => absurd c19 z)
      refine gy_iconst dX12_counted_107 ?_
      refine gx_sub (ls2 := [(0, .ref v0), (1, .int (gI v1)), (2, .int (gI v2)), (4, .int (gI v4)), (5, .int (gI s0))]) [1, 2, 3, 5, 0] rfl ?_
      exact zb_X12_counted_108 hr5 e
    · refine gy_icmp_eq (tgt := 107) (gi_rgS g17) (gi_rgS g18) dX12_counted_100 (by decide) (fun z => absurd z c19) (fun _ => ?_)
      refine gx_sub (ls2 := [(0, .ref v0), (1, .int (gI v1)), (2, .int (gI v2)), (4, .int (gI v4)), (5, .int (gI s0))]) [1, 2, 3, 5, 0] rfl ?_
      exact zb_X12_counted_103 hr5 e
  · refine gy_if_ne (tgt := 103) (gi_rgS g12) dX12_counted_83 (by decide) (fun _ => ?_) (fun z => absurd z c13)
    refine gx_sub (ls2 := [(0, .ref v0), (1, .int (gI v1)), (2, .int (gI v2)), (4, .int (gI v4)), (5, .int (gI s0))]) [1, 2, 3, 5, 0] rfl ?_
    exact zb_X12_counted_103 hr5 e
set_option maxRecDepth 100000 in
def b_X12_counted_66 (n : Nat) (r5 : Nat → Int → Int → Int → Int → gi_H → Option (Int × gi_H)) (v0 : Nat) (v1 : Int) (v2 : Int) (v3 : Int) (v4 : Int) (v5 : Int)  (h : gi_H) : Option (Int × gi_H) :=
  Option.bind (gi_rg v5) fun _ => if v5 ≤ (100 : Int) then (b_X12_counted_80 n r5 v0 v1 v2 v3 v4 v5 h) else (b_X12_counted_80 n r5 v0 v1 v2 v3 v4 (100 : Int) h)
set_option maxRecDepth 100000 in
theorem zb_X12_counted_66 {al : Bool} {n : Nat} {r5 : Nat → Int → Int → Int → Int → gi_H → Option (Int × gi_H)} {res : Int} {h1 : gi_H} (hr5 : ∀ (x0 : Nat) (x1 : Int) (x2 : Int) (x3 : Int) (x4 : Int) (hh : gi_H), r5 x0 x1 x2 x3 x4 hh = some (res, h1) → gx_Z mX12_counted al al 0 0 5 [(0, .ref x0), (1, .int (gI x1)), (2, .int (gI x2)), (3, .int (gI x3)), (4, .int (gI x4))] [] (gi_cv hh) (.inl (some (.int (gI res)))) (gi_cv h1)) {v0 : Nat} {v1 : Int} {v2 : Int} {v3 : Int} {v4 : Int} {v5 : Int}  {h : gi_H} (e : b_X12_counted_66 n r5 v0 v1 v2 v3 v4 v5 h = some (res, h1)) : gx_Z mX12_counted al al 0 0 66 [(0, .ref v0), (1, .int (gI v1)), (2, .int (gI v2)), (3, .int (gI v3)), (4, .int (gI v4)), (5, .int (gI v5))] [] (gi_cv h) (.inl (some (.int (gI res)))) (gi_cv h1) := by
  refine gx_iload dX12_counted_66 5 rfl ?_
  refine gy_bipush dX12_counted_68 gcb_100 ?_
  refine gx_bE e (fun _ g10 e => ?_)
  refine gx_iE e (fun c11 e => ?_) (fun c11 e => ?_)
  · refine gy_icmp_le (tgt := 78) (gi_rgS g10) (by decide) dX12_counted_70 (by decide) (fun _ => ?_) (fun z => absurd c11 z)
    refine gx_iload dX12_counted_78 5 rfl ?_
    refine gx_sub (ls2 := [(0, .ref v0), (1, .int (gI v1)), (2, .int (gI v2)), (3, .int (gI v3)), (4, .int (gI v4))]) [0, 1, 2, 3, 4] rfl ?_
    exact zb_X12_counted_80 hr5 e
  · refine gy_icmp_le (tgt := 78) (gi_rgS g10) (by decide) dX12_counted_70 (by decide) (fun z => absurd z c11) (fun _ => ?_)
    refine gy_bipush dX12_counted_73 gcb_100 ?_
    refine gx_goto (tgt := 80) dX12_counted_75 (by decide) ?_
    refine gx_sub (ls2 := [(0, .ref v0), (1, .int (gI v1)), (2, .int (gI v2)), (3, .int (gI v3)), (4, .int (gI v4))]) [0, 1, 2, 3, 4] rfl ?_
    exact zb_X12_counted_80 hr5 e
set_option maxRecDepth 100000 in
def b_X12_counted_57 (n : Nat) (r5 : Nat → Int → Int → Int → Int → gi_H → Option (Int × gi_H)) (r18 : Nat → Int → Int → Int → Int → Int → Int → gi_H → Option (Int × gi_H)) (v0 : Nat) (v1 : Int) (v2 : Int) (v3 : Int) (v4 : Int) (v6 : Int) (s0 : Int) (s1 : Int) (h : gi_H) : Option (Int × gi_H) :=
  gx_nm (s0 + s1) fun t31 => gx_nm (v6 + (1 : Int)) fun t32 => r18 v0 v1 v2 v3 v4 t31 t32 h
set_option maxRecDepth 100000 in
theorem zb_X12_counted_57 {al : Bool} {n : Nat} {r5 : Nat → Int → Int → Int → Int → gi_H → Option (Int × gi_H)} {r18 : Nat → Int → Int → Int → Int → Int → Int → gi_H → Option (Int × gi_H)} {res : Int} {h1 : gi_H} (hr5 : ∀ (x0 : Nat) (x1 : Int) (x2 : Int) (x3 : Int) (x4 : Int) (hh : gi_H), r5 x0 x1 x2 x3 x4 hh = some (res, h1) → gx_Z mX12_counted al al 0 0 5 [(0, .ref x0), (1, .int (gI x1)), (2, .int (gI x2)), (3, .int (gI x3)), (4, .int (gI x4))] [] (gi_cv hh) (.inl (some (.int (gI res)))) (gi_cv h1)) (hr18 : ∀ (x0 : Nat) (x1 : Int) (x2 : Int) (x3 : Int) (x4 : Int) (x5 : Int) (x6 : Int) (hh : gi_H), r18 x0 x1 x2 x3 x4 x5 x6 hh = some (res, h1) → gx_Z mX12_counted al al 0 0 18 [(0, .ref x0), (1, .int (gI x1)), (2, .int (gI x2)), (3, .int (gI x3)), (4, .int (gI x4)), (5, .int (gI x5)), (6, .int (gI x6))] [] (gi_cv hh) (.inl (some (.int (gI res)))) (gi_cv h1)) {v0 : Nat} {v1 : Int} {v2 : Int} {v3 : Int} {v4 : Int} {v6 : Int} {s0 : Int} {s1 : Int} {h : gi_H} (e : b_X12_counted_57 n r5 r18 v0 v1 v2 v3 v4 v6 s0 s1 h = some (res, h1)) : gx_Z mX12_counted al al 0 0 57 [(0, .ref v0), (1, .int (gI v1)), (2, .int (gI v2)), (3, .int (gI v3)), (4, .int (gI v4)), (6, .int (gI v6))] [.int (gI s1), .int (gI s0)] (gi_cv h) (.inl (some (.int (gI res)))) (gi_cv h1) := by
  refine gy_iadd dX12_counted_57 ?_
  refine gx_nE e (fun t31 ht31 e => ?_)
  rw [ht31]
  refine gx_istore (ls2 := [(5, .int (gI t31)), (0, .ref v0), (1, .int (gI v1)), (2, .int (gI v2)), (3, .int (gI v3)), (4, .int (gI v4)), (6, .int (gI v6))]) dX12_counted_58 (Nat.le_of_ble_eq_true rfl) rfl ?_
  refine gx_nE e (fun t32 ht32 e => ?_)
  refine gy_iinc (v := t32) (ls2 := [(6, .int (gI t32)), (5, .int (gI t31)), (0, .ref v0), (1, .int (gI v1)), (2, .int (gI v2)), (3, .int (gI v3)), (4, .int (gI v4))]) dX12_counted_60 6 rfl ht32 (Nat.le_of_ble_eq_true rfl) rfl ?_
  refine gx_goto (tgt := 18) dX12_counted_63 (by decide) ?_
  refine gx_sub (ls2 := [(0, .ref v0), (1, .int (gI v1)), (2, .int (gI v2)), (3, .int (gI v3)), (4, .int (gI v4)), (5, .int (gI t31)), (6, .int (gI t32))]) [2, 3, 4, 5, 6, 1, 0] rfl ?_
  exact hr18 _ _ _ _ _ _ _ _ e
set_option maxRecDepth 100000 in
def b_X12_counted_18 (n : Nat) (r5 : Nat → Int → Int → Int → Int → gi_H → Option (Int × gi_H)) (r18 : Nat → Int → Int → Int → Int → Int → Int → gi_H → Option (Int × gi_H)) (v0 : Nat) (v1 : Int) (v2 : Int) (v3 : Int) (v4 : Int) (v5 : Int) (v6 : Int)  (h : gi_H) : Option (Int × gi_H) :=
  Option.bind (gi_gR h v0 10 3) fun t4 => Option.bind (gi_gI h v0 10 9) fun t5 => Option.bind (gi_aI h 1 t4 t5) fun t6 => Option.bind (gi_rg v6) fun _ => Option.bind (gi_rg t6) fun _ => if t6 ≤ v6 then (b_X12_counted_66 n r5 v0 v1 v2 v3 v4 v5 h) else (Option.bind (gi_is h v0 10) fun _ => Option.bind (f_X12_lead v0 v6 h) fun q25 => Option.bind (gi_rg q25) fun _ => Option.bind (gi_rg v4) fun _ => if q25 = v4 then (Option.bind (gi_is h v0 10) fun _ => Option.bind (f_X12_waysOf n v0 v6 v1 v2 h) fun q30 => b_X12_counted_57 n r5 r18 v0 v1 v2 v3 v4 v6 v5 q30.1 q30.2) else (b_X12_counted_57 n r5 r18 v0 v1 v2 v3 v4 v6 v5 (0 : Int) h))
set_option maxRecDepth 100000 in
theorem zb_X12_counted_18 {al : Bool} {n : Nat} {r5 : Nat → Int → Int → Int → Int → gi_H → Option (Int × gi_H)} {r18 : Nat → Int → Int → Int → Int → Int → Int → gi_H → Option (Int × gi_H)} {res : Int} {h1 : gi_H} (hr5 : ∀ (x0 : Nat) (x1 : Int) (x2 : Int) (x3 : Int) (x4 : Int) (hh : gi_H), r5 x0 x1 x2 x3 x4 hh = some (res, h1) → gx_Z mX12_counted al al 0 0 5 [(0, .ref x0), (1, .int (gI x1)), (2, .int (gI x2)), (3, .int (gI x3)), (4, .int (gI x4))] [] (gi_cv hh) (.inl (some (.int (gI res)))) (gi_cv h1)) (hr18 : ∀ (x0 : Nat) (x1 : Int) (x2 : Int) (x3 : Int) (x4 : Int) (x5 : Int) (x6 : Int) (hh : gi_H), r18 x0 x1 x2 x3 x4 x5 x6 hh = some (res, h1) → gx_Z mX12_counted al al 0 0 18 [(0, .ref x0), (1, .int (gI x1)), (2, .int (gI x2)), (3, .int (gI x3)), (4, .int (gI x4)), (5, .int (gI x5)), (6, .int (gI x6))] [] (gi_cv hh) (.inl (some (.int (gI res)))) (gi_cv h1)) {v0 : Nat} {v1 : Int} {v2 : Int} {v3 : Int} {v4 : Int} {v5 : Int} {v6 : Int}  {h : gi_H} (e : b_X12_counted_18 n r5 r18 v0 v1 v2 v3 v4 v5 v6 h = some (res, h1)) : gx_Z mX12_counted al al 0 0 18 [(0, .ref v0), (1, .int (gI v1)), (2, .int (gI v2)), (3, .int (gI v3)), (4, .int (gI v4)), (5, .int (gI v5)), (6, .int (gI v6))] [] (gi_cv h) (.inl (some (.int (gI res)))) (gi_cv h1) := by
  refine gx_iload dX12_counted_18 6 rfl ?_
  refine gx_aload_n dX12_counted_20 rfl 0 rfl ?_
  refine gx_bE e (fun t4 ht4 e => ?_)
  refine gy_fR ht4 dX12_counted_21 gf_RX12_19_10_3 (by decide) gkN_10_3 gkR_10_3 ?_
  refine gx_aload_n dX12_counted_24 rfl 0 rfl ?_
  refine gx_bE e (fun t5 ht5 e => ?_)
  refine gy_fI ht5 dX12_counted_25 gf_RX12_139_10_9 (by decide) gkN_10_9 gkR_10_9 ?_
  refine gx_bE e (fun t6 ht6 e => ?_)
  refine gy_l1 ht6 dX12_counted_28 ?_
  refine gx_bE e (fun _ g7 e => ?_)
  refine gx_bE e (fun _ g8 e => ?_)
  refine gx_iE e (fun c9 e => ?_) (fun c9 e => ?_)
  · refine gy_icmp_ge (tgt := 66) (gi_rgS g7) (gi_rgS g8) dX12_counted_29 (by decide) (fun _ => ?_) (fun z => absurd c9 z)
    refine gx_sub (ls2 := [(0, .ref v0), (1, .int (gI v1)), (2, .int (gI v2)), (3, .int (gI v3)), (4, .int (gI v4)), (5, .int (gI v5))]) [0, 1, 2, 3, 4, 5] rfl ?_
    exact zb_X12_counted_66 hr5 e
  · refine gy_icmp_ge (tgt := 66) (gi_rgS g7) (gi_rgS g8) dX12_counted_29 (by decide) (fun z => absurd z c9) (fun _ => ?_)
    refine gx_iload dX12_counted_32 5 rfl ?_
    refine gx_aload_n dX12_counted_34 rfl 0 rfl ?_
    refine gx_iload dX12_counted_35 6 rfl ?_
    refine gx_bE e (fun _ hu24 e => ?_)
    refine gx_bE e (fun q25 hq25 e => ?_)
    refine gx_callV (n := 1) (st := [.int (gI v5)]) (As := [.int (gI v6)]) (b := v0) dX12_counted_37 (z_X12_lead hq25) rfl ⟨rfl, gw_cw_X12_lead, gw_14, gp_X12_lead, ⟨Nat.le_of_ble_eq_true rfl, Nat.le_of_ble_eq_true rfl⟩⟩ (gi_isS hu24) (by decide) gw_1595 gw_1597 gs_74 rfl ⟨Nat.le_of_ble_eq_true rfl, Nat.le_of_ble_eq_true rfl⟩ (Nat.le_of_ble_eq_true rfl) (gy_k1 (x := .int (gI q25)) (kc2 := 0) (ks2 := 0) ⟨rfl, rfl⟩ ?_) gy_kn
    refine gx_iload dX12_counted_40 4 rfl ?_
    refine gx_bE e (fun _ g26 e => ?_)
    refine gx_bE e (fun _ g27 e => ?_)
    refine gx_iE e (fun c28 e => ?_) (fun c28 e => ?_)
    · refine gy_icmp_ne (tgt := 56) (gi_rgS g26) (gi_rgS g27) dX12_counted_42 (by decide) (fun z => absurd c28 z) (fun _ => ?_)
      refine gx_aload_n dX12_counted_45 rfl 0 rfl ?_
      refine gx_iload dX12_counted_46 6 rfl ?_
      refine gx_iload_n dX12_counted_48 rfl 1 rfl ?_
      refine gx_iload_n dX12_counted_49 rfl 2 rfl ?_
      refine gx_bE e (fun _ hu29 e => ?_)
      refine gx_bE e (fun q30 hq30 e => ?_)
      refine gx_callV (n := 3) (st := [.int (gI v5)]) (As := [.int (gI v6), .int (gI v1), .int (gI v2)]) (b := v0) dX12_counted_50 (z_X12_waysOf hq30) rfl ⟨rfl, gw_cw_X12_waysOf, gw_14, gp_X12_waysOf, ⟨Nat.le_of_ble_eq_true rfl, Nat.le_of_ble_eq_true rfl⟩⟩ (gi_isS hu29) (by decide) gw_1787 gw_1789 gs_105 rfl ⟨Nat.le_of_ble_eq_true rfl, Nat.le_of_ble_eq_true rfl⟩ (Nat.le_of_ble_eq_true rfl) (gy_k1 (x := .int (gI q30.1)) (kc2 := 0) (ks2 := 0) ⟨rfl, rfl⟩ ?_) gy_kn
      refine gx_goto (tgt := 57) dX12_counted_53 (by decide) ?_
      refine gx_sub (ls2 := [(0, .ref v0), (1, .int (gI v1)), (2, .int (gI v2)), (3, .int (gI v3)), (4, .int (gI v4)), (6, .int (gI v6))]) [0, 1, 2, 3, 4, 6] rfl ?_
      exact zb_X12_counted_57 hr5 hr18 e
    · refine gy_icmp_ne (tgt := 56) (gi_rgS g26) (gi_rgS g27) dX12_counted_42 (by decide) (fun _ => ?_) (fun z => absurd z c28)
      refine gy_iconst dX12_counted_56 ?_
      refine gx_sub (ls2 := [(0, .ref v0), (1, .int (gI v1)), (2, .int (gI v2)), (3, .int (gI v3)), (4, .int (gI v4)), (6, .int (gI v6))]) [0, 1, 2, 3, 4, 6] rfl ?_
      exact zb_X12_counted_57 hr5 hr18 e
def l_X12_counted_18 (n : Nat) (r5 : Nat → Int → Int → Int → Int → gi_H → Option (Int × gi_H)) : Nat → Nat → Int → Int → Int → Int → Int → Int → gi_H → Option (Int × gi_H)
  | 0, _, _, _, _, _, _, _, _ => none
  | k + 1, v0, v1, v2, v3, v4, v5, v6, h => b_X12_counted_18 n r5 (l_X12_counted_18 n r5 k) v0 v1 v2 v3 v4 v5 v6 h
theorem zl_X12_counted_18 {al : Bool} {n : Nat} {r5 : Nat → Int → Int → Int → Int → gi_H → Option (Int × gi_H)} {res : Int} {h1 : gi_H} (hr5 : ∀ (x0 : Nat) (x1 : Int) (x2 : Int) (x3 : Int) (x4 : Int) (hh : gi_H), r5 x0 x1 x2 x3 x4 hh = some (res, h1) → gx_Z mX12_counted al al 0 0 5 [(0, .ref x0), (1, .int (gI x1)), (2, .int (gI x2)), (3, .int (gI x3)), (4, .int (gI x4))] [] (gi_cv hh) (.inl (some (.int (gI res)))) (gi_cv h1)) : ∀ (k : Nat) (v0 : Nat) (v1 : Int) (v2 : Int) (v3 : Int) (v4 : Int) (v5 : Int) (v6 : Int) (h : gi_H), l_X12_counted_18 n r5 k v0 v1 v2 v3 v4 v5 v6 h = some (res, h1) → gx_Z mX12_counted al al 0 0 18 [(0, .ref v0), (1, .int (gI v1)), (2, .int (gI v2)), (3, .int (gI v3)), (4, .int (gI v4)), (5, .int (gI v5)), (6, .int (gI v6))] [] (gi_cv h) (.inl (some (.int (gI res)))) (gi_cv h1)
  | 0, _, _, _, _, _, _, _, _, e => gx_0E e
  | k + 1, _, _, _, _, _, _, _, _, e => zb_X12_counted_18 (n := n) hr5 (zl_X12_counted_18 hr5 k) e
set_option maxRecDepth 100000 in
def b_X12_counted_5 (n : Nat) (r5 : Nat → Int → Int → Int → Int → gi_H → Option (Int × gi_H)) (v0 : Nat) (v1 : Int) (v2 : Int) (v3 : Int) (v4 : Int)  (h : gi_H) : Option (Int × gi_H) :=
  Option.bind (gi_rg v4) fun _ => if (16 : Int) ≤ v4 then (Option.bind (gi_zo v3) fun _ => some (v3, h)) else (l_X12_counted_18 n r5 n v0 v1 v2 v3 v4 (0 : Int) (0 : Int) h)
set_option maxRecDepth 100000 in
theorem zb_X12_counted_5 {al : Bool} {n : Nat} {r5 : Nat → Int → Int → Int → Int → gi_H → Option (Int × gi_H)} {res : Int} {h1 : gi_H} (hr5 : ∀ (x0 : Nat) (x1 : Int) (x2 : Int) (x3 : Int) (x4 : Int) (hh : gi_H), r5 x0 x1 x2 x3 x4 hh = some (res, h1) → gx_Z mX12_counted al al 0 0 5 [(0, .ref x0), (1, .int (gI x1)), (2, .int (gI x2)), (3, .int (gI x3)), (4, .int (gI x4))] [] (gi_cv hh) (.inl (some (.int (gI res)))) (gi_cv h1)) {v0 : Nat} {v1 : Int} {v2 : Int} {v3 : Int} {v4 : Int}  {h : gi_H} (e : b_X12_counted_5 n r5 v0 v1 v2 v3 v4 h = some (res, h1)) : gx_Z mX12_counted al al 0 0 5 [(0, .ref v0), (1, .int (gI v1)), (2, .int (gI v2)), (3, .int (gI v3)), (4, .int (gI v4))] [] (gi_cv h) (.inl (some (.int (gI res)))) (gi_cv h1) := by
  refine gx_iload dX12_counted_5 4 rfl ?_
  refine gy_bipush dX12_counted_7 gcb_16 ?_
  refine gx_bE e (fun _ g1 e => ?_)
  refine gx_iE e (fun c2 e => ?_) (fun c2 e => ?_)
  · refine gy_icmp_ge (tgt := 129) (gi_rgS g1) (by decide) dX12_counted_9 (by decide) (fun _ => ?_) (fun z => absurd c2 z)
    refine gx_iload_n dX12_counted_129 rfl 3 rfl ?_
    refine gx_bE e (fun _ hu3 e => ?_)
    cases e
    exact gx_zret (gi_zoS hu3) dX12_counted_130 rfl ⟨Nat.le_of_ble_eq_true rfl, Nat.le_of_ble_eq_true rfl⟩ (fun z => z)
  · refine gy_icmp_ge (tgt := 129) (gi_rgS g1) (by decide) dX12_counted_9 (by decide) (fun z => absurd z c2) (fun _ => ?_)
    refine gy_iconst dX12_counted_12 ?_
    refine gx_istore (ls2 := [(5, .int (gI (0 : Int))), (0, .ref v0), (1, .int (gI v1)), (2, .int (gI v2)), (3, .int (gI v3)), (4, .int (gI v4))]) dX12_counted_13 (Nat.le_of_ble_eq_true rfl) rfl ?_
    refine gy_iconst dX12_counted_15 ?_
    refine gx_istore (ls2 := [(6, .int (gI (0 : Int))), (5, .int (gI (0 : Int))), (0, .ref v0), (1, .int (gI v1)), (2, .int (gI v2)), (3, .int (gI v3)), (4, .int (gI v4))]) dX12_counted_16 (Nat.le_of_ble_eq_true rfl) rfl ?_
    refine gx_sub (ls2 := [(0, .ref v0), (1, .int (gI v1)), (2, .int (gI v2)), (3, .int (gI v3)), (4, .int (gI v4)), (5, .int (gI (0 : Int))), (6, .int (gI (0 : Int)))]) [2, 3, 4, 5, 6, 1, 0] rfl ?_
    exact zl_X12_counted_18 hr5 n _ _ _ _ _ _ _ _ e
def l_X12_counted_5 (n : Nat)  : Nat → Nat → Int → Int → Int → Int → gi_H → Option (Int × gi_H)
  | 0, _, _, _, _, _, _ => none
  | k + 1, v0, v1, v2, v3, v4, h => b_X12_counted_5 n  (l_X12_counted_5 n  k) v0 v1 v2 v3 v4 h
theorem zl_X12_counted_5 {al : Bool} {n : Nat}  {res : Int} {h1 : gi_H}  : ∀ (k : Nat) (v0 : Nat) (v1 : Int) (v2 : Int) (v3 : Int) (v4 : Int) (h : gi_H), l_X12_counted_5 n  k v0 v1 v2 v3 v4 h = some (res, h1) → gx_Z mX12_counted al al 0 0 5 [(0, .ref v0), (1, .int (gI v1)), (2, .int (gI v2)), (3, .int (gI v3)), (4, .int (gI v4))] [] (gi_cv h) (.inl (some (.int (gI res)))) (gi_cv h1)
  | 0, _, _, _, _, _, _, e => gx_0E e
  | k + 1, _, _, _, _, _, _, e => zb_X12_counted_5 (n := n)  (zl_X12_counted_5  k) e
set_option maxRecDepth 100000 in
def f_X12_counted (n : Nat) (v0 : Nat) (v1 : Int) (v2 : Int) (h : gi_H) : Option (Int × gi_H) :=
  l_X12_counted_5 n  n v0 v1 v2 (0 : Int) (0 : Int) h
set_option maxRecDepth 100000 in
theorem z_X12_counted {al : Bool} {n : Nat} {v0 : Nat} {v1 : Int} {v2 : Int} {h : gi_H} {res : Int} {h1 : gi_H} (e : f_X12_counted n v0 v1 v2 h = some (res, h1)) : gx_Cw mX12_counted al [.ref v0, .int (gI v1), .int (gI v2)] (gi_cv h) (.inl (some (.int (gI res)))) (gi_cv h1) := by
  refine gx_enter (by decide +kernel) rfl (Nat.le_of_ble_eq_true rfl) ?_
  show gx_Z mX12_counted al al 0 0 0 [(0, .ref v0), (1, .int (gI v1)), (2, .int (gI v2))] [] (gi_cv h) (.inl (some (.int (gI res)))) (gi_cv h1)
  refine gy_iconst dX12_counted_0 ?_
  refine gx_istore_n (ls2 := [(3, .int (gI (0 : Int))), (0, .ref v0), (1, .int (gI v1)), (2, .int (gI v2))]) dX12_counted_1 rfl (Nat.le_of_ble_eq_true rfl) rfl ?_
  refine gy_iconst dX12_counted_2 ?_
  refine gx_istore (ls2 := [(4, .int (gI (0 : Int))), (3, .int (gI (0 : Int))), (0, .ref v0), (1, .int (gI v1)), (2, .int (gI v2))]) dX12_counted_3 (Nat.le_of_ble_eq_true rfl) rfl ?_
  refine gx_sub (ls2 := [(0, .ref v0), (1, .int (gI v1)), (2, .int (gI v2)), (3, .int (gI (0 : Int))), (4, .int (gI (0 : Int)))]) [2, 3, 4, 1, 0] rfl ?_
  exact zl_X12_counted_5  n _ _ _ _ _ _ e
/-! X12_readings  -/
set_option maxRecDepth 100000 in
def b_X12_readings_79 (n : Nat)  (v0 : Nat)  (h : gi_H) : Option (Int × gi_H) :=
  Option.bind (gi_gR h v0 10 41) fun t8 => Option.bind (gi_gR h v0 10 8) fun t9 => Option.bind (gi_gI h v0 10 9) fun t10 => Option.bind (gi_aI h 1 t9 t10) fun t11 => Option.bind (gi_gI h v0 10 17) fun t12 => Option.bind (f_X12_at t11 (0 : Int) t12 h) fun q13 => Option.bind (gi_aI h 1 t8 q13) fun t14 => some (t14, h)
set_option maxRecDepth 100000 in
theorem zb_X12_readings_79 {al : Bool} {n : Nat}  {res : Int} {h1 : gi_H}  {v0 : Nat}  {h : gi_H} (e : b_X12_readings_79 n v0 h = some (res, h1)) : gx_Z mX12_readings al al 0 0 79 [(0, .ref v0)] [] (gi_cv h) (.inl (some (.int (gI res)))) (gi_cv h1) := by
  refine gx_aload_n dX12_readings_79 rfl 0 rfl ?_
  refine gx_bE e (fun t8 ht8 e => ?_)
  refine gy_fR ht8 dX12_readings_80 gf_RX12_95_10_41 (by decide) gkN_10_41 gkR_10_41 ?_
  refine gx_aload_n dX12_readings_83 rfl 0 rfl ?_
  refine gx_bE e (fun t9 ht9 e => ?_)
  refine gy_fR ht9 dX12_readings_84 gf_RX12_34_10_8 (by decide) gkN_10_8 gkR_10_8 ?_
  refine gx_aload_n dX12_readings_87 rfl 0 rfl ?_
  refine gx_bE e (fun t10 ht10 e => ?_)
  refine gy_fI ht10 dX12_readings_88 gf_RX12_139_10_9 (by decide) gkN_10_9 gkR_10_9 ?_
  refine gx_bE e (fun t11 ht11 e => ?_)
  refine gy_l1 ht11 dX12_readings_91 ?_
  refine gy_iconst dX12_readings_92 ?_
  refine gx_aload_n dX12_readings_93 rfl 0 rfl ?_
  refine gx_bE e (fun t12 ht12 e => ?_)
  refine gy_fI ht12 dX12_readings_94 gf_RX12_299_10_17 (by decide) gkN_10_17 gkR_10_17 ?_
  refine gx_bE e (fun q13 hq13 e => ?_)
  refine gx_callS (n := 3) (st := [.ref t8]) (As := [.int (gI t11), .int (gI (0 : Int)), .int (gI t12)]) dX12_readings_97 (z_X12_at hq13) rfl ⟨rfl, gw_cw_X12_at, gw_14, gp_X12_at, ⟨Nat.le_of_ble_eq_true rfl, Nat.le_of_ble_eq_true rfl⟩⟩ gw_1795 gw_1796 ⟨Nat.le_of_ble_eq_true rfl, Nat.le_of_ble_eq_true rfl⟩ (Nat.le_of_ble_eq_true rfl) (gy_k1 (x := .int (gI q13)) (kc2 := 0) (ks2 := 0) ⟨rfl, rfl⟩ ?_) gy_kn
  refine gx_bE e (fun t14 ht14 e => ?_)
  refine gy_l1 ht14 dX12_readings_100 ?_
  cases e
  exact gx_iret dX12_readings_101 rfl ⟨Nat.le_of_ble_eq_true rfl, Nat.le_of_ble_eq_true rfl⟩ (fun z => z)
set_option maxRecDepth 100000 in
def b_X12_readings_73 (n : Nat) (r29 : Nat → Int → gi_H → Option (Int × gi_H)) (v0 : Nat) (v1 : Int)  (h : gi_H) : Option (Int × gi_H) :=
  gx_nm (v1 + (1 : Int)) fun t19 => r29 v0 t19 h
set_option maxRecDepth 100000 in
theorem zb_X12_readings_73 {al : Bool} {n : Nat} {r29 : Nat → Int → gi_H → Option (Int × gi_H)} {res : Int} {h1 : gi_H} (hr29 : ∀ (x0 : Nat) (x1 : Int) (hh : gi_H), r29 x0 x1 hh = some (res, h1) → gx_Z mX12_readings al al 0 0 29 [(0, .ref x0), (1, .int (gI x1))] [] (gi_cv hh) (.inl (some (.int (gI res)))) (gi_cv h1)) {v0 : Nat} {v1 : Int}  {h : gi_H} (e : b_X12_readings_73 n r29 v0 v1 h = some (res, h1)) : gx_Z mX12_readings al al 0 0 73 [(0, .ref v0), (1, .int (gI v1))] [] (gi_cv h) (.inl (some (.int (gI res)))) (gi_cv h1) := by
  refine gx_nE e (fun t19 ht19 e => ?_)
  refine gy_iinc (v := t19) (ls2 := [(1, .int (gI t19)), (0, .ref v0)]) dX12_readings_73 1 rfl ht19 (Nat.le_of_ble_eq_true rfl) rfl ?_
  refine gx_goto (tgt := 29) dX12_readings_76 (by decide) ?_
  refine gx_sub (ls2 := [(0, .ref v0), (1, .int (gI t19))]) [1, 0] rfl ?_
  exact hr29 _ _ _ e
set_option maxRecDepth 100000 in
def b_X12_readings_67 (n : Nat) (r29 : Nat → Int → gi_H → Option (Int × gi_H)) (r39 : Nat → Int → Int → gi_H → Option (Int × gi_H)) (v0 : Nat) (v1 : Int) (v2 : Int)  (h : gi_H) : Option (Int × gi_H) :=
  gx_nm (v2 + (1 : Int)) fun t22 => r39 v0 v1 t22 h
set_option maxRecDepth 100000 in
theorem zb_X12_readings_67 {al : Bool} {n : Nat} {r29 : Nat → Int → gi_H → Option (Int × gi_H)} {r39 : Nat → Int → Int → gi_H → Option (Int × gi_H)} {res : Int} {h1 : gi_H} (hr29 : ∀ (x0 : Nat) (x1 : Int) (hh : gi_H), r29 x0 x1 hh = some (res, h1) → gx_Z mX12_readings al al 0 0 29 [(0, .ref x0), (1, .int (gI x1))] [] (gi_cv hh) (.inl (some (.int (gI res)))) (gi_cv h1)) (hr39 : ∀ (x0 : Nat) (x1 : Int) (x2 : Int) (hh : gi_H), r39 x0 x1 x2 hh = some (res, h1) → gx_Z mX12_readings al al 0 0 39 [(0, .ref x0), (1, .int (gI x1)), (2, .int (gI x2))] [] (gi_cv hh) (.inl (some (.int (gI res)))) (gi_cv h1)) {v0 : Nat} {v1 : Int} {v2 : Int}  {h : gi_H} (e : b_X12_readings_67 n r29 r39 v0 v1 v2 h = some (res, h1)) : gx_Z mX12_readings al al 0 0 67 [(0, .ref v0), (1, .int (gI v1)), (2, .int (gI v2))] [] (gi_cv h) (.inl (some (.int (gI res)))) (gi_cv h1) := by
  refine gx_nE e (fun t22 ht22 e => ?_)
  refine gy_iinc (v := t22) (ls2 := [(2, .int (gI t22)), (0, .ref v0), (1, .int (gI v1))]) dX12_readings_67 2 rfl ht22 (Nat.le_of_ble_eq_true rfl) rfl ?_
  refine gx_goto (tgt := 39) dX12_readings_70 (by decide) ?_
  refine gx_sub (ls2 := [(0, .ref v0), (1, .int (gI v1)), (2, .int (gI t22))]) [1, 2, 0] rfl ?_
  exact hr39 _ _ _ _ e
set_option maxRecDepth 100000 in
def b_X12_readings_51 (n : Nat) (r29 : Nat → Int → gi_H → Option (Int × gi_H)) (r39 : Nat → Int → Int → gi_H → Option (Int × gi_H)) (r51 : Nat → Int → Int → Int → gi_H → Option (Int × gi_H)) (v0 : Nat) (v1 : Int) (v2 : Int) (v3 : Int)  (h : gi_H) : Option (Int × gi_H) :=
  Option.bind (gi_rg v3) fun _ => if v3 = 0 then (b_X12_readings_67 n r29 r39 v0 v1 v2 h) else (Option.bind (gi_is h v0 10) fun _ => Option.bind (f_X12_counted n v0 v2 (v2 + v1) h) fun q24 => r51 v0 v1 v2 q24.1 q24.2)
set_option maxRecDepth 100000 in
theorem zb_X12_readings_51 {al : Bool} {n : Nat} {r29 : Nat → Int → gi_H → Option (Int × gi_H)} {r39 : Nat → Int → Int → gi_H → Option (Int × gi_H)} {r51 : Nat → Int → Int → Int → gi_H → Option (Int × gi_H)} {res : Int} {h1 : gi_H} (hr29 : ∀ (x0 : Nat) (x1 : Int) (hh : gi_H), r29 x0 x1 hh = some (res, h1) → gx_Z mX12_readings al al 0 0 29 [(0, .ref x0), (1, .int (gI x1))] [] (gi_cv hh) (.inl (some (.int (gI res)))) (gi_cv h1)) (hr39 : ∀ (x0 : Nat) (x1 : Int) (x2 : Int) (hh : gi_H), r39 x0 x1 x2 hh = some (res, h1) → gx_Z mX12_readings al al 0 0 39 [(0, .ref x0), (1, .int (gI x1)), (2, .int (gI x2))] [] (gi_cv hh) (.inl (some (.int (gI res)))) (gi_cv h1)) (hr51 : ∀ (x0 : Nat) (x1 : Int) (x2 : Int) (x3 : Int) (hh : gi_H), r51 x0 x1 x2 x3 hh = some (res, h1) → gx_Z mX12_readings al al 0 0 51 [(0, .ref x0), (1, .int (gI x1)), (2, .int (gI x2)), (3, .int (gI x3))] [] (gi_cv hh) (.inl (some (.int (gI res)))) (gi_cv h1)) {v0 : Nat} {v1 : Int} {v2 : Int} {v3 : Int}  {h : gi_H} (e : b_X12_readings_51 n r29 r39 r51 v0 v1 v2 v3 h = some (res, h1)) : gx_Z mX12_readings al al 0 0 51 [(0, .ref v0), (1, .int (gI v1)), (2, .int (gI v2)), (3, .int (gI v3))] [] (gi_cv h) (.inl (some (.int (gI res)))) (gi_cv h1) := by
  refine gx_iload_n dX12_readings_51 rfl 3 rfl ?_
  refine gx_bE e (fun _ g20 e => ?_)
  refine gx_iE e (fun c21 e => ?_) (fun c21 e => ?_)
  · refine gy_if_eq (tgt := 67) (gi_rgS g20) dX12_readings_52 (by decide) (fun _ => ?_) (fun z => absurd c21 z)
    refine gx_sub (ls2 := [(0, .ref v0), (1, .int (gI v1)), (2, .int (gI v2))]) [0, 1, 2] rfl ?_
    exact zb_X12_readings_67 hr29 hr39 e
  · refine gy_if_eq (tgt := 67) (gi_rgS g20) dX12_readings_52 (by decide) (fun z => absurd z c21) (fun _ => ?_)
    refine gx_aload_n dX12_readings_55 rfl 0 rfl ?_
    refine gx_iload_n dX12_readings_56 rfl 2 rfl ?_
    refine gx_iload_n dX12_readings_57 rfl 2 rfl ?_
    refine gx_iload_n dX12_readings_58 rfl 1 rfl ?_
    refine gy_iadd dX12_readings_59 ?_
    refine gx_bE e (fun _ hu23 e => ?_)
    refine gx_bE e (fun q24 hq24 e => ?_)
    refine gx_callV (n := 2) (st := []) (As := [.int (gI v2), .int (gI (v2 + v1))]) (b := v0) dX12_readings_60 (z_X12_counted hq24) rfl ⟨rfl, gw_cw_X12_counted, gw_14, gp_X12_counted, ⟨Nat.le_of_ble_eq_true rfl, Nat.le_of_ble_eq_true rfl⟩⟩ (gi_isS hu23) (by decide) gw_1783 gw_1785 gs_104 rfl ⟨Nat.le_of_ble_eq_true rfl, Nat.le_of_ble_eq_true rfl⟩ (Nat.le_of_ble_eq_true rfl) (gy_k1 (x := .int (gI q24.1)) (kc2 := 0) (ks2 := 0) ⟨rfl, rfl⟩ ?_) gy_kn
    refine gx_istore_n (ls2 := [(3, .int (gI q24.1)), (0, .ref v0), (1, .int (gI v1)), (2, .int (gI v2))]) dX12_readings_63 rfl (Nat.le_of_ble_eq_true rfl) rfl ?_
    refine gx_goto (tgt := 51) dX12_readings_64 (by decide) ?_
    refine gx_sub (ls2 := [(0, .ref v0), (1, .int (gI v1)), (2, .int (gI v2)), (3, .int (gI q24.1))]) [1, 2, 3, 0] rfl ?_
    exact hr51 _ _ _ _ _ e
def l_X12_readings_51 (n : Nat) (r29 : Nat → Int → gi_H → Option (Int × gi_H)) (r39 : Nat → Int → Int → gi_H → Option (Int × gi_H)) : Nat → Nat → Int → Int → Int → gi_H → Option (Int × gi_H)
  | 0, _, _, _, _, _ => none
  | k + 1, v0, v1, v2, v3, h => b_X12_readings_51 n r29 r39 (l_X12_readings_51 n r29 r39 k) v0 v1 v2 v3 h
theorem zl_X12_readings_51 {al : Bool} {n : Nat} {r29 : Nat → Int → gi_H → Option (Int × gi_H)} {r39 : Nat → Int → Int → gi_H → Option (Int × gi_H)} {res : Int} {h1 : gi_H} (hr29 : ∀ (x0 : Nat) (x1 : Int) (hh : gi_H), r29 x0 x1 hh = some (res, h1) → gx_Z mX12_readings al al 0 0 29 [(0, .ref x0), (1, .int (gI x1))] [] (gi_cv hh) (.inl (some (.int (gI res)))) (gi_cv h1)) (hr39 : ∀ (x0 : Nat) (x1 : Int) (x2 : Int) (hh : gi_H), r39 x0 x1 x2 hh = some (res, h1) → gx_Z mX12_readings al al 0 0 39 [(0, .ref x0), (1, .int (gI x1)), (2, .int (gI x2))] [] (gi_cv hh) (.inl (some (.int (gI res)))) (gi_cv h1)) : ∀ (k : Nat) (v0 : Nat) (v1 : Int) (v2 : Int) (v3 : Int) (h : gi_H), l_X12_readings_51 n r29 r39 k v0 v1 v2 v3 h = some (res, h1) → gx_Z mX12_readings al al 0 0 51 [(0, .ref v0), (1, .int (gI v1)), (2, .int (gI v2)), (3, .int (gI v3))] [] (gi_cv h) (.inl (some (.int (gI res)))) (gi_cv h1)
  | 0, _, _, _, _, _, e => gx_0E e
  | k + 1, _, _, _, _, _, e => zb_X12_readings_51 (n := n) hr29 hr39 (zl_X12_readings_51 hr29 hr39 k) e
set_option maxRecDepth 100000 in
def b_X12_readings_39 (n : Nat) (r29 : Nat → Int → gi_H → Option (Int × gi_H)) (r39 : Nat → Int → Int → gi_H → Option (Int × gi_H)) (v0 : Nat) (v1 : Int) (v2 : Int)  (h : gi_H) : Option (Int × gi_H) :=
  Option.bind (gi_gI h v0 10 17) fun t15 => Option.bind (gi_rg (v2 + v1)) fun _ => Option.bind (gi_rg t15) fun _ => if t15 < (v2 + v1) then (b_X12_readings_73 n r29 v0 v1 h) else (l_X12_readings_51 n r29 r39 n v0 v1 v2 (1 : Int) h)
set_option maxRecDepth 100000 in
theorem zb_X12_readings_39 {al : Bool} {n : Nat} {r29 : Nat → Int → gi_H → Option (Int × gi_H)} {r39 : Nat → Int → Int → gi_H → Option (Int × gi_H)} {res : Int} {h1 : gi_H} (hr29 : ∀ (x0 : Nat) (x1 : Int) (hh : gi_H), r29 x0 x1 hh = some (res, h1) → gx_Z mX12_readings al al 0 0 29 [(0, .ref x0), (1, .int (gI x1))] [] (gi_cv hh) (.inl (some (.int (gI res)))) (gi_cv h1)) (hr39 : ∀ (x0 : Nat) (x1 : Int) (x2 : Int) (hh : gi_H), r39 x0 x1 x2 hh = some (res, h1) → gx_Z mX12_readings al al 0 0 39 [(0, .ref x0), (1, .int (gI x1)), (2, .int (gI x2))] [] (gi_cv hh) (.inl (some (.int (gI res)))) (gi_cv h1)) {v0 : Nat} {v1 : Int} {v2 : Int}  {h : gi_H} (e : b_X12_readings_39 n r29 r39 v0 v1 v2 h = some (res, h1)) : gx_Z mX12_readings al al 0 0 39 [(0, .ref v0), (1, .int (gI v1)), (2, .int (gI v2))] [] (gi_cv h) (.inl (some (.int (gI res)))) (gi_cv h1) := by
  refine gx_iload_n dX12_readings_39 rfl 2 rfl ?_
  refine gx_iload_n dX12_readings_40 rfl 1 rfl ?_
  refine gy_iadd dX12_readings_41 ?_
  refine gx_aload_n dX12_readings_42 rfl 0 rfl ?_
  refine gx_bE e (fun t15 ht15 e => ?_)
  refine gy_fI ht15 dX12_readings_43 gf_RX12_299_10_17 (by decide) gkN_10_17 gkR_10_17 ?_
  refine gx_bE e (fun _ g16 e => ?_)
  refine gx_bE e (fun _ g17 e => ?_)
  refine gx_iE e (fun c18 e => ?_) (fun c18 e => ?_)
  · refine gy_icmp_gt (tgt := 73) (gi_rgS g16) (gi_rgS g17) dX12_readings_46 (by decide) (fun _ => ?_) (fun z => absurd c18 z)
    refine gx_sub (ls2 := [(0, .ref v0), (1, .int (gI v1))]) [0, 1] rfl ?_
    exact zb_X12_readings_73 hr29 e
  · refine gy_icmp_gt (tgt := 73) (gi_rgS g16) (gi_rgS g17) dX12_readings_46 (by decide) (fun z => absurd z c18) (fun _ => ?_)
    refine gy_iconst dX12_readings_49 ?_
    refine gx_istore_n (ls2 := [(3, .int (gI (1 : Int))), (0, .ref v0), (1, .int (gI v1)), (2, .int (gI v2))]) dX12_readings_50 rfl (Nat.le_of_ble_eq_true rfl) rfl ?_
    refine gx_sub (ls2 := [(0, .ref v0), (1, .int (gI v1)), (2, .int (gI v2)), (3, .int (gI (1 : Int)))]) [1, 2, 3, 0] rfl ?_
    exact zl_X12_readings_51 hr29 hr39 n _ _ _ _ _ e
def l_X12_readings_39 (n : Nat) (r29 : Nat → Int → gi_H → Option (Int × gi_H)) : Nat → Nat → Int → Int → gi_H → Option (Int × gi_H)
  | 0, _, _, _, _ => none
  | k + 1, v0, v1, v2, h => b_X12_readings_39 n r29 (l_X12_readings_39 n r29 k) v0 v1 v2 h
theorem zl_X12_readings_39 {al : Bool} {n : Nat} {r29 : Nat → Int → gi_H → Option (Int × gi_H)} {res : Int} {h1 : gi_H} (hr29 : ∀ (x0 : Nat) (x1 : Int) (hh : gi_H), r29 x0 x1 hh = some (res, h1) → gx_Z mX12_readings al al 0 0 29 [(0, .ref x0), (1, .int (gI x1))] [] (gi_cv hh) (.inl (some (.int (gI res)))) (gi_cv h1)) : ∀ (k : Nat) (v0 : Nat) (v1 : Int) (v2 : Int) (h : gi_H), l_X12_readings_39 n r29 k v0 v1 v2 h = some (res, h1) → gx_Z mX12_readings al al 0 0 39 [(0, .ref v0), (1, .int (gI v1)), (2, .int (gI v2))] [] (gi_cv h) (.inl (some (.int (gI res)))) (gi_cv h1)
  | 0, _, _, _, _, e => gx_0E e
  | k + 1, _, _, _, _, e => zb_X12_readings_39 (n := n) hr29 (zl_X12_readings_39 hr29 k) e
set_option maxRecDepth 100000 in
def b_X12_readings_29 (n : Nat) (r29 : Nat → Int → gi_H → Option (Int × gi_H)) (v0 : Nat) (v1 : Int)  (h : gi_H) : Option (Int × gi_H) :=
  Option.bind (gi_gI h v0 10 17) fun t4 => Option.bind (gi_rg v1) fun _ => Option.bind (gi_rg t4) fun _ => if t4 < v1 then (b_X12_readings_79 n  v0 h) else (l_X12_readings_39 n r29 n v0 v1 (0 : Int) h)
set_option maxRecDepth 100000 in
theorem zb_X12_readings_29 {al : Bool} {n : Nat} {r29 : Nat → Int → gi_H → Option (Int × gi_H)} {res : Int} {h1 : gi_H} (hr29 : ∀ (x0 : Nat) (x1 : Int) (hh : gi_H), r29 x0 x1 hh = some (res, h1) → gx_Z mX12_readings al al 0 0 29 [(0, .ref x0), (1, .int (gI x1))] [] (gi_cv hh) (.inl (some (.int (gI res)))) (gi_cv h1)) {v0 : Nat} {v1 : Int}  {h : gi_H} (e : b_X12_readings_29 n r29 v0 v1 h = some (res, h1)) : gx_Z mX12_readings al al 0 0 29 [(0, .ref v0), (1, .int (gI v1))] [] (gi_cv h) (.inl (some (.int (gI res)))) (gi_cv h1) := by
  refine gx_iload_n dX12_readings_29 rfl 1 rfl ?_
  refine gx_aload_n dX12_readings_30 rfl 0 rfl ?_
  refine gx_bE e (fun t4 ht4 e => ?_)
  refine gy_fI ht4 dX12_readings_31 gf_RX12_299_10_17 (by decide) gkN_10_17 gkR_10_17 ?_
  refine gx_bE e (fun _ g5 e => ?_)
  refine gx_bE e (fun _ g6 e => ?_)
  refine gx_iE e (fun c7 e => ?_) (fun c7 e => ?_)
  · refine gy_icmp_gt (tgt := 79) (gi_rgS g5) (gi_rgS g6) dX12_readings_34 (by decide) (fun _ => ?_) (fun z => absurd c7 z)
    refine gx_sub (ls2 := [(0, .ref v0)]) [0] rfl ?_
    exact zb_X12_readings_79  e
  · refine gy_icmp_gt (tgt := 79) (gi_rgS g5) (gi_rgS g6) dX12_readings_34 (by decide) (fun z => absurd z c7) (fun _ => ?_)
    refine gy_iconst dX12_readings_37 ?_
    refine gx_istore_n (ls2 := [(2, .int (gI (0 : Int))), (0, .ref v0), (1, .int (gI v1))]) dX12_readings_38 rfl (Nat.le_of_ble_eq_true rfl) rfl ?_
    refine gx_sub (ls2 := [(0, .ref v0), (1, .int (gI v1)), (2, .int (gI (0 : Int)))]) [1, 2, 0] rfl ?_
    exact zl_X12_readings_39 hr29 n _ _ _ _ e
def l_X12_readings_29 (n : Nat)  : Nat → Nat → Int → gi_H → Option (Int × gi_H)
  | 0, _, _, _ => none
  | k + 1, v0, v1, h => b_X12_readings_29 n  (l_X12_readings_29 n  k) v0 v1 h
theorem zl_X12_readings_29 {al : Bool} {n : Nat}  {res : Int} {h1 : gi_H}  : ∀ (k : Nat) (v0 : Nat) (v1 : Int) (h : gi_H), l_X12_readings_29 n  k v0 v1 h = some (res, h1) → gx_Z mX12_readings al al 0 0 29 [(0, .ref v0), (1, .int (gI v1))] [] (gi_cv h) (.inl (some (.int (gI res)))) (gi_cv h1)
  | 0, _, _, _, e => gx_0E e
  | k + 1, _, _, _, e => zb_X12_readings_29 (n := n)  (zl_X12_readings_29  k) e
set_option maxRecDepth 100000 in
def b_X12_readings_27 (n : Nat)  (v0 : Nat)  (h : gi_H) : Option (Int × gi_H) :=
  l_X12_readings_29 n  n v0 (0 : Int) h
set_option maxRecDepth 100000 in
theorem zb_X12_readings_27 {al : Bool} {n : Nat}  {res : Int} {h1 : gi_H}  {v0 : Nat}  {h : gi_H} (e : b_X12_readings_27 n v0 h = some (res, h1)) : gx_Z mX12_readings al al 0 0 27 [(0, .ref v0)] [] (gi_cv h) (.inl (some (.int (gI res)))) (gi_cv h1) := by
  refine gy_iconst dX12_readings_27 ?_
  refine gx_istore_n (ls2 := [(1, .int (gI (0 : Int))), (0, .ref v0)]) dX12_readings_28 rfl (Nat.le_of_ble_eq_true rfl) rfl ?_
  refine gx_sub (ls2 := [(0, .ref v0), (1, .int (gI (0 : Int)))]) [1, 0] rfl ?_
  exact zl_X12_readings_29  n _ _ _ e
set_option maxRecDepth 100000 in
def b_X12_readings_7 (n : Nat) (r7 : Nat → Int → gi_H → Option (Int × gi_H)) (v0 : Nat) (v1 : Int)  (h : gi_H) : Option (Int × gi_H) :=
  Option.bind (gi_rg v1) fun _ => if (2704 : Int) ≤ v1 then (b_X12_readings_27 n  v0 h) else (Option.bind (gi_gR h v0 10 41) fun t25 => Option.bind (gi_s1 h t25 v1 (0 : Int)) fun h26 => gx_nm (v1 + (1 : Int)) fun t27 => r7 v0 t27 h26)
set_option maxRecDepth 100000 in
theorem zb_X12_readings_7 {al : Bool} {n : Nat} {r7 : Nat → Int → gi_H → Option (Int × gi_H)} {res : Int} {h1 : gi_H} (hr7 : ∀ (x0 : Nat) (x1 : Int) (hh : gi_H), r7 x0 x1 hh = some (res, h1) → gx_Z mX12_readings al al 0 0 7 [(0, .ref x0), (1, .int (gI x1))] [] (gi_cv hh) (.inl (some (.int (gI res)))) (gi_cv h1)) {v0 : Nat} {v1 : Int}  {h : gi_H} (e : b_X12_readings_7 n r7 v0 v1 h = some (res, h1)) : gx_Z mX12_readings al al 0 0 7 [(0, .ref v0), (1, .int (gI v1))] [] (gi_cv h) (.inl (some (.int (gI res)))) (gi_cv h1) := by
  refine gx_iload_n dX12_readings_7 rfl 1 rfl ?_
  refine gy_sipush dX12_readings_8 gcs_2704 ?_
  refine gx_bE e (fun _ g2 e => ?_)
  refine gx_iE e (fun c3 e => ?_) (fun c3 e => ?_)
  · refine gy_icmp_ge (tgt := 27) (gi_rgS g2) (by decide) dX12_readings_11 (by decide) (fun _ => ?_) (fun z => absurd c3 z)
    refine gx_sub (ls2 := [(0, .ref v0)]) [0] rfl ?_
    exact zb_X12_readings_27  e
  · refine gy_icmp_ge (tgt := 27) (gi_rgS g2) (by decide) dX12_readings_11 (by decide) (fun z => absurd z c3) (fun _ => ?_)
    refine gx_aload_n dX12_readings_14 rfl 0 rfl ?_
    refine gx_bE e (fun t25 ht25 e => ?_)
    refine gy_fR ht25 dX12_readings_15 gf_RX12_95_10_41 (by decide) gkN_10_41 gkR_10_41 ?_
    refine gx_iload_n dX12_readings_18 rfl 1 rfl ?_
    refine gy_iconst dX12_readings_19 ?_
    refine gx_bE e (fun h26 hh26 e => ?_)
    refine gy_t1 hh26 dX12_readings_20 ?_
    refine gx_nE e (fun t27 ht27 e => ?_)
    refine gy_iinc (v := t27) (ls2 := [(1, .int (gI t27)), (0, .ref v0)]) dX12_readings_21 1 rfl ht27 (Nat.le_of_ble_eq_true rfl) rfl ?_
    refine gx_goto (tgt := 7) dX12_readings_24 (by decide) ?_
    refine gx_sub (ls2 := [(0, .ref v0), (1, .int (gI t27))]) [1, 0] rfl ?_
    exact hr7 _ _ _ e
def l_X12_readings_7 (n : Nat)  : Nat → Nat → Int → gi_H → Option (Int × gi_H)
  | 0, _, _, _ => none
  | k + 1, v0, v1, h => b_X12_readings_7 n  (l_X12_readings_7 n  k) v0 v1 h
theorem zl_X12_readings_7 {al : Bool} {n : Nat}  {res : Int} {h1 : gi_H}  : ∀ (k : Nat) (v0 : Nat) (v1 : Int) (h : gi_H), l_X12_readings_7 n  k v0 v1 h = some (res, h1) → gx_Z mX12_readings al al 0 0 7 [(0, .ref v0), (1, .int (gI v1))] [] (gi_cv h) (.inl (some (.int (gI res)))) (gi_cv h1)
  | 0, _, _, _, e => gx_0E e
  | k + 1, _, _, _, e => zb_X12_readings_7 (n := n)  (zl_X12_readings_7  k) e
set_option maxRecDepth 100000 in
def f_X12_readings (n : Nat) (v0 : Nat) (h : gi_H) : Option (Int × gi_H) :=
  Option.bind (gi_pI h v0 10 44 (0 : Int)) fun h1 => l_X12_readings_7 n  n v0 (0 : Int) h1
set_option maxRecDepth 100000 in
theorem z_X12_readings {al : Bool} {n : Nat} {v0 : Nat} {h : gi_H} {res : Int} {h1 : gi_H} (e : f_X12_readings n v0 h = some (res, h1)) : gx_Cw mX12_readings al [.ref v0] (gi_cv h) (.inl (some (.int (gI res)))) (gi_cv h1) := by
  refine gx_enter (by decide +kernel) rfl (Nat.le_of_ble_eq_true rfl) ?_
  show gx_Z mX12_readings al al 0 0 0 [(0, .ref v0)] [] (gi_cv h) (.inl (some (.int (gI res)))) (gi_cv h1)
  refine gx_aload_n dX12_readings_0 rfl 0 rfl ?_
  refine gy_iconst dX12_readings_1 ?_
  refine gx_bE e (fun h1 hh1 e => ?_)
  refine gy_qI hh1 dX12_readings_2 gf_RX12_104_10_44 (by decide) gkN_10_44 rfl (Or.inl rfl) ?_
  refine gy_iconst dX12_readings_5 ?_
  refine gx_istore_n (ls2 := [(1, .int (gI (0 : Int))), (0, .ref v0)]) dX12_readings_6 rfl (Nat.le_of_ble_eq_true rfl) rfl ?_
  refine gx_sub (ls2 := [(0, .ref v0), (1, .int (gI (0 : Int)))]) [1, 0] rfl ?_
  exact zl_X12_readings_7  n _ _ _ e
/-! X11_repair  -/
set_option maxRecDepth 100000 in
def f_X11_repair (n : Nat) (v0 : Nat) (h : gi_H) : Option (Int × gi_H) :=
  Option.bind (gi_gR h v0 9 8) fun t1 => Option.bind (gi_is h t1 2) fun _ => Option.bind (f_X3_learn n t1 h) fun q3 => Option.bind (gi_gR q3 v0 9 8) fun t4 => Option.bind (gi_gR q3 v0 9 1) fun t5 => Option.bind (gi_is q3 t5 3) fun _ => Option.bind (f_X4_top t5 q3) fun q7 => Option.bind (gi_is q3 t4 2) fun _ => Option.bind (f_X3_isProductive t4 q7 q3) fun q9 => Option.bind (gi_rg q9) fun _ => if q9 = 0 then (some ((-1 : Int), q3)) else (Option.bind (gi_gR q3 v0 9 16) fun t12 => Option.bind (gi_gI q3 v0 9 7) fun t13 => if gi_S q3 t12 = (0, 1) then (Option.bind (gi_is q3 t12 1) fun _ => Option.bind (f_X1_measure_1 n t12 t13 q3) fun q16 => some (q16.1, q16.2)) else (Option.bind (gi_is q3 t12 5) fun _ => Option.bind (f_X1_measure_5 n t12 t13 q3) fun q18 => some (q18.1, q18.2)))
set_option maxRecDepth 100000 in
theorem z_X11_repair {al : Bool} {n : Nat} {v0 : Nat} {h : gi_H} {res : Int} {h1 : gi_H} (e : f_X11_repair n v0 h = some (res, h1)) : gx_Cw mX11_repair al [.ref v0] (gi_cv h) (.inl (some (.int (gI res)))) (gi_cv h1) := by
  refine gx_enter (by decide +kernel) rfl (Nat.le_of_ble_eq_true rfl) ?_
  show gx_Z mX11_repair al al 0 0 0 [(0, .ref v0)] [] (gi_cv h) (.inl (some (.int (gI res)))) (gi_cv h1)
  refine gx_aload_n dX11_repair_0 rfl 0 rfl ?_
  refine gx_bE e (fun t1 ht1 e => ?_)
  refine gy_fR ht1 dX11_repair_1 gf_RX11_52_9_8 (by decide) gkN_9_8 gkR_9_8 ?_
  refine gx_bE e (fun _ hu2 e => ?_)
  refine gx_bE e (fun q3 hq3 e => ?_)
  refine gx_callV (n := 0) (st := []) (As := []) (b := t1) dX11_repair_4 (z_X3_learn hq3) rfl ⟨rfl, gw_cw_X3_learn, gw_6, gp_X3_learn, ⟨Nat.le_of_ble_eq_true rfl, Nat.le_of_ble_eq_true rfl⟩⟩ (gi_isS hu2) (by decide) gw_404 gw_405 gw_406 rfl ⟨Nat.le_of_ble_eq_true rfl, Nat.le_of_ble_eq_true rfl⟩ (Nat.le_of_ble_eq_true rfl) (gy_k0 (kc2 := 0) (ks2 := 0) ⟨rfl, rfl⟩ ?_) gy_kn
  refine gx_aload_n dX11_repair_7 rfl 0 rfl ?_
  refine gx_bE e (fun t4 ht4 e => ?_)
  refine gy_fR ht4 dX11_repair_8 gf_RX11_52_9_8 (by decide) gkN_9_8 gkR_9_8 ?_
  refine gx_aload_n dX11_repair_11 rfl 0 rfl ?_
  refine gx_bE e (fun t5 ht5 e => ?_)
  refine gy_fR ht5 dX11_repair_12 gf_RX11_35_9_1 (by decide) gkN_9_1 gkR_9_1 ?_
  refine gx_bE e (fun _ hu6 e => ?_)
  refine gx_bE e (fun q7 hq7 e => ?_)
  refine gx_callV (n := 0) (st := [.ref t4]) (As := []) (b := t5) dX11_repair_15 (z_X4_top hq7) rfl ⟨rfl, gw_cw_X4_top, gw_3, gp_X4_top, ⟨Nat.le_of_ble_eq_true rfl, Nat.le_of_ble_eq_true rfl⟩⟩ (gi_isS hu6) (by decide) gw_824 gw_443 gw_444 rfl ⟨Nat.le_of_ble_eq_true rfl, Nat.le_of_ble_eq_true rfl⟩ (Nat.le_of_ble_eq_true rfl) (gy_k1 (x := .int (gI q7)) (kc2 := 0) (ks2 := 0) ⟨rfl, rfl⟩ ?_) gy_kn
  refine gx_bE e (fun _ hu8 e => ?_)
  refine gx_bE e (fun q9 hq9 e => ?_)
  refine gx_callV (n := 1) (st := []) (As := [.int (gI q7)]) (b := t4) dX11_repair_18 (z_X3_isProductive hq9) rfl ⟨rfl, gw_cw_X3_isProductive, gw_6, gp_X3_isProductive, ⟨Nat.le_of_ble_eq_true rfl, Nat.le_of_ble_eq_true rfl⟩⟩ (gi_isS hu8) (by decide) gw_825 gw_826 gw_827 rfl ⟨Nat.le_of_ble_eq_true rfl, Nat.le_of_ble_eq_true rfl⟩ (Nat.le_of_ble_eq_true rfl) (gy_k1 (x := .int (gI q9)) (kc2 := 0) (ks2 := 0) ⟨rfl, rfl⟩ ?_) gy_kn
  refine gx_bE e (fun _ g10 e => ?_)
  refine gx_iE e (fun c11 e => ?_) (fun c11 e => ?_)
  · refine gy_if_ne (tgt := 26) (gi_rgS g10) dX11_repair_21 (by decide) (fun z => absurd c11 z) (fun _ => ?_)
    refine gy_iconst dX11_repair_24 ?_
    cases e
    exact gx_iret dX11_repair_25 rfl ⟨Nat.le_of_ble_eq_true rfl, Nat.le_of_ble_eq_true rfl⟩ (fun z => z)
  · refine gy_if_ne (tgt := 26) (gi_rgS g10) dX11_repair_21 (by decide) (fun _ => ?_) (fun z => absurd z c11)
    refine gx_aload_n dX11_repair_26 rfl 0 rfl ?_
    refine gx_bE e (fun t12 ht12 e => ?_)
    refine gy_fR ht12 dX11_repair_27 gf_RX11_98_9_16 (by decide) gkN_9_16 gkR_9_16 ?_
    refine gx_aload_n dX11_repair_30 rfl 0 rfl ?_
    refine gx_bE e (fun t13 ht13 e => ?_)
    refine gy_fI ht13 dX11_repair_31 gf_RX11_252_9_7 (by decide) gkN_9_7 gkR_9_7 ?_
    refine gx_iE e (fun c14 e => ?_) (fun c14 e => ?_)
    · refine gx_bE e (fun _ hu15 e => ?_)
      refine gx_bE e (fun q16 hq16 e => ?_)
      refine gx_callU (n := 1) (st := []) (As := [.int (gI t13)]) (b := t12) dX11_repair_34 (z_X1_measure_1 hq16) rfl ⟨rfl, gw_cw_X1_measure, gw_11, gp_X1_measure, ⟨Nat.le_of_ble_eq_true rfl, Nat.le_of_ble_eq_true rfl⟩⟩ (gi_isS hu15) (by decide) (x := ⟨"Grammarsmith$Chart", "measure", "(I)I"⟩) (owner := "Grammarsmith$Chart") gw_698 gw_700 gw_701 gw_699 rfl (by decide +kernel) ⟨Nat.le_of_ble_eq_true rfl, Nat.le_of_ble_eq_true rfl⟩ (Nat.le_of_ble_eq_true rfl) (gy_k1 (x := .int (gI q16.1)) (kc2 := 0) (ks2 := 0) ⟨rfl, rfl⟩ ?_) gy_kn
      cases e
      exact gx_iret dX11_repair_37 rfl ⟨Nat.le_of_ble_eq_true rfl, Nat.le_of_ble_eq_true rfl⟩ (fun z => z)
    · refine gx_bE e (fun _ hu17 e => ?_)
      refine gx_bE e (fun q18 hq18 e => ?_)
      refine gx_callU (n := 1) (st := []) (As := [.int (gI t13)]) (b := t12) dX11_repair_34 (z_X1_measure_5 hq18) rfl ⟨rfl, gw_cw_X1_measure, gw_11, gp_X1_measure, ⟨Nat.le_of_ble_eq_true rfl, Nat.le_of_ble_eq_true rfl⟩⟩ (gi_isS hu17) (by decide) (x := ⟨"Grammarsmith$Chart", "measure", "(I)I"⟩) (owner := "Grammarsmith$Chart") gw_698 gw_700 gw_702 gw_699 rfl (by decide +kernel) ⟨Nat.le_of_ble_eq_true rfl, Nat.le_of_ble_eq_true rfl⟩ (Nat.le_of_ble_eq_true rfl) (gy_k1 (x := .int (gI q18.1)) (kc2 := 0) (ks2 := 0) ⟨rfl, rfl⟩ ?_) gy_kn
      cases e
      exact gx_iret dX11_repair_37 rfl ⟨Nat.le_of_ble_eq_true rfl, Nat.le_of_ble_eq_true rfl⟩ (fun z => z)
/-! X12_edits  -/
set_option maxRecDepth 100000 in
def b_X12_edits_84 (n : Nat)   (s0 : Int) (s1 : Int) (h : gi_H) : Option (Int) :=
  some (s0 - s1)
set_option maxRecDepth 100000 in
theorem zb_X12_edits_84 {al : Bool} {n : Nat}  {res : Int}   {s0 : Int} {s1 : Int} {h : gi_H} (e : b_X12_edits_84 n s0 s1 h = some res) : gx_Z mX12_edits al al 0 0 84 [] [.int (gI s1), .int (gI s0)] (gi_cv h) (.inl (some (.int (gI res)))) (gi_cv h) := by
  refine gy_isub dX12_edits_84 ?_
  cases e
  exact gx_iret dX12_edits_85 rfl ⟨Nat.le_of_ble_eq_true rfl, Nat.le_of_ble_eq_true rfl⟩ (fun z => z)
set_option maxRecDepth 100000 in
def b_X12_edits_62 (n : Nat)  (v2 : Int) (v3 : Int) (v4 : Int)  (h : gi_H) : Option (Int) :=
  Option.bind (gi_rg v3) fun _ => Option.bind (gi_rg v2) fun _ => if v3 = v2 then (some (1 : Int)) else (Option.bind (gi_rg v4) fun _ => if v4 = 0 then (b_X12_edits_84 n  (v3 - v2) (0 : Int) h) else (b_X12_edits_84 n  (v3 - v2) (1 : Int) h))
set_option maxRecDepth 100000 in
theorem zb_X12_edits_62 {al : Bool} {n : Nat}  {res : Int}  {v2 : Int} {v3 : Int} {v4 : Int}  {h : gi_H} (e : b_X12_edits_62 n v2 v3 v4 h = some res) : gx_Z mX12_edits al al 0 0 62 [(2, .int (gI v2)), (3, .int (gI v3)), (4, .int (gI v4))] [] (gi_cv h) (.inl (some (.int (gI res)))) (gi_cv h) := by
  refine gx_iload_n dX12_edits_62 rfl 1 rfl ?_
  refine gx_iload_n dX12_edits_63 rfl 0 rfl ?_
  refine gx_bE e (fun _ g6 e => ?_)
  refine gx_bE e (fun _ g7 e => ?_)
  refine gx_iE e (fun c8 e => ?_) (fun c8 e => ?_)
  · refine gy_icmp_ne (tgt := 71) (gi_rgS g6) (gi_rgS g7) dX12_edits_64 (by decide) (fun z => absurd c8 z) (fun _ => ?_)
    refine gy_iconst dX12_edits_67 ?_
    refine gx_goto (tgt := 85) dX12_edits_68 (by decide) ?_
    cases e
    exact gx_iret dX12_edits_85 rfl ⟨Nat.le_of_ble_eq_true rfl, Nat.le_of_ble_eq_true rfl⟩ (fun z => z)
  · refine gy_icmp_ne (tgt := 71) (gi_rgS g6) (gi_rgS g7) dX12_edits_64 (by decide) (fun _ => ?_) (fun z => absurd z c8)
    refine gx_iload_n dX12_edits_71 rfl 1 rfl ?_
    refine gx_iload_n dX12_edits_72 rfl 0 rfl ?_
    refine gy_isub dX12_edits_73 ?_
    refine gx_iload dX12_edits_74 2 rfl ?_
    refine gx_bE e (fun _ g9 e => ?_)
    refine gx_iE e (fun c10 e => ?_) (fun c10 e => ?_)
    · refine gy_if_eq (tgt := 83) (gi_rgS g9) dX12_edits_76 (by decide) (fun _ => ?_) (fun z => absurd c10 z)
      refine gy_iconst dX12_edits_83 ?_
      refine gx_sub (ls2 := []) [] rfl ?_
      exact zb_X12_edits_84  e
    · refine gy_if_eq (tgt := 83) (gi_rgS g9) dX12_edits_76 (by decide) (fun z => absurd z c10) (fun _ => ?_)
      refine gy_iconst dX12_edits_79 ?_
      refine gx_goto (tgt := 84) dX12_edits_80 (by decide) ?_
      refine gx_sub (ls2 := []) [] rfl ?_
      exact zb_X12_edits_84  e
set_option maxRecDepth 100000 in
def b_X12_edits_54 (n : Nat) (r27 : Nat → Int → Int → Int → Int → Int → gi_H → Option (Int)) (v0 : Nat) (v1 : Int) (v2 : Int) (v3 : Int) (v5 : Int) (s0 : Int) (h : gi_H) : Option (Int) :=
  gx_nm (v5 + (1 : Int)) fun t18 => r27 v0 v1 v2 v3 s0 t18 h
set_option maxRecDepth 100000 in
theorem zb_X12_edits_54 {al : Bool} {n : Nat} {r27 : Nat → Int → Int → Int → Int → Int → gi_H → Option (Int)} {res : Int} (hr27 : ∀ (x0 : Nat) (x1 : Int) (x2 : Int) (x3 : Int) (x4 : Int) (x5 : Int) (hh : gi_H), r27 x0 x1 x2 x3 x4 x5 hh = some res → gx_Z mX12_edits al al 0 0 27 [(0, .ref x0), (1, .int (gI x1)), (2, .int (gI x2)), (3, .int (gI x3)), (4, .int (gI x4)), (5, .int (gI x5))] [] (gi_cv hh) (.inl (some (.int (gI res)))) (gi_cv hh)) {v0 : Nat} {v1 : Int} {v2 : Int} {v3 : Int} {v5 : Int} {s0 : Int} {h : gi_H} (e : b_X12_edits_54 n r27 v0 v1 v2 v3 v5 s0 h = some res) : gx_Z mX12_edits al al 0 0 54 [(0, .ref v0), (1, .int (gI v1)), (2, .int (gI v2)), (3, .int (gI v3)), (5, .int (gI v5))] [.int (gI s0)] (gi_cv h) (.inl (some (.int (gI res)))) (gi_cv h) := by
  refine gx_istore (ls2 := [(4, .int (gI s0)), (0, .ref v0), (1, .int (gI v1)), (2, .int (gI v2)), (3, .int (gI v3)), (5, .int (gI v5))]) dX12_edits_54 (Nat.le_of_ble_eq_true rfl) rfl ?_
  refine gx_nE e (fun t18 ht18 e => ?_)
  refine gy_iinc (v := t18) (ls2 := [(5, .int (gI t18)), (4, .int (gI s0)), (0, .ref v0), (1, .int (gI v1)), (2, .int (gI v2)), (3, .int (gI v3))]) dX12_edits_56 5 rfl ht18 (Nat.le_of_ble_eq_true rfl) rfl ?_
  refine gx_goto (tgt := 27) dX12_edits_59 (by decide) ?_
  refine gx_sub (ls2 := [(0, .ref v0), (1, .int (gI v1)), (2, .int (gI v2)), (3, .int (gI v3)), (4, .int (gI s0)), (5, .int (gI t18))]) [2, 3, 4, 5, 1, 0] rfl ?_
  exact hr27 _ _ _ _ _ _ _ e
set_option maxRecDepth 100000 in
def b_X12_edits_49 (n : Nat) (r27 : Nat → Int → Int → Int → Int → Int → gi_H → Option (Int)) (v0 : Nat) (v1 : Int) (v2 : Int) (v3 : Int) (v5 : Int)  (h : gi_H) : Option (Int) :=
  b_X12_edits_54 n r27 v0 v1 v2 v3 v5 (1 : Int) h
set_option maxRecDepth 100000 in
theorem zb_X12_edits_49 {al : Bool} {n : Nat} {r27 : Nat → Int → Int → Int → Int → Int → gi_H → Option (Int)} {res : Int} (hr27 : ∀ (x0 : Nat) (x1 : Int) (x2 : Int) (x3 : Int) (x4 : Int) (x5 : Int) (hh : gi_H), r27 x0 x1 x2 x3 x4 x5 hh = some res → gx_Z mX12_edits al al 0 0 27 [(0, .ref x0), (1, .int (gI x1)), (2, .int (gI x2)), (3, .int (gI x3)), (4, .int (gI x4)), (5, .int (gI x5))] [] (gi_cv hh) (.inl (some (.int (gI res)))) (gi_cv hh)) {v0 : Nat} {v1 : Int} {v2 : Int} {v3 : Int} {v5 : Int}  {h : gi_H} (e : b_X12_edits_49 n r27 v0 v1 v2 v3 v5 h = some res) : gx_Z mX12_edits al al 0 0 49 [(0, .ref v0), (1, .int (gI v1)), (2, .int (gI v2)), (3, .int (gI v3)), (5, .int (gI v5))] [] (gi_cv h) (.inl (some (.int (gI res)))) (gi_cv h) := by
  refine gy_iconst dX12_edits_49 ?_
  refine gx_goto (tgt := 54) dX12_edits_50 (by decide) ?_
  exact zb_X12_edits_54 hr27 e
set_option maxRecDepth 100000 in
def b_X12_edits_27 (n : Nat) (r27 : Nat → Int → Int → Int → Int → Int → gi_H → Option (Int)) (v0 : Nat) (v1 : Int) (v2 : Int) (v3 : Int) (v4 : Int) (v5 : Int)  (h : gi_H) : Option (Int) :=
  Option.bind (gi_rg v5) fun _ => Option.bind (gi_rg v3) fun _ => if v3 ≤ v5 then (b_X12_edits_62 n  v2 v3 v4 h) else (Option.bind (gi_rg v4) fun _ => if v4 = 0 then (Option.bind (gi_gR h v0 10 16) fun t13 => Option.bind (gi_aI h 1 t13 v5) fun t14 => Option.bind (gi_rg t14) fun _ => Option.bind (gi_rg v1) fun _ => if t14 = v1 then (b_X12_edits_49 n r27 v0 v1 v2 v3 v5 h) else (b_X12_edits_54 n r27 v0 v1 v2 v3 v5 (0 : Int) h)) else (b_X12_edits_49 n r27 v0 v1 v2 v3 v5 h))
set_option maxRecDepth 100000 in
theorem zb_X12_edits_27 {al : Bool} {n : Nat} {r27 : Nat → Int → Int → Int → Int → Int → gi_H → Option (Int)} {res : Int} (hr27 : ∀ (x0 : Nat) (x1 : Int) (x2 : Int) (x3 : Int) (x4 : Int) (x5 : Int) (hh : gi_H), r27 x0 x1 x2 x3 x4 x5 hh = some res → gx_Z mX12_edits al al 0 0 27 [(0, .ref x0), (1, .int (gI x1)), (2, .int (gI x2)), (3, .int (gI x3)), (4, .int (gI x4)), (5, .int (gI x5))] [] (gi_cv hh) (.inl (some (.int (gI res)))) (gi_cv hh)) {v0 : Nat} {v1 : Int} {v2 : Int} {v3 : Int} {v4 : Int} {v5 : Int}  {h : gi_H} (e : b_X12_edits_27 n r27 v0 v1 v2 v3 v4 v5 h = some res) : gx_Z mX12_edits al al 0 0 27 [(0, .ref v0), (1, .int (gI v1)), (2, .int (gI v2)), (3, .int (gI v3)), (4, .int (gI v4)), (5, .int (gI v5))] [] (gi_cv h) (.inl (some (.int (gI res)))) (gi_cv h) := by
  refine gx_iload dX12_edits_27 5 rfl ?_
  refine gx_iload_n dX12_edits_29 rfl 3 rfl ?_
  refine gx_bE e (fun _ g3 e => ?_)
  refine gx_bE e (fun _ g4 e => ?_)
  refine gx_iE e (fun c5 e => ?_) (fun c5 e => ?_)
  · refine gy_icmp_ge (tgt := 62) (gi_rgS g3) (gi_rgS g4) dX12_edits_30 (by decide) (fun _ => ?_) (fun z => absurd c5 z)
    refine gx_sub (ls2 := [(2, .int (gI v2)), (3, .int (gI v3)), (4, .int (gI v4))]) [2, 3, 4] rfl ?_
    exact zb_X12_edits_62  e
  · refine gy_icmp_ge (tgt := 62) (gi_rgS g3) (gi_rgS g4) dX12_edits_30 (by decide) (fun z => absurd z c5) (fun _ => ?_)
    refine gx_iload dX12_edits_33 4 rfl ?_
    refine gx_bE e (fun _ g11 e => ?_)
    refine gx_iE e (fun c12 e => ?_) (fun c12 e => ?_)
    · refine gy_if_ne (tgt := 49) (gi_rgS g11) dX12_edits_35 (by decide) (fun z => absurd c12 z) (fun _ => ?_)
      refine gx_aload_n dX12_edits_38 rfl 0 rfl ?_
      refine gx_bE e (fun t13 ht13 e => ?_)
      refine gy_fR ht13 dX12_edits_39 gf_RX12_49_10_16 (by decide) gkN_10_16 gkR_10_16 ?_
      refine gx_iload dX12_edits_42 5 rfl ?_
      refine gx_bE e (fun t14 ht14 e => ?_)
      refine gy_l1 ht14 dX12_edits_44 ?_
      refine gx_iload_n dX12_edits_45 rfl 1 rfl ?_
      refine gx_bE e (fun _ g15 e => ?_)
      refine gx_bE e (fun _ g16 e => ?_)
      refine gx_iE e (fun c17 e => ?_) (fun c17 e => ?_)
      · refine gy_icmp_ne (tgt := 53) (gi_rgS g15) (gi_rgS g16) dX12_edits_46 (by decide) (fun z => absurd c17 z) (fun _ => ?_)
        refine gx_sub (ls2 := [(0, .ref v0), (1, .int (gI v1)), (2, .int (gI v2)), (3, .int (gI v3)), (5, .int (gI v5))]) [0, 1, 2, 3, 5] rfl ?_
        exact zb_X12_edits_49 hr27 e
      · refine gy_icmp_ne (tgt := 53) (gi_rgS g15) (gi_rgS g16) dX12_edits_46 (by decide) (fun _ => ?_) (fun z => absurd z c17)
        refine gy_iconst dX12_edits_53 ?_
        refine gx_sub (ls2 := [(0, .ref v0), (1, .int (gI v1)), (2, .int (gI v2)), (3, .int (gI v3)), (5, .int (gI v5))]) [0, 1, 2, 3, 5] rfl ?_
        exact zb_X12_edits_54 hr27 e
    · refine gy_if_ne (tgt := 49) (gi_rgS g11) dX12_edits_35 (by decide) (fun _ => ?_) (fun z => absurd z c12)
      refine gx_sub (ls2 := [(0, .ref v0), (1, .int (gI v1)), (2, .int (gI v2)), (3, .int (gI v3)), (5, .int (gI v5))]) [0, 1, 2, 3, 5] rfl ?_
      exact zb_X12_edits_49 hr27 e
def l_X12_edits_27 (n : Nat)  : Nat → Nat → Int → Int → Int → Int → Int → gi_H → Option (Int)
  | 0, _, _, _, _, _, _, _ => none
  | k + 1, v0, v1, v2, v3, v4, v5, h => b_X12_edits_27 n  (l_X12_edits_27 n  k) v0 v1 v2 v3 v4 v5 h
theorem zl_X12_edits_27 {al : Bool} {n : Nat}  {res : Int}  : ∀ (k : Nat) (v0 : Nat) (v1 : Int) (v2 : Int) (v3 : Int) (v4 : Int) (v5 : Int) (h : gi_H), l_X12_edits_27 n  k v0 v1 v2 v3 v4 v5 h = some res → gx_Z mX12_edits al al 0 0 27 [(0, .ref v0), (1, .int (gI v1)), (2, .int (gI v2)), (3, .int (gI v3)), (4, .int (gI v4)), (5, .int (gI v5))] [] (gi_cv h) (.inl (some (.int (gI res)))) (gi_cv h)
  | 0, _, _, _, _, _, _, _, e => gx_0E e
  | k + 1, _, _, _, _, _, _, _, e => zb_X12_edits_27 (n := n)  (zl_X12_edits_27  k) e
set_option maxRecDepth 100000 in
def f_X12_edits (n : Nat) (v0 : Nat) (v1 : Int) (v2 : Int) (v3 : Int) (h : gi_H) : Option (Int) :=
  Option.bind (gi_rg v1) fun _ => if v1 < (16 : Int) then (l_X12_edits_27 n  n v0 v1 v2 v3 (0 : Int) v2 h) else (Option.bind (gi_gR h v0 10 41) fun t19 => Option.bind (f_X12_at (v1 - (16 : Int)) v2 v3 h) fun q20 => Option.bind (gi_aI h 1 t19 q20) fun t21 => some t21)
set_option maxRecDepth 100000 in
theorem z_X12_edits {al : Bool} {n : Nat} {v0 : Nat} {v1 : Int} {v2 : Int} {v3 : Int} {h : gi_H} {res : Int} (e : f_X12_edits n v0 v1 v2 v3 h = some res) : gx_Cw mX12_edits al [.ref v0, .int (gI v1), .int (gI v2), .int (gI v3)] (gi_cv h) (.inl (some (.int (gI res)))) (gi_cv h) := by
  refine gx_enter (by decide +kernel) rfl (Nat.le_of_ble_eq_true rfl) ?_
  show gx_Z mX12_edits al al 0 0 0 [(0, .ref v0), (1, .int (gI v1)), (2, .int (gI v2)), (3, .int (gI v3))] [] (gi_cv h) (.inl (some (.int (gI res)))) (gi_cv h)
  refine gx_iload_n dX12_edits_0 rfl 1 rfl ?_
  refine gy_bipush dX12_edits_1 gcb_16 ?_
  refine gx_bE e (fun _ g1 e => ?_)
  refine gx_iE e (fun c2 e => ?_) (fun c2 e => ?_)
  · refine gy_icmp_lt (tgt := 21) (gi_rgS g1) (by decide) dX12_edits_3 (by decide) (fun _ => ?_) (fun z => absurd c2 z)
    refine gy_iconst dX12_edits_21 ?_
    refine gx_istore (ls2 := [(4, .int (gI (0 : Int))), (0, .ref v0), (1, .int (gI v1)), (2, .int (gI v2)), (3, .int (gI v3))]) dX12_edits_22 (Nat.le_of_ble_eq_true rfl) rfl ?_
    refine gx_iload_n dX12_edits_24 rfl 3 rfl ?_
    refine gx_istore (ls2 := [(5, .int (gI v2)), (4, .int (gI (0 : Int))), (0, .ref v0), (1, .int (gI v1)), (2, .int (gI v2)), (3, .int (gI v3))]) dX12_edits_25 (Nat.le_of_ble_eq_true rfl) rfl ?_
    refine gx_sub (ls2 := [(0, .ref v0), (1, .int (gI v1)), (2, .int (gI v2)), (3, .int (gI v3)), (4, .int (gI (0 : Int))), (5, .int (gI v2))]) [2, 3, 4, 5, 1, 0] rfl ?_
    exact zl_X12_edits_27  n _ _ _ _ _ _ _ e
  · refine gy_icmp_lt (tgt := 21) (gi_rgS g1) (by decide) dX12_edits_3 (by decide) (fun z => absurd z c2) (fun _ => ?_)
    refine gx_aload_n dX12_edits_6 rfl 0 rfl ?_
    refine gx_bE e (fun t19 ht19 e => ?_)
    refine gy_fR ht19 dX12_edits_7 gf_RX12_95_10_41 (by decide) gkN_10_41 gkR_10_41 ?_
    refine gx_iload_n dX12_edits_10 rfl 1 rfl ?_
    refine gy_bipush dX12_edits_11 gcb_16 ?_
    refine gy_isub dX12_edits_13 ?_
    refine gx_iload_n dX12_edits_14 rfl 2 rfl ?_
    refine gx_iload_n dX12_edits_15 rfl 3 rfl ?_
    refine gx_bE e (fun q20 hq20 e => ?_)
    refine gx_callS (n := 3) (st := [.ref t19]) (As := [.int (gI (v1 - (16 : Int))), .int (gI v2), .int (gI v3)]) dX12_edits_16 (z_X12_at hq20) rfl ⟨rfl, gw_cw_X12_at, gw_14, gp_X12_at, ⟨Nat.le_of_ble_eq_true rfl, Nat.le_of_ble_eq_true rfl⟩⟩ gw_1795 gw_1796 ⟨Nat.le_of_ble_eq_true rfl, Nat.le_of_ble_eq_true rfl⟩ (Nat.le_of_ble_eq_true rfl) (gy_k1 (x := .int (gI q20)) (kc2 := 0) (ks2 := 0) ⟨rfl, rfl⟩ ?_) gy_kn
    refine gx_bE e (fun t21 ht21 e => ?_)
    refine gy_l1 ht21 dX12_edits_19 ?_
    cases e
    exact gx_iret dX12_edits_20 rfl ⟨Nat.le_of_ble_eq_true rfl, Nat.le_of_ble_eq_true rfl⟩ (fun z => z)
/-! X12_editsOf  -/
set_option maxRecDepth 100000 in
def b_X12_editsOf_194 (n : Nat)  (v0 : Nat) (v3 : Int)  (h : gi_H) : Option (Int × gi_H) :=
  Option.bind (gi_gR h v0 10 42) fun t13 => Option.bind (gi_aI h 1 t13 v3) fun t14 => some (t14, h)
set_option maxRecDepth 100000 in
theorem zb_X12_editsOf_194 {al : Bool} {n : Nat}  {res : Int} {h1 : gi_H}  {v0 : Nat} {v3 : Int}  {h : gi_H} (e : b_X12_editsOf_194 n v0 v3 h = some (res, h1)) : gx_Z mX12_editsOf al al 0 0 194 [(0, .ref v0), (3, .int (gI v3))] [] (gi_cv h) (.inl (some (.int (gI res)))) (gi_cv h1) := by
  refine gx_aload_n dX12_editsOf_194 rfl 0 rfl ?_
  refine gx_bE e (fun t13 ht13 e => ?_)
  refine gy_fR ht13 dX12_editsOf_195 gf_RX12_98_10_42 (by decide) gkN_10_42 gkR_10_42 ?_
  refine gx_iload_n dX12_editsOf_198 rfl 1 rfl ?_
  refine gx_bE e (fun t14 ht14 e => ?_)
  refine gy_l1 ht14 dX12_editsOf_199 ?_
  cases e
  exact gx_iret dX12_editsOf_200 rfl ⟨Nat.le_of_ble_eq_true rfl, Nat.le_of_ble_eq_true rfl⟩ (fun z => z)
set_option maxRecDepth 100000 in
def b_X12_editsOf_188 (n : Nat) (r49 : Nat → Int → Int → Int → Int → gi_H → Option (Int × gi_H)) (v0 : Nat) (v1 : Int) (v2 : Int) (v3 : Int) (v4 : Int)  (h : gi_H) : Option (Int × gi_H) :=
  gx_nm (v4 + (1 : Int)) fun t23 => r49 v0 v1 v2 v3 t23 h
set_option maxRecDepth 100000 in
theorem zb_X12_editsOf_188 {al : Bool} {n : Nat} {r49 : Nat → Int → Int → Int → Int → gi_H → Option (Int × gi_H)} {res : Int} {h1 : gi_H} (hr49 : ∀ (x0 : Nat) (x1 : Int) (x2 : Int) (x3 : Int) (x4 : Int) (hh : gi_H), r49 x0 x1 x2 x3 x4 hh = some (res, h1) → gx_Z mX12_editsOf al al 0 0 49 [(0, .ref x0), (1, .int (gI x1)), (2, .int (gI x2)), (3, .int (gI x3)), (4, .int (gI x4))] [] (gi_cv hh) (.inl (some (.int (gI res)))) (gi_cv h1)) {v0 : Nat} {v1 : Int} {v2 : Int} {v3 : Int} {v4 : Int}  {h : gi_H} (e : b_X12_editsOf_188 n r49 v0 v1 v2 v3 v4 h = some (res, h1)) : gx_Z mX12_editsOf al al 0 0 188 [(0, .ref v0), (1, .int (gI v1)), (2, .int (gI v2)), (3, .int (gI v3)), (4, .int (gI v4))] [] (gi_cv h) (.inl (some (.int (gI res)))) (gi_cv h1) := by
  refine gx_nE e (fun t23 ht23 e => ?_)
  refine gy_iinc (v := t23) (ls2 := [(4, .int (gI t23)), (0, .ref v0), (1, .int (gI v1)), (2, .int (gI v2)), (3, .int (gI v3))]) dX12_editsOf_188 4 rfl ht23 (Nat.le_of_ble_eq_true rfl) rfl ?_
  refine gx_goto (tgt := 49) dX12_editsOf_191 (by decide) ?_
  refine gx_sub (ls2 := [(0, .ref v0), (1, .int (gI v1)), (2, .int (gI v2)), (3, .int (gI v3)), (4, .int (gI t23))]) [1, 2, 3, 4, 0] rfl ?_
  exact hr49 _ _ _ _ _ _ e
set_option maxRecDepth 100000 in
def b_X12_editsOf_162 (n : Nat) (r49 : Nat → Int → Int → Int → Int → gi_H → Option (Int × gi_H)) (r162 : Nat → Int → Int → Int → Int → Int → gi_H → Option (Int × gi_H)) (v0 : Nat) (v1 : Int) (v2 : Int) (v3 : Int) (v4 : Int) (v6 : Int)  (h : gi_H) : Option (Int × gi_H) :=
  Option.bind (gi_rg v6) fun _ => Option.bind (gi_rg v3) fun _ => if v3 < v6 then (b_X12_editsOf_188 n r49 v0 v1 v2 v3 v4 h) else (Option.bind (gi_gR h v0 10 42) fun t24 => Option.bind (gi_gR h v0 10 43) fun t25 => Option.bind (gi_aI h 1 t25 v6) fun t26 => Option.bind (gi_s1 h t24 v6 t26) fun h27 => gx_nm (v6 + (1 : Int)) fun t28 => r162 v0 v1 v2 v3 v4 t28 h27)
set_option maxRecDepth 100000 in
theorem zb_X12_editsOf_162 {al : Bool} {n : Nat} {r49 : Nat → Int → Int → Int → Int → gi_H → Option (Int × gi_H)} {r162 : Nat → Int → Int → Int → Int → Int → gi_H → Option (Int × gi_H)} {res : Int} {h1 : gi_H} (hr49 : ∀ (x0 : Nat) (x1 : Int) (x2 : Int) (x3 : Int) (x4 : Int) (hh : gi_H), r49 x0 x1 x2 x3 x4 hh = some (res, h1) → gx_Z mX12_editsOf al al 0 0 49 [(0, .ref x0), (1, .int (gI x1)), (2, .int (gI x2)), (3, .int (gI x3)), (4, .int (gI x4))] [] (gi_cv hh) (.inl (some (.int (gI res)))) (gi_cv h1)) (hr162 : ∀ (x0 : Nat) (x1 : Int) (x2 : Int) (x3 : Int) (x4 : Int) (x6 : Int) (hh : gi_H), r162 x0 x1 x2 x3 x4 x6 hh = some (res, h1) → gx_Z mX12_editsOf al al 0 0 162 [(0, .ref x0), (1, .int (gI x1)), (2, .int (gI x2)), (3, .int (gI x3)), (4, .int (gI x4)), (6, .int (gI x6))] [] (gi_cv hh) (.inl (some (.int (gI res)))) (gi_cv h1)) {v0 : Nat} {v1 : Int} {v2 : Int} {v3 : Int} {v4 : Int} {v6 : Int}  {h : gi_H} (e : b_X12_editsOf_162 n r49 r162 v0 v1 v2 v3 v4 v6 h = some (res, h1)) : gx_Z mX12_editsOf al al 0 0 162 [(0, .ref v0), (1, .int (gI v1)), (2, .int (gI v2)), (3, .int (gI v3)), (4, .int (gI v4)), (6, .int (gI v6))] [] (gi_cv h) (.inl (some (.int (gI res)))) (gi_cv h1) := by
  refine gx_iload dX12_editsOf_162 5 rfl ?_
  refine gx_iload_n dX12_editsOf_164 rfl 3 rfl ?_
  refine gx_bE e (fun _ g20 e => ?_)
  refine gx_bE e (fun _ g21 e => ?_)
  refine gx_iE e (fun c22 e => ?_) (fun c22 e => ?_)
  · refine gy_icmp_gt (tgt := 188) (gi_rgS g20) (gi_rgS g21) dX12_editsOf_165 (by decide) (fun _ => ?_) (fun z => absurd c22 z)
    refine gx_sub (ls2 := [(0, .ref v0), (1, .int (gI v1)), (2, .int (gI v2)), (3, .int (gI v3)), (4, .int (gI v4))]) [0, 1, 2, 3, 4] rfl ?_
    exact zb_X12_editsOf_188 hr49 e
  · refine gy_icmp_gt (tgt := 188) (gi_rgS g20) (gi_rgS g21) dX12_editsOf_165 (by decide) (fun z => absurd z c22) (fun _ => ?_)
    refine gx_aload_n dX12_editsOf_168 rfl 0 rfl ?_
    refine gx_bE e (fun t24 ht24 e => ?_)
    refine gy_fR ht24 dX12_editsOf_169 gf_RX12_98_10_42 (by decide) gkN_10_42 gkR_10_42 ?_
    refine gx_iload dX12_editsOf_172 5 rfl ?_
    refine gx_aload_n dX12_editsOf_174 rfl 0 rfl ?_
    refine gx_bE e (fun t25 ht25 e => ?_)
    refine gy_fR ht25 dX12_editsOf_175 gf_RX12_101_10_43 (by decide) gkN_10_43 gkR_10_43 ?_
    refine gx_iload dX12_editsOf_178 5 rfl ?_
    refine gx_bE e (fun t26 ht26 e => ?_)
    refine gy_l1 ht26 dX12_editsOf_180 ?_
    refine gx_bE e (fun h27 hh27 e => ?_)
    refine gy_t1 hh27 dX12_editsOf_181 ?_
    refine gx_nE e (fun t28 ht28 e => ?_)
    refine gy_iinc (v := t28) (ls2 := [(6, .int (gI t28)), (0, .ref v0), (1, .int (gI v1)), (2, .int (gI v2)), (3, .int (gI v3)), (4, .int (gI v4))]) dX12_editsOf_182 5 rfl ht28 (Nat.le_of_ble_eq_true rfl) rfl ?_
    refine gx_goto (tgt := 162) dX12_editsOf_185 (by decide) ?_
    refine gx_sub (ls2 := [(0, .ref v0), (1, .int (gI v1)), (2, .int (gI v2)), (3, .int (gI v3)), (4, .int (gI v4)), (6, .int (gI t28))]) [1, 2, 3, 4, 5, 0] rfl ?_
    exact hr162 _ _ _ _ _ _ _ e
def l_X12_editsOf_162 (n : Nat) (r49 : Nat → Int → Int → Int → Int → gi_H → Option (Int × gi_H)) : Nat → Nat → Int → Int → Int → Int → Int → gi_H → Option (Int × gi_H)
  | 0, _, _, _, _, _, _, _ => none
  | k + 1, v0, v1, v2, v3, v4, v6, h => b_X12_editsOf_162 n r49 (l_X12_editsOf_162 n r49 k) v0 v1 v2 v3 v4 v6 h
theorem zl_X12_editsOf_162 {al : Bool} {n : Nat} {r49 : Nat → Int → Int → Int → Int → gi_H → Option (Int × gi_H)} {res : Int} {h1 : gi_H} (hr49 : ∀ (x0 : Nat) (x1 : Int) (x2 : Int) (x3 : Int) (x4 : Int) (hh : gi_H), r49 x0 x1 x2 x3 x4 hh = some (res, h1) → gx_Z mX12_editsOf al al 0 0 49 [(0, .ref x0), (1, .int (gI x1)), (2, .int (gI x2)), (3, .int (gI x3)), (4, .int (gI x4))] [] (gi_cv hh) (.inl (some (.int (gI res)))) (gi_cv h1)) : ∀ (k : Nat) (v0 : Nat) (v1 : Int) (v2 : Int) (v3 : Int) (v4 : Int) (v6 : Int) (h : gi_H), l_X12_editsOf_162 n r49 k v0 v1 v2 v3 v4 v6 h = some (res, h1) → gx_Z mX12_editsOf al al 0 0 162 [(0, .ref v0), (1, .int (gI v1)), (2, .int (gI v2)), (3, .int (gI v3)), (4, .int (gI v4)), (6, .int (gI v6))] [] (gi_cv h) (.inl (some (.int (gI res)))) (gi_cv h1)
  | 0, _, _, _, _, _, _, _, e => gx_0E e
  | k + 1, _, _, _, _, _, _, _, e => zb_X12_editsOf_162 (n := n) hr49 (zl_X12_editsOf_162 hr49 k) e
set_option maxRecDepth 100000 in
def b_X12_editsOf_159 (n : Nat) (r49 : Nat → Int → Int → Int → Int → gi_H → Option (Int × gi_H)) (v0 : Nat) (v1 : Int) (v2 : Int) (v3 : Int) (v4 : Int)  (h : gi_H) : Option (Int × gi_H) :=
  l_X12_editsOf_162 n r49 n v0 v1 v2 v3 v4 v2 h
set_option maxRecDepth 100000 in
theorem zb_X12_editsOf_159 {al : Bool} {n : Nat} {r49 : Nat → Int → Int → Int → Int → gi_H → Option (Int × gi_H)} {res : Int} {h1 : gi_H} (hr49 : ∀ (x0 : Nat) (x1 : Int) (x2 : Int) (x3 : Int) (x4 : Int) (hh : gi_H), r49 x0 x1 x2 x3 x4 hh = some (res, h1) → gx_Z mX12_editsOf al al 0 0 49 [(0, .ref x0), (1, .int (gI x1)), (2, .int (gI x2)), (3, .int (gI x3)), (4, .int (gI x4))] [] (gi_cv hh) (.inl (some (.int (gI res)))) (gi_cv h1)) {v0 : Nat} {v1 : Int} {v2 : Int} {v3 : Int} {v4 : Int}  {h : gi_H} (e : b_X12_editsOf_159 n r49 v0 v1 v2 v3 v4 h = some (res, h1)) : gx_Z mX12_editsOf al al 0 0 159 [(0, .ref v0), (1, .int (gI v1)), (2, .int (gI v2)), (3, .int (gI v3)), (4, .int (gI v4))] [] (gi_cv h) (.inl (some (.int (gI res)))) (gi_cv h1) := by
  refine gx_iload_n dX12_editsOf_159 rfl 2 rfl ?_
  refine gx_istore (ls2 := [(6, .int (gI v2)), (0, .ref v0), (1, .int (gI v1)), (2, .int (gI v2)), (3, .int (gI v3)), (4, .int (gI v4))]) dX12_editsOf_160 (Nat.le_of_ble_eq_true rfl) rfl ?_
  refine gx_sub (ls2 := [(0, .ref v0), (1, .int (gI v1)), (2, .int (gI v2)), (3, .int (gI v3)), (4, .int (gI v4)), (6, .int (gI v2))]) [1, 2, 3, 4, 5, 0] rfl ?_
  exact zl_X12_editsOf_162 hr49 n _ _ _ _ _ _ _ e
set_option maxRecDepth 100000 in
def b_X12_editsOf_153 (n : Nat) (r49 : Nat → Int → Int → Int → Int → gi_H → Option (Int × gi_H)) (r71 : Nat → Int → Int → Int → Int → Int → Int → gi_H → Option (Int × gi_H)) (v0 : Nat) (v1 : Int) (v2 : Int) (v3 : Int) (v4 : Int) (v5 : Int) (v6 : Int)  (h : gi_H) : Option (Int × gi_H) :=
  gx_nm (v6 + (1 : Int)) fun t34 => r71 v0 v1 v2 v3 v4 v5 t34 h
set_option maxRecDepth 100000 in
theorem zb_X12_editsOf_153 {al : Bool} {n : Nat} {r49 : Nat → Int → Int → Int → Int → gi_H → Option (Int × gi_H)} {r71 : Nat → Int → Int → Int → Int → Int → Int → gi_H → Option (Int × gi_H)} {res : Int} {h1 : gi_H} (hr49 : ∀ (x0 : Nat) (x1 : Int) (x2 : Int) (x3 : Int) (x4 : Int) (hh : gi_H), r49 x0 x1 x2 x3 x4 hh = some (res, h1) → gx_Z mX12_editsOf al al 0 0 49 [(0, .ref x0), (1, .int (gI x1)), (2, .int (gI x2)), (3, .int (gI x3)), (4, .int (gI x4))] [] (gi_cv hh) (.inl (some (.int (gI res)))) (gi_cv h1)) (hr71 : ∀ (x0 : Nat) (x1 : Int) (x2 : Int) (x3 : Int) (x4 : Int) (x5 : Int) (x6 : Int) (hh : gi_H), r71 x0 x1 x2 x3 x4 x5 x6 hh = some (res, h1) → gx_Z mX12_editsOf al al 0 0 71 [(0, .ref x0), (1, .int (gI x1)), (2, .int (gI x2)), (3, .int (gI x3)), (4, .int (gI x4)), (5, .int (gI x5)), (6, .int (gI x6))] [] (gi_cv hh) (.inl (some (.int (gI res)))) (gi_cv h1)) {v0 : Nat} {v1 : Int} {v2 : Int} {v3 : Int} {v4 : Int} {v5 : Int} {v6 : Int}  {h : gi_H} (e : b_X12_editsOf_153 n r49 r71 v0 v1 v2 v3 v4 v5 v6 h = some (res, h1)) : gx_Z mX12_editsOf al al 0 0 153 [(0, .ref v0), (1, .int (gI v1)), (2, .int (gI v2)), (3, .int (gI v3)), (4, .int (gI v4)), (5, .int (gI v5)), (6, .int (gI v6))] [] (gi_cv h) (.inl (some (.int (gI res)))) (gi_cv h1) := by
  refine gx_nE e (fun t34 ht34 e => ?_)
  refine gy_iinc (v := t34) (ls2 := [(6, .int (gI t34)), (0, .ref v0), (1, .int (gI v1)), (2, .int (gI v2)), (3, .int (gI v3)), (4, .int (gI v4)), (5, .int (gI v5))]) dX12_editsOf_153 6 rfl ht34 (Nat.le_of_ble_eq_true rfl) rfl ?_
  refine gx_goto (tgt := 71) dX12_editsOf_156 (by decide) ?_
  refine gx_sub (ls2 := [(0, .ref v0), (1, .int (gI v1)), (2, .int (gI v2)), (3, .int (gI v3)), (4, .int (gI v4)), (5, .int (gI v5)), (6, .int (gI t34))]) [1, 2, 3, 4, 5, 6, 0] rfl ?_
  exact hr71 _ _ _ _ _ _ _ _ e
set_option maxRecDepth 100000 in
def b_X12_editsOf_146 (n : Nat) (r49 : Nat → Int → Int → Int → Int → gi_H → Option (Int × gi_H)) (r71 : Nat → Int → Int → Int → Int → Int → Int → gi_H → Option (Int × gi_H)) (r89 : Nat → Int → Int → Int → Int → Int → Int → Int → gi_H → Option (Int × gi_H)) (v0 : Nat) (v1 : Int) (v2 : Int) (v3 : Int) (v4 : Int) (v5 : Int) (v6 : Int) (v7 : Int) (s0 : Nat) (s1 : Int) (s2 : Int) (h : gi_H) : Option (Int × gi_H) :=
  Option.bind (gi_s1 h s0 s1 s2) fun h48 => gx_nm (v7 + (1 : Int)) fun t49 => r89 v0 v1 v2 v3 v4 v5 v6 t49 h48
set_option maxRecDepth 100000 in
theorem zb_X12_editsOf_146 {al : Bool} {n : Nat} {r49 : Nat → Int → Int → Int → Int → gi_H → Option (Int × gi_H)} {r71 : Nat → Int → Int → Int → Int → Int → Int → gi_H → Option (Int × gi_H)} {r89 : Nat → Int → Int → Int → Int → Int → Int → Int → gi_H → Option (Int × gi_H)} {res : Int} {h1 : gi_H} (hr49 : ∀ (x0 : Nat) (x1 : Int) (x2 : Int) (x3 : Int) (x4 : Int) (hh : gi_H), r49 x0 x1 x2 x3 x4 hh = some (res, h1) → gx_Z mX12_editsOf al al 0 0 49 [(0, .ref x0), (1, .int (gI x1)), (2, .int (gI x2)), (3, .int (gI x3)), (4, .int (gI x4))] [] (gi_cv hh) (.inl (some (.int (gI res)))) (gi_cv h1)) (hr71 : ∀ (x0 : Nat) (x1 : Int) (x2 : Int) (x3 : Int) (x4 : Int) (x5 : Int) (x6 : Int) (hh : gi_H), r71 x0 x1 x2 x3 x4 x5 x6 hh = some (res, h1) → gx_Z mX12_editsOf al al 0 0 71 [(0, .ref x0), (1, .int (gI x1)), (2, .int (gI x2)), (3, .int (gI x3)), (4, .int (gI x4)), (5, .int (gI x5)), (6, .int (gI x6))] [] (gi_cv hh) (.inl (some (.int (gI res)))) (gi_cv h1)) (hr89 : ∀ (x0 : Nat) (x1 : Int) (x2 : Int) (x3 : Int) (x4 : Int) (x5 : Int) (x6 : Int) (x7 : Int) (hh : gi_H), r89 x0 x1 x2 x3 x4 x5 x6 x7 hh = some (res, h1) → gx_Z mX12_editsOf al al 0 0 89 [(0, .ref x0), (1, .int (gI x1)), (2, .int (gI x2)), (3, .int (gI x3)), (4, .int (gI x4)), (5, .int (gI x5)), (6, .int (gI x6)), (7, .int (gI x7))] [] (gi_cv hh) (.inl (some (.int (gI res)))) (gi_cv h1)) {v0 : Nat} {v1 : Int} {v2 : Int} {v3 : Int} {v4 : Int} {v5 : Int} {v6 : Int} {v7 : Int} {s0 : Nat} {s1 : Int} {s2 : Int} {h : gi_H} (e : b_X12_editsOf_146 n r49 r71 r89 v0 v1 v2 v3 v4 v5 v6 v7 s0 s1 s2 h = some (res, h1)) : gx_Z mX12_editsOf al al 0 0 146 [(0, .ref v0), (1, .int (gI v1)), (2, .int (gI v2)), (3, .int (gI v3)), (4, .int (gI v4)), (5, .int (gI v5)), (6, .int (gI v6)), (7, .int (gI v7))] [.int (gI s2), .int (gI s1), .ref s0] (gi_cv h) (.inl (some (.int (gI res)))) (gi_cv h1) := by
  refine gx_bE e (fun h48 hh48 e => ?_)
  refine gy_t1 hh48 dX12_editsOf_146 ?_
  refine gx_nE e (fun t49 ht49 e => ?_)
  refine gy_iinc (v := t49) (ls2 := [(7, .int (gI t49)), (0, .ref v0), (1, .int (gI v1)), (2, .int (gI v2)), (3, .int (gI v3)), (4, .int (gI v4)), (5, .int (gI v5)), (6, .int (gI v6))]) dX12_editsOf_147 7 rfl ht49 (Nat.le_of_ble_eq_true rfl) rfl ?_
  refine gx_goto (tgt := 89) dX12_editsOf_150 (by decide) ?_
  refine gx_sub (ls2 := [(0, .ref v0), (1, .int (gI v1)), (2, .int (gI v2)), (3, .int (gI v3)), (4, .int (gI v4)), (5, .int (gI v5)), (6, .int (gI v6)), (7, .int (gI t49))]) [1, 2, 3, 4, 5, 6, 7, 0] rfl ?_
  exact hr89 _ _ _ _ _ _ _ _ _ e
set_option maxRecDepth 100000 in
def b_X12_editsOf_89 (n : Nat) (r49 : Nat → Int → Int → Int → Int → gi_H → Option (Int × gi_H)) (r71 : Nat → Int → Int → Int → Int → Int → Int → gi_H → Option (Int × gi_H)) (r89 : Nat → Int → Int → Int → Int → Int → Int → Int → gi_H → Option (Int × gi_H)) (v0 : Nat) (v1 : Int) (v2 : Int) (v3 : Int) (v4 : Int) (v5 : Int) (v6 : Int) (v7 : Int)  (h : gi_H) : Option (Int × gi_H) :=
  Option.bind (gi_rg v7) fun _ => Option.bind (gi_rg v6) fun _ => if v6 < v7 then (b_X12_editsOf_153 n r49 r71 v0 v1 v2 v3 v4 v5 v6 h) else (Option.bind (gi_gR h v0 10 42) fun t35 => Option.bind (gi_aI h 1 t35 v7) fun t36 => Option.bind (gi_is h v0 10) fun _ => Option.bind (f_X12_edits n v0 v5 v7 v6 h) fun q38 => gx_nm (t36 + q38) fun t39 => Option.bind (gi_gR h v0 10 43) fun t40 => Option.bind (gi_gR h v0 10 43) fun t41 => Option.bind (gi_aI h 1 t41 v6) fun t42 => Option.bind (gi_rg t39) fun _ => Option.bind (gi_rg t42) fun _ => if t42 ≤ t39 then (Option.bind (gi_gR h v0 10 43) fun t46 => Option.bind (gi_aI h 1 t46 v6) fun t47 => b_X12_editsOf_146 n r49 r71 r89 v0 v1 v2 v3 v4 v5 v6 v7 t40 v6 t47 h) else (b_X12_editsOf_146 n r49 r71 r89 v0 v1 v2 v3 v4 v5 v6 v7 t40 v6 t39 h))
set_option maxRecDepth 100000 in
theorem zb_X12_editsOf_89 {al : Bool} {n : Nat} {r49 : Nat → Int → Int → Int → Int → gi_H → Option (Int × gi_H)} {r71 : Nat → Int → Int → Int → Int → Int → Int → gi_H → Option (Int × gi_H)} {r89 : Nat → Int → Int → Int → Int → Int → Int → Int → gi_H → Option (Int × gi_H)} {res : Int} {h1 : gi_H} (hr49 : ∀ (x0 : Nat) (x1 : Int) (x2 : Int) (x3 : Int) (x4 : Int) (hh : gi_H), r49 x0 x1 x2 x3 x4 hh = some (res, h1) → gx_Z mX12_editsOf al al 0 0 49 [(0, .ref x0), (1, .int (gI x1)), (2, .int (gI x2)), (3, .int (gI x3)), (4, .int (gI x4))] [] (gi_cv hh) (.inl (some (.int (gI res)))) (gi_cv h1)) (hr71 : ∀ (x0 : Nat) (x1 : Int) (x2 : Int) (x3 : Int) (x4 : Int) (x5 : Int) (x6 : Int) (hh : gi_H), r71 x0 x1 x2 x3 x4 x5 x6 hh = some (res, h1) → gx_Z mX12_editsOf al al 0 0 71 [(0, .ref x0), (1, .int (gI x1)), (2, .int (gI x2)), (3, .int (gI x3)), (4, .int (gI x4)), (5, .int (gI x5)), (6, .int (gI x6))] [] (gi_cv hh) (.inl (some (.int (gI res)))) (gi_cv h1)) (hr89 : ∀ (x0 : Nat) (x1 : Int) (x2 : Int) (x3 : Int) (x4 : Int) (x5 : Int) (x6 : Int) (x7 : Int) (hh : gi_H), r89 x0 x1 x2 x3 x4 x5 x6 x7 hh = some (res, h1) → gx_Z mX12_editsOf al al 0 0 89 [(0, .ref x0), (1, .int (gI x1)), (2, .int (gI x2)), (3, .int (gI x3)), (4, .int (gI x4)), (5, .int (gI x5)), (6, .int (gI x6)), (7, .int (gI x7))] [] (gi_cv hh) (.inl (some (.int (gI res)))) (gi_cv h1)) {v0 : Nat} {v1 : Int} {v2 : Int} {v3 : Int} {v4 : Int} {v5 : Int} {v6 : Int} {v7 : Int}  {h : gi_H} (e : b_X12_editsOf_89 n r49 r71 r89 v0 v1 v2 v3 v4 v5 v6 v7 h = some (res, h1)) : gx_Z mX12_editsOf al al 0 0 89 [(0, .ref v0), (1, .int (gI v1)), (2, .int (gI v2)), (3, .int (gI v3)), (4, .int (gI v4)), (5, .int (gI v5)), (6, .int (gI v6)), (7, .int (gI v7))] [] (gi_cv h) (.inl (some (.int (gI res)))) (gi_cv h1) := by
  refine gx_iload dX12_editsOf_89 7 rfl ?_
  refine gx_iload dX12_editsOf_91 6 rfl ?_
  refine gx_bE e (fun _ g31 e => ?_)
  refine gx_bE e (fun _ g32 e => ?_)
  refine gx_iE e (fun c33 e => ?_) (fun c33 e => ?_)
  · refine gy_icmp_gt (tgt := 153) (gi_rgS g31) (gi_rgS g32) dX12_editsOf_93 (by decide) (fun _ => ?_) (fun z => absurd c33 z)
    refine gx_sub (ls2 := [(0, .ref v0), (1, .int (gI v1)), (2, .int (gI v2)), (3, .int (gI v3)), (4, .int (gI v4)), (5, .int (gI v5)), (6, .int (gI v6))]) [0, 1, 2, 3, 4, 5, 6] rfl ?_
    exact zb_X12_editsOf_153 hr49 hr71 e
  · refine gy_icmp_gt (tgt := 153) (gi_rgS g31) (gi_rgS g32) dX12_editsOf_93 (by decide) (fun z => absurd z c33) (fun _ => ?_)
    refine gx_aload_n dX12_editsOf_96 rfl 0 rfl ?_
    refine gx_bE e (fun t35 ht35 e => ?_)
    refine gy_fR ht35 dX12_editsOf_97 gf_RX12_98_10_42 (by decide) gkN_10_42 gkR_10_42 ?_
    refine gx_iload dX12_editsOf_100 7 rfl ?_
    refine gx_bE e (fun t36 ht36 e => ?_)
    refine gy_l1 ht36 dX12_editsOf_102 ?_
    refine gx_aload_n dX12_editsOf_103 rfl 0 rfl ?_
    refine gx_iload dX12_editsOf_104 5 rfl ?_
    refine gx_iload dX12_editsOf_106 7 rfl ?_
    refine gx_iload dX12_editsOf_108 6 rfl ?_
    refine gx_bE e (fun _ hu37 e => ?_)
    refine gx_bE e (fun q38 hq38 e => ?_)
    refine gx_callV (n := 3) (st := [.int (gI t36)]) (As := [.int (gI v5), .int (gI v7), .int (gI v6)]) (b := v0) dX12_editsOf_110 (z_X12_edits hq38) rfl ⟨rfl, gw_cw_X12_edits, gw_14, gp_X12_edits, ⟨Nat.le_of_ble_eq_true rfl, Nat.le_of_ble_eq_true rfl⟩⟩ (gi_isS hu37) (by decide) gw_1810 gw_1812 gs_109 rfl ⟨Nat.le_of_ble_eq_true rfl, Nat.le_of_ble_eq_true rfl⟩ (Nat.le_of_ble_eq_true rfl) (gy_k1 (x := .int (gI q38)) (kc2 := 0) (ks2 := 0) ⟨rfl, rfl⟩ ?_) gy_kn
    refine gy_iadd dX12_editsOf_113 ?_
    refine gx_nE e (fun t39 ht39 e => ?_)
    rw [ht39]
    refine gx_istore (ls2 := [(8, .int (gI t39)), (0, .ref v0), (1, .int (gI v1)), (2, .int (gI v2)), (3, .int (gI v3)), (4, .int (gI v4)), (5, .int (gI v5)), (6, .int (gI v6)), (7, .int (gI v7))]) dX12_editsOf_114 (Nat.le_of_ble_eq_true rfl) rfl ?_
    refine gx_aload_n dX12_editsOf_116 rfl 1 rfl ?_
    refine gx_bE e (fun t40 ht40 e => ?_)
    refine gy_fR ht40 dX12_editsOf_117 gf_RX12_101_10_43 (by decide) gkN_10_43 gkR_10_43 ?_
    refine gx_iload dX12_editsOf_120 7 rfl ?_
    refine gx_iload dX12_editsOf_122 0 rfl ?_
    refine gx_aload_n dX12_editsOf_124 rfl 1 rfl ?_
    refine gx_bE e (fun t41 ht41 e => ?_)
    refine gy_fR ht41 dX12_editsOf_125 gf_RX12_101_10_43 (by decide) gkN_10_43 gkR_10_43 ?_
    refine gx_iload dX12_editsOf_128 7 rfl ?_
    refine gx_bE e (fun t42 ht42 e => ?_)
    refine gy_l1 ht42 dX12_editsOf_130 ?_
    refine gx_bE e (fun _ g43 e => ?_)
    refine gx_bE e (fun _ g44 e => ?_)
    refine gx_iE e (fun c45 e => ?_) (fun c45 e => ?_)
    · refine gy_icmp_ge (tgt := 139) (gi_rgS g43) (gi_rgS g44) dX12_editsOf_131 (by decide) (fun _ => ?_) (fun z => absurd c45 z)
      refine gx_aload_n dX12_editsOf_139 rfl 1 rfl ?_
      refine gx_bE e (fun t46 ht46 e => ?_)
      refine gy_fR ht46 dX12_editsOf_140 gf_RX12_101_10_43 (by decide) gkN_10_43 gkR_10_43 ?_
      refine gx_iload dX12_editsOf_143 7 rfl ?_
      refine gx_bE e (fun t47 ht47 e => ?_)
      refine gy_l1 ht47 dX12_editsOf_145 ?_
      refine gx_sub (ls2 := [(0, .ref v0), (1, .int (gI v1)), (2, .int (gI v2)), (3, .int (gI v3)), (4, .int (gI v4)), (5, .int (gI v5)), (6, .int (gI v6)), (7, .int (gI v7))]) [1, 2, 3, 4, 5, 6, 7, 8] rfl ?_
      exact zb_X12_editsOf_146 hr49 hr71 hr89 e
    · refine gy_icmp_ge (tgt := 139) (gi_rgS g43) (gi_rgS g44) dX12_editsOf_131 (by decide) (fun z => absurd z c45) (fun _ => ?_)
      refine gx_iload dX12_editsOf_134 0 rfl ?_
      refine gx_goto (tgt := 146) dX12_editsOf_136 (by decide) ?_
      refine gx_sub (ls2 := [(0, .ref v0), (1, .int (gI v1)), (2, .int (gI v2)), (3, .int (gI v3)), (4, .int (gI v4)), (5, .int (gI v5)), (6, .int (gI v6)), (7, .int (gI v7))]) [1, 2, 3, 4, 5, 6, 7, 8] rfl ?_
      exact zb_X12_editsOf_146 hr49 hr71 hr89 e
def l_X12_editsOf_89 (n : Nat) (r49 : Nat → Int → Int → Int → Int → gi_H → Option (Int × gi_H)) (r71 : Nat → Int → Int → Int → Int → Int → Int → gi_H → Option (Int × gi_H)) : Nat → Nat → Int → Int → Int → Int → Int → Int → Int → gi_H → Option (Int × gi_H)
  | 0, _, _, _, _, _, _, _, _, _ => none
  | k + 1, v0, v1, v2, v3, v4, v5, v6, v7, h => b_X12_editsOf_89 n r49 r71 (l_X12_editsOf_89 n r49 r71 k) v0 v1 v2 v3 v4 v5 v6 v7 h
theorem zl_X12_editsOf_89 {al : Bool} {n : Nat} {r49 : Nat → Int → Int → Int → Int → gi_H → Option (Int × gi_H)} {r71 : Nat → Int → Int → Int → Int → Int → Int → gi_H → Option (Int × gi_H)} {res : Int} {h1 : gi_H} (hr49 : ∀ (x0 : Nat) (x1 : Int) (x2 : Int) (x3 : Int) (x4 : Int) (hh : gi_H), r49 x0 x1 x2 x3 x4 hh = some (res, h1) → gx_Z mX12_editsOf al al 0 0 49 [(0, .ref x0), (1, .int (gI x1)), (2, .int (gI x2)), (3, .int (gI x3)), (4, .int (gI x4))] [] (gi_cv hh) (.inl (some (.int (gI res)))) (gi_cv h1)) (hr71 : ∀ (x0 : Nat) (x1 : Int) (x2 : Int) (x3 : Int) (x4 : Int) (x5 : Int) (x6 : Int) (hh : gi_H), r71 x0 x1 x2 x3 x4 x5 x6 hh = some (res, h1) → gx_Z mX12_editsOf al al 0 0 71 [(0, .ref x0), (1, .int (gI x1)), (2, .int (gI x2)), (3, .int (gI x3)), (4, .int (gI x4)), (5, .int (gI x5)), (6, .int (gI x6))] [] (gi_cv hh) (.inl (some (.int (gI res)))) (gi_cv h1)) : ∀ (k : Nat) (v0 : Nat) (v1 : Int) (v2 : Int) (v3 : Int) (v4 : Int) (v5 : Int) (v6 : Int) (v7 : Int) (h : gi_H), l_X12_editsOf_89 n r49 r71 k v0 v1 v2 v3 v4 v5 v6 v7 h = some (res, h1) → gx_Z mX12_editsOf al al 0 0 89 [(0, .ref v0), (1, .int (gI v1)), (2, .int (gI v2)), (3, .int (gI v3)), (4, .int (gI v4)), (5, .int (gI v5)), (6, .int (gI v6)), (7, .int (gI v7))] [] (gi_cv h) (.inl (some (.int (gI res)))) (gi_cv h1)
  | 0, _, _, _, _, _, _, _, _, _, e => gx_0E e
  | k + 1, _, _, _, _, _, _, _, _, _, e => zb_X12_editsOf_89 (n := n) hr49 hr71 (zl_X12_editsOf_89 hr49 hr71 k) e
set_option maxRecDepth 100000 in
def b_X12_editsOf_71 (n : Nat) (r49 : Nat → Int → Int → Int → Int → gi_H → Option (Int × gi_H)) (r71 : Nat → Int → Int → Int → Int → Int → Int → gi_H → Option (Int × gi_H)) (v0 : Nat) (v1 : Int) (v2 : Int) (v3 : Int) (v4 : Int) (v5 : Int) (v6 : Int)  (h : gi_H) : Option (Int × gi_H) :=
  Option.bind (gi_rg v6) fun _ => Option.bind (gi_rg v3) fun _ => if v3 < v6 then (b_X12_editsOf_159 n r49 v0 v1 v2 v3 v4 h) else (Option.bind (gi_gR h v0 10 43) fun t29 => Option.bind (gi_s1 h t29 v6 (100 : Int)) fun h30 => l_X12_editsOf_89 n r49 r71 n v0 v1 v2 v3 v4 v5 v6 v2 h30)
set_option maxRecDepth 100000 in
theorem zb_X12_editsOf_71 {al : Bool} {n : Nat} {r49 : Nat → Int → Int → Int → Int → gi_H → Option (Int × gi_H)} {r71 : Nat → Int → Int → Int → Int → Int → Int → gi_H → Option (Int × gi_H)} {res : Int} {h1 : gi_H} (hr49 : ∀ (x0 : Nat) (x1 : Int) (x2 : Int) (x3 : Int) (x4 : Int) (hh : gi_H), r49 x0 x1 x2 x3 x4 hh = some (res, h1) → gx_Z mX12_editsOf al al 0 0 49 [(0, .ref x0), (1, .int (gI x1)), (2, .int (gI x2)), (3, .int (gI x3)), (4, .int (gI x4))] [] (gi_cv hh) (.inl (some (.int (gI res)))) (gi_cv h1)) (hr71 : ∀ (x0 : Nat) (x1 : Int) (x2 : Int) (x3 : Int) (x4 : Int) (x5 : Int) (x6 : Int) (hh : gi_H), r71 x0 x1 x2 x3 x4 x5 x6 hh = some (res, h1) → gx_Z mX12_editsOf al al 0 0 71 [(0, .ref x0), (1, .int (gI x1)), (2, .int (gI x2)), (3, .int (gI x3)), (4, .int (gI x4)), (5, .int (gI x5)), (6, .int (gI x6))] [] (gi_cv hh) (.inl (some (.int (gI res)))) (gi_cv h1)) {v0 : Nat} {v1 : Int} {v2 : Int} {v3 : Int} {v4 : Int} {v5 : Int} {v6 : Int}  {h : gi_H} (e : b_X12_editsOf_71 n r49 r71 v0 v1 v2 v3 v4 v5 v6 h = some (res, h1)) : gx_Z mX12_editsOf al al 0 0 71 [(0, .ref v0), (1, .int (gI v1)), (2, .int (gI v2)), (3, .int (gI v3)), (4, .int (gI v4)), (5, .int (gI v5)), (6, .int (gI v6))] [] (gi_cv h) (.inl (some (.int (gI res)))) (gi_cv h1) := by
  refine gx_iload dX12_editsOf_71 6 rfl ?_
  refine gx_iload_n dX12_editsOf_73 rfl 3 rfl ?_
  refine gx_bE e (fun _ g17 e => ?_)
  refine gx_bE e (fun _ g18 e => ?_)
  refine gx_iE e (fun c19 e => ?_) (fun c19 e => ?_)
  · refine gy_icmp_gt (tgt := 159) (gi_rgS g17) (gi_rgS g18) dX12_editsOf_74 (by decide) (fun _ => ?_) (fun z => absurd c19 z)
    refine gx_sub (ls2 := [(0, .ref v0), (1, .int (gI v1)), (2, .int (gI v2)), (3, .int (gI v3)), (4, .int (gI v4))]) [0, 1, 2, 3, 4] rfl ?_
    exact zb_X12_editsOf_159 hr49 e
  · refine gy_icmp_gt (tgt := 159) (gi_rgS g17) (gi_rgS g18) dX12_editsOf_74 (by decide) (fun z => absurd z c19) (fun _ => ?_)
    refine gx_aload_n dX12_editsOf_77 rfl 0 rfl ?_
    refine gx_bE e (fun t29 ht29 e => ?_)
    refine gy_fR ht29 dX12_editsOf_78 gf_RX12_101_10_43 (by decide) gkN_10_43 gkR_10_43 ?_
    refine gx_iload dX12_editsOf_81 6 rfl ?_
    refine gy_bipush dX12_editsOf_83 gcb_100 ?_
    refine gx_bE e (fun h30 hh30 e => ?_)
    refine gy_t1 hh30 dX12_editsOf_85 ?_
    refine gx_iload_n dX12_editsOf_86 rfl 2 rfl ?_
    refine gx_istore (ls2 := [(7, .int (gI v2)), (0, .ref v0), (1, .int (gI v1)), (2, .int (gI v2)), (3, .int (gI v3)), (4, .int (gI v4)), (5, .int (gI v5)), (6, .int (gI v6))]) dX12_editsOf_87 (Nat.le_of_ble_eq_true rfl) rfl ?_
    refine gx_sub (ls2 := [(0, .ref v0), (1, .int (gI v1)), (2, .int (gI v2)), (3, .int (gI v3)), (4, .int (gI v4)), (5, .int (gI v5)), (6, .int (gI v6)), (7, .int (gI v2))]) [1, 2, 3, 4, 5, 6, 7, 0] rfl ?_
    exact zl_X12_editsOf_89 hr49 hr71 n _ _ _ _ _ _ _ _ _ e
def l_X12_editsOf_71 (n : Nat) (r49 : Nat → Int → Int → Int → Int → gi_H → Option (Int × gi_H)) : Nat → Nat → Int → Int → Int → Int → Int → Int → gi_H → Option (Int × gi_H)
  | 0, _, _, _, _, _, _, _, _ => none
  | k + 1, v0, v1, v2, v3, v4, v5, v6, h => b_X12_editsOf_71 n r49 (l_X12_editsOf_71 n r49 k) v0 v1 v2 v3 v4 v5 v6 h
theorem zl_X12_editsOf_71 {al : Bool} {n : Nat} {r49 : Nat → Int → Int → Int → Int → gi_H → Option (Int × gi_H)} {res : Int} {h1 : gi_H} (hr49 : ∀ (x0 : Nat) (x1 : Int) (x2 : Int) (x3 : Int) (x4 : Int) (hh : gi_H), r49 x0 x1 x2 x3 x4 hh = some (res, h1) → gx_Z mX12_editsOf al al 0 0 49 [(0, .ref x0), (1, .int (gI x1)), (2, .int (gI x2)), (3, .int (gI x3)), (4, .int (gI x4))] [] (gi_cv hh) (.inl (some (.int (gI res)))) (gi_cv h1)) : ∀ (k : Nat) (v0 : Nat) (v1 : Int) (v2 : Int) (v3 : Int) (v4 : Int) (v5 : Int) (v6 : Int) (h : gi_H), l_X12_editsOf_71 n r49 k v0 v1 v2 v3 v4 v5 v6 h = some (res, h1) → gx_Z mX12_editsOf al al 0 0 71 [(0, .ref v0), (1, .int (gI v1)), (2, .int (gI v2)), (3, .int (gI v3)), (4, .int (gI v4)), (5, .int (gI v5)), (6, .int (gI v6))] [] (gi_cv h) (.inl (some (.int (gI res)))) (gi_cv h1)
  | 0, _, _, _, _, _, _, _, _, e => gx_0E e
  | k + 1, _, _, _, _, _, _, _, _, e => zb_X12_editsOf_71 (n := n) hr49 (zl_X12_editsOf_71 hr49 k) e
set_option maxRecDepth 100000 in
def b_X12_editsOf_49 (n : Nat) (r49 : Nat → Int → Int → Int → Int → gi_H → Option (Int × gi_H)) (v0 : Nat) (v1 : Int) (v2 : Int) (v3 : Int) (v4 : Int)  (h : gi_H) : Option (Int × gi_H) :=
  Option.bind (gi_is h v0 10) fun _ => Option.bind (f_X12_sizeOf v0 v1 h) fun q9 => Option.bind (gi_rg v4) fun _ => Option.bind (gi_rg q9) fun _ => if q9 ≤ v4 then (b_X12_editsOf_194 n  v0 v3 h) else (Option.bind (gi_is h v0 10) fun _ => Option.bind (f_X12_symbol v0 v1 v4 h) fun q16 => l_X12_editsOf_71 n r49 n v0 v1 v2 v3 v4 q16 v2 h)
set_option maxRecDepth 100000 in
theorem zb_X12_editsOf_49 {al : Bool} {n : Nat} {r49 : Nat → Int → Int → Int → Int → gi_H → Option (Int × gi_H)} {res : Int} {h1 : gi_H} (hr49 : ∀ (x0 : Nat) (x1 : Int) (x2 : Int) (x3 : Int) (x4 : Int) (hh : gi_H), r49 x0 x1 x2 x3 x4 hh = some (res, h1) → gx_Z mX12_editsOf al al 0 0 49 [(0, .ref x0), (1, .int (gI x1)), (2, .int (gI x2)), (3, .int (gI x3)), (4, .int (gI x4))] [] (gi_cv hh) (.inl (some (.int (gI res)))) (gi_cv h1)) {v0 : Nat} {v1 : Int} {v2 : Int} {v3 : Int} {v4 : Int}  {h : gi_H} (e : b_X12_editsOf_49 n r49 v0 v1 v2 v3 v4 h = some (res, h1)) : gx_Z mX12_editsOf al al 0 0 49 [(0, .ref v0), (1, .int (gI v1)), (2, .int (gI v2)), (3, .int (gI v3)), (4, .int (gI v4))] [] (gi_cv h) (.inl (some (.int (gI res)))) (gi_cv h1) := by
  refine gx_iload dX12_editsOf_49 4 rfl ?_
  refine gx_aload_n dX12_editsOf_51 rfl 0 rfl ?_
  refine gx_iload_n dX12_editsOf_52 rfl 1 rfl ?_
  refine gx_bE e (fun _ hu8 e => ?_)
  refine gx_bE e (fun q9 hq9 e => ?_)
  refine gx_callV (n := 1) (st := [.int (gI v4)]) (As := [.int (gI v1)]) (b := v0) dX12_editsOf_53 (z_X12_sizeOf hq9) rfl ⟨rfl, gw_cw_X12_sizeOf, gw_14, gp_X12_sizeOf, ⟨Nat.le_of_ble_eq_true rfl, Nat.le_of_ble_eq_true rfl⟩⟩ (gi_isS hu8) (by decide) gw_1579 gw_1581 gs_71 rfl ⟨Nat.le_of_ble_eq_true rfl, Nat.le_of_ble_eq_true rfl⟩ (Nat.le_of_ble_eq_true rfl) (gy_k1 (x := .int (gI q9)) (kc2 := 0) (ks2 := 0) ⟨rfl, rfl⟩ ?_) gy_kn
  refine gx_bE e (fun _ g10 e => ?_)
  refine gx_bE e (fun _ g11 e => ?_)
  refine gx_iE e (fun c12 e => ?_) (fun c12 e => ?_)
  · refine gy_icmp_ge (tgt := 194) (gi_rgS g10) (gi_rgS g11) dX12_editsOf_56 (by decide) (fun _ => ?_) (fun z => absurd c12 z)
    refine gx_sub (ls2 := [(0, .ref v0), (3, .int (gI v3))]) [0, 3] rfl ?_
    exact zb_X12_editsOf_194  e
  · refine gy_icmp_ge (tgt := 194) (gi_rgS g10) (gi_rgS g11) dX12_editsOf_56 (by decide) (fun z => absurd z c12) (fun _ => ?_)
    refine gx_aload_n dX12_editsOf_59 rfl 0 rfl ?_
    refine gx_iload_n dX12_editsOf_60 rfl 1 rfl ?_
    refine gx_iload dX12_editsOf_61 4 rfl ?_
    refine gx_bE e (fun _ hu15 e => ?_)
    refine gx_bE e (fun q16 hq16 e => ?_)
    refine gx_callV (n := 2) (st := []) (As := [.int (gI v1), .int (gI v4)]) (b := v0) dX12_editsOf_63 (z_X12_symbol hq16) rfl ⟨rfl, gw_cw_X12_symbol, gw_14, gp_X12_symbol, ⟨Nat.le_of_ble_eq_true rfl, Nat.le_of_ble_eq_true rfl⟩⟩ (gi_isS hu15) (by decide) gw_1575 gw_1577 gs_70 rfl ⟨Nat.le_of_ble_eq_true rfl, Nat.le_of_ble_eq_true rfl⟩ (Nat.le_of_ble_eq_true rfl) (gy_k1 (x := .int (gI q16)) (kc2 := 0) (ks2 := 0) ⟨rfl, rfl⟩ ?_) gy_kn
    refine gx_istore (ls2 := [(5, .int (gI q16)), (0, .ref v0), (1, .int (gI v1)), (2, .int (gI v2)), (3, .int (gI v3)), (4, .int (gI v4))]) dX12_editsOf_66 (Nat.le_of_ble_eq_true rfl) rfl ?_
    refine gx_iload_n dX12_editsOf_68 rfl 3 rfl ?_
    refine gx_istore (ls2 := [(6, .int (gI v2)), (5, .int (gI q16)), (0, .ref v0), (1, .int (gI v1)), (2, .int (gI v2)), (3, .int (gI v3)), (4, .int (gI v4))]) dX12_editsOf_69 (Nat.le_of_ble_eq_true rfl) rfl ?_
    refine gx_sub (ls2 := [(0, .ref v0), (1, .int (gI v1)), (2, .int (gI v2)), (3, .int (gI v3)), (4, .int (gI v4)), (5, .int (gI q16)), (6, .int (gI v2))]) [2, 3, 4, 5, 6, 1, 0] rfl ?_
    exact zl_X12_editsOf_71 hr49 n _ _ _ _ _ _ _ _ e
def l_X12_editsOf_49 (n : Nat)  : Nat → Nat → Int → Int → Int → Int → gi_H → Option (Int × gi_H)
  | 0, _, _, _, _, _, _ => none
  | k + 1, v0, v1, v2, v3, v4, h => b_X12_editsOf_49 n  (l_X12_editsOf_49 n  k) v0 v1 v2 v3 v4 h
theorem zl_X12_editsOf_49 {al : Bool} {n : Nat}  {res : Int} {h1 : gi_H}  : ∀ (k : Nat) (v0 : Nat) (v1 : Int) (v2 : Int) (v3 : Int) (v4 : Int) (h : gi_H), l_X12_editsOf_49 n  k v0 v1 v2 v3 v4 h = some (res, h1) → gx_Z mX12_editsOf al al 0 0 49 [(0, .ref v0), (1, .int (gI v1)), (2, .int (gI v2)), (3, .int (gI v3)), (4, .int (gI v4))] [] (gi_cv h) (.inl (some (.int (gI res)))) (gi_cv h1)
  | 0, _, _, _, _, _, _, e => gx_0E e
  | k + 1, _, _, _, _, _, _, e => zb_X12_editsOf_49 (n := n)  (zl_X12_editsOf_49  k) e
set_option maxRecDepth 100000 in
def b_X12_editsOf_46 (n : Nat)  (v0 : Nat) (v1 : Int) (v2 : Int) (v3 : Int)  (h : gi_H) : Option (Int × gi_H) :=
  l_X12_editsOf_49 n  n v0 v1 v2 v3 (0 : Int) h
set_option maxRecDepth 100000 in
theorem zb_X12_editsOf_46 {al : Bool} {n : Nat}  {res : Int} {h1 : gi_H}  {v0 : Nat} {v1 : Int} {v2 : Int} {v3 : Int}  {h : gi_H} (e : b_X12_editsOf_46 n v0 v1 v2 v3 h = some (res, h1)) : gx_Z mX12_editsOf al al 0 0 46 [(0, .ref v0), (1, .int (gI v1)), (2, .int (gI v2)), (3, .int (gI v3))] [] (gi_cv h) (.inl (some (.int (gI res)))) (gi_cv h1) := by
  refine gy_iconst dX12_editsOf_46 ?_
  refine gx_istore (ls2 := [(4, .int (gI (0 : Int))), (0, .ref v0), (1, .int (gI v1)), (2, .int (gI v2)), (3, .int (gI v3))]) dX12_editsOf_47 (Nat.le_of_ble_eq_true rfl) rfl ?_
  refine gx_sub (ls2 := [(0, .ref v0), (1, .int (gI v1)), (2, .int (gI v2)), (3, .int (gI v3)), (4, .int (gI (0 : Int)))]) [1, 2, 3, 4, 0] rfl ?_
  exact zl_X12_editsOf_49  n _ _ _ _ _ _ e
set_option maxRecDepth 100000 in
def b_X12_editsOf_39 (n : Nat) (r15 : Nat → Int → Int → Int → Int → gi_H → Option (Int × gi_H)) (v0 : Nat) (v1 : Int) (v2 : Int) (v3 : Int) (v4 : Int) (s0 : Nat) (s1 : Int) (s2 : Int) (h : gi_H) : Option (Int × gi_H) :=
  Option.bind (gi_s1 h s0 s1 s2) fun h53 => gx_nm (v4 + (1 : Int)) fun t54 => r15 v0 v1 v2 v3 t54 h53
set_option maxRecDepth 100000 in
theorem zb_X12_editsOf_39 {al : Bool} {n : Nat} {r15 : Nat → Int → Int → Int → Int → gi_H → Option (Int × gi_H)} {res : Int} {h1 : gi_H} (hr15 : ∀ (x0 : Nat) (x1 : Int) (x2 : Int) (x3 : Int) (x4 : Int) (hh : gi_H), r15 x0 x1 x2 x3 x4 hh = some (res, h1) → gx_Z mX12_editsOf al al 0 0 15 [(0, .ref x0), (1, .int (gI x1)), (2, .int (gI x2)), (3, .int (gI x3)), (4, .int (gI x4))] [] (gi_cv hh) (.inl (some (.int (gI res)))) (gi_cv h1)) {v0 : Nat} {v1 : Int} {v2 : Int} {v3 : Int} {v4 : Int} {s0 : Nat} {s1 : Int} {s2 : Int} {h : gi_H} (e : b_X12_editsOf_39 n r15 v0 v1 v2 v3 v4 s0 s1 s2 h = some (res, h1)) : gx_Z mX12_editsOf al al 0 0 39 [(0, .ref v0), (1, .int (gI v1)), (2, .int (gI v2)), (3, .int (gI v3)), (4, .int (gI v4))] [.int (gI s2), .int (gI s1), .ref s0] (gi_cv h) (.inl (some (.int (gI res)))) (gi_cv h1) := by
  refine gx_bE e (fun h53 hh53 e => ?_)
  refine gy_t1 hh53 dX12_editsOf_39 ?_
  refine gx_nE e (fun t54 ht54 e => ?_)
  refine gy_iinc (v := t54) (ls2 := [(4, .int (gI t54)), (0, .ref v0), (1, .int (gI v1)), (2, .int (gI v2)), (3, .int (gI v3))]) dX12_editsOf_40 4 rfl ht54 (Nat.le_of_ble_eq_true rfl) rfl ?_
  refine gx_goto (tgt := 15) dX12_editsOf_43 (by decide) ?_
  refine gx_sub (ls2 := [(0, .ref v0), (1, .int (gI v1)), (2, .int (gI v2)), (3, .int (gI v3)), (4, .int (gI t54))]) [1, 2, 3, 4, 0] rfl ?_
  exact hr15 _ _ _ _ _ _ e
set_option maxRecDepth 100000 in
def b_X12_editsOf_15 (n : Nat) (r15 : Nat → Int → Int → Int → Int → gi_H → Option (Int × gi_H)) (v0 : Nat) (v1 : Int) (v2 : Int) (v3 : Int) (v4 : Int)  (h : gi_H) : Option (Int × gi_H) :=
  Option.bind (gi_rg v4) fun _ => Option.bind (gi_rg v3) fun _ => if v3 < v4 then (b_X12_editsOf_46 n  v0 v1 v2 v3 h) else (Option.bind (gi_gR h v0 10 42) fun t50 => Option.bind (gi_rg v2) fun _ => if v4 = v2 then (b_X12_editsOf_39 n r15 v0 v1 v2 v3 v4 t50 v4 (0 : Int) h) else (b_X12_editsOf_39 n r15 v0 v1 v2 v3 v4 t50 v4 (100 : Int) h))
set_option maxRecDepth 100000 in
theorem zb_X12_editsOf_15 {al : Bool} {n : Nat} {r15 : Nat → Int → Int → Int → Int → gi_H → Option (Int × gi_H)} {res : Int} {h1 : gi_H} (hr15 : ∀ (x0 : Nat) (x1 : Int) (x2 : Int) (x3 : Int) (x4 : Int) (hh : gi_H), r15 x0 x1 x2 x3 x4 hh = some (res, h1) → gx_Z mX12_editsOf al al 0 0 15 [(0, .ref x0), (1, .int (gI x1)), (2, .int (gI x2)), (3, .int (gI x3)), (4, .int (gI x4))] [] (gi_cv hh) (.inl (some (.int (gI res)))) (gi_cv h1)) {v0 : Nat} {v1 : Int} {v2 : Int} {v3 : Int} {v4 : Int}  {h : gi_H} (e : b_X12_editsOf_15 n r15 v0 v1 v2 v3 v4 h = some (res, h1)) : gx_Z mX12_editsOf al al 0 0 15 [(0, .ref v0), (1, .int (gI v1)), (2, .int (gI v2)), (3, .int (gI v3)), (4, .int (gI v4))] [] (gi_cv h) (.inl (some (.int (gI res)))) (gi_cv h1) := by
  refine gx_iload dX12_editsOf_15 4 rfl ?_
  refine gx_iload_n dX12_editsOf_17 rfl 3 rfl ?_
  refine gx_bE e (fun _ g5 e => ?_)
  refine gx_bE e (fun _ g6 e => ?_)
  refine gx_iE e (fun c7 e => ?_) (fun c7 e => ?_)
  · refine gy_icmp_gt (tgt := 46) (gi_rgS g5) (gi_rgS g6) dX12_editsOf_18 (by decide) (fun _ => ?_) (fun z => absurd c7 z)
    refine gx_sub (ls2 := [(0, .ref v0), (1, .int (gI v1)), (2, .int (gI v2)), (3, .int (gI v3))]) [0, 1, 2, 3] rfl ?_
    exact zb_X12_editsOf_46  e
  · refine gy_icmp_gt (tgt := 46) (gi_rgS g5) (gi_rgS g6) dX12_editsOf_18 (by decide) (fun z => absurd z c7) (fun _ => ?_)
    refine gx_aload_n dX12_editsOf_21 rfl 0 rfl ?_
    refine gx_bE e (fun t50 ht50 e => ?_)
    refine gy_fR ht50 dX12_editsOf_22 gf_RX12_98_10_42 (by decide) gkN_10_42 gkR_10_42 ?_
    refine gx_iload dX12_editsOf_25 4 rfl ?_
    refine gx_iload dX12_editsOf_27 4 rfl ?_
    refine gx_iload_n dX12_editsOf_29 rfl 2 rfl ?_
    refine gx_bE e (fun _ g51 e => ?_)
    refine gx_iE e (fun c52 e => ?_) (fun c52 e => ?_)
    · refine gy_icmp_ne (tgt := 37) (gi_rgS g5) (gi_rgS g51) dX12_editsOf_30 (by decide) (fun z => absurd c52 z) (fun _ => ?_)
      refine gy_iconst dX12_editsOf_33 ?_
      refine gx_goto (tgt := 39) dX12_editsOf_34 (by decide) ?_
      exact zb_X12_editsOf_39 hr15 e
    · refine gy_icmp_ne (tgt := 37) (gi_rgS g5) (gi_rgS g51) dX12_editsOf_30 (by decide) (fun _ => ?_) (fun z => absurd z c52)
      refine gy_bipush dX12_editsOf_37 gcb_100 ?_
      exact zb_X12_editsOf_39 hr15 e
def l_X12_editsOf_15 (n : Nat)  : Nat → Nat → Int → Int → Int → Int → gi_H → Option (Int × gi_H)
  | 0, _, _, _, _, _, _ => none
  | k + 1, v0, v1, v2, v3, v4, h => b_X12_editsOf_15 n  (l_X12_editsOf_15 n  k) v0 v1 v2 v3 v4 h
theorem zl_X12_editsOf_15 {al : Bool} {n : Nat}  {res : Int} {h1 : gi_H}  : ∀ (k : Nat) (v0 : Nat) (v1 : Int) (v2 : Int) (v3 : Int) (v4 : Int) (h : gi_H), l_X12_editsOf_15 n  k v0 v1 v2 v3 v4 h = some (res, h1) → gx_Z mX12_editsOf al al 0 0 15 [(0, .ref v0), (1, .int (gI v1)), (2, .int (gI v2)), (3, .int (gI v3)), (4, .int (gI v4))] [] (gi_cv h) (.inl (some (.int (gI res)))) (gi_cv h1)
  | 0, _, _, _, _, _, _, e => gx_0E e
  | k + 1, _, _, _, _, _, _, e => zb_X12_editsOf_15 (n := n)  (zl_X12_editsOf_15  k) e
set_option maxRecDepth 100000 in
def f_X12_editsOf (n : Nat) (v0 : Nat) (v1 : Int) (v2 : Int) (v3 : Int) (h : gi_H) : Option (Int × gi_H) :=
  Option.bind (gi_is h v0 10) fun _ => Option.bind (f_X12_sizeOf v0 v1 h) fun q2 => Option.bind (gi_rg q2) fun _ => if q2 = 0 then (some ((v3 - v2), h)) else (l_X12_editsOf_15 n  n v0 v1 v2 v3 v2 h)
set_option maxRecDepth 100000 in
theorem z_X12_editsOf {al : Bool} {n : Nat} {v0 : Nat} {v1 : Int} {v2 : Int} {v3 : Int} {h : gi_H} {res : Int} {h1 : gi_H} (e : f_X12_editsOf n v0 v1 v2 v3 h = some (res, h1)) : gx_Cw mX12_editsOf al [.ref v0, .int (gI v1), .int (gI v2), .int (gI v3)] (gi_cv h) (.inl (some (.int (gI res)))) (gi_cv h1) := by
  refine gx_enter (by decide +kernel) rfl (Nat.le_of_ble_eq_true rfl) ?_
  show gx_Z mX12_editsOf al al 0 0 0 [(0, .ref v0), (1, .int (gI v1)), (2, .int (gI v2)), (3, .int (gI v3))] [] (gi_cv h) (.inl (some (.int (gI res)))) (gi_cv h1)
  refine gx_aload_n dX12_editsOf_0 rfl 0 rfl ?_
  refine gx_iload_n dX12_editsOf_1 rfl 1 rfl ?_
  refine gx_bE e (fun _ hu1 e => ?_)
  refine gx_bE e (fun q2 hq2 e => ?_)
  refine gx_callV (n := 1) (st := []) (As := [.int (gI v1)]) (b := v0) dX12_editsOf_2 (z_X12_sizeOf hq2) rfl ⟨rfl, gw_cw_X12_sizeOf, gw_14, gp_X12_sizeOf, ⟨Nat.le_of_ble_eq_true rfl, Nat.le_of_ble_eq_true rfl⟩⟩ (gi_isS hu1) (by decide) gw_1579 gw_1581 gs_71 rfl ⟨Nat.le_of_ble_eq_true rfl, Nat.le_of_ble_eq_true rfl⟩ (Nat.le_of_ble_eq_true rfl) (gy_k1 (x := .int (gI q2)) (kc2 := 0) (ks2 := 0) ⟨rfl, rfl⟩ ?_) gy_kn
  refine gx_bE e (fun _ g3 e => ?_)
  refine gx_iE e (fun c4 e => ?_) (fun c4 e => ?_)
  · refine gy_if_ne (tgt := 12) (gi_rgS g3) dX12_editsOf_5 (by decide) (fun z => absurd c4 z) (fun _ => ?_)
    refine gx_iload_n dX12_editsOf_8 rfl 3 rfl ?_
    refine gx_iload_n dX12_editsOf_9 rfl 2 rfl ?_
    refine gy_isub dX12_editsOf_10 ?_
    cases e
    exact gx_iret dX12_editsOf_11 rfl ⟨Nat.le_of_ble_eq_true rfl, Nat.le_of_ble_eq_true rfl⟩ (fun z => z)
  · refine gy_if_ne (tgt := 12) (gi_rgS g3) dX12_editsOf_5 (by decide) (fun _ => ?_) (fun z => absurd z c4)
    refine gx_iload_n dX12_editsOf_12 rfl 2 rfl ?_
    refine gx_istore (ls2 := [(4, .int (gI v2)), (0, .ref v0), (1, .int (gI v1)), (2, .int (gI v2)), (3, .int (gI v3))]) dX12_editsOf_13 (Nat.le_of_ble_eq_true rfl) rfl ?_
    refine gx_sub (ls2 := [(0, .ref v0), (1, .int (gI v1)), (2, .int (gI v2)), (3, .int (gI v3)), (4, .int (gI v2))]) [1, 2, 3, 4, 0] rfl ?_
    exact zl_X12_editsOf_15  n _ _ _ _ _ _ e
/-! X12_mended  -/
set_option maxRecDepth 100000 in
def b_X12_mended_94 (n : Nat) (r5 : Nat → Int → Int → Int → Int → gi_H → Option (Int × gi_H)) (v0 : Nat) (v1 : Int) (v2 : Int) (v3 : Int) (v4 : Int) (s0 : Nat) (s1 : Int) (s2 : Int) (h : gi_H) : Option (Int × gi_H) :=
  Option.bind (gi_s1 h s0 s1 s2) fun h28 => gx_nm (v4 + (1 : Int)) fun t29 => r5 v0 v1 v2 v3 t29 h28
set_option maxRecDepth 100000 in
theorem zb_X12_mended_94 {al : Bool} {n : Nat} {r5 : Nat → Int → Int → Int → Int → gi_H → Option (Int × gi_H)} {res : Int} {h1 : gi_H} (hr5 : ∀ (x0 : Nat) (x1 : Int) (x2 : Int) (x3 : Int) (x4 : Int) (hh : gi_H), r5 x0 x1 x2 x3 x4 hh = some (res, h1) → gx_Z mX12_mended al al 0 0 5 [(0, .ref x0), (1, .int (gI x1)), (2, .int (gI x2)), (3, .int (gI x3)), (4, .int (gI x4))] [] (gi_cv hh) (.inl (some (.int (gI res)))) (gi_cv h1)) {v0 : Nat} {v1 : Int} {v2 : Int} {v3 : Int} {v4 : Int} {s0 : Nat} {s1 : Int} {s2 : Int} {h : gi_H} (e : b_X12_mended_94 n r5 v0 v1 v2 v3 v4 s0 s1 s2 h = some (res, h1)) : gx_Z mX12_mended al al 0 0 94 [(0, .ref v0), (1, .int (gI v1)), (2, .int (gI v2)), (3, .int (gI v3)), (4, .int (gI v4))] [.int (gI s2), .int (gI s1), .ref s0] (gi_cv h) (.inl (some (.int (gI res)))) (gi_cv h1) := by
  refine gx_bE e (fun h28 hh28 e => ?_)
  refine gy_t1 hh28 dX12_mended_94 ?_
  refine gx_nE e (fun t29 ht29 e => ?_)
  refine gy_iinc (v := t29) (ls2 := [(4, .int (gI t29)), (0, .ref v0), (1, .int (gI v1)), (2, .int (gI v2)), (3, .int (gI v3))]) dX12_mended_95 4 rfl ht29 (Nat.le_of_ble_eq_true rfl) rfl ?_
  refine gx_goto (tgt := 5) dX12_mended_98 (by decide) ?_
  refine gx_sub (ls2 := [(0, .ref v0), (1, .int (gI v1)), (2, .int (gI v2)), (3, .int (gI v3)), (4, .int (gI t29))]) [1, 2, 3, 4, 0] rfl ?_
  exact hr5 _ _ _ _ _ _ e
set_option maxRecDepth 100000 in
def b_X12_mended_63 (n : Nat) (r5 : Nat → Int → Int → Int → Int → gi_H → Option (Int × gi_H)) (v0 : Nat) (v1 : Int) (v2 : Int) (v4 : Int) (v5 : Int) (v6 : Int) (s0 : Int) (h : gi_H) : Option (Int × gi_H) :=
  Option.bind (gi_gR h v0 10 41) fun t20 => Option.bind (gi_gR h v0 10 41) fun t21 => Option.bind (gi_aI h 1 t21 v6) fun t22 => Option.bind (gi_rg v5) fun _ => Option.bind (gi_rg t22) fun _ => if t22 ≤ v5 then (Option.bind (gi_gR h v0 10 41) fun t26 => Option.bind (gi_aI h 1 t26 v6) fun t27 => b_X12_mended_94 n r5 v0 v1 v2 s0 v4 t20 v6 t27 h) else (b_X12_mended_94 n r5 v0 v1 v2 s0 v4 t20 v6 v5 h)
set_option maxRecDepth 100000 in
theorem zb_X12_mended_63 {al : Bool} {n : Nat} {r5 : Nat → Int → Int → Int → Int → gi_H → Option (Int × gi_H)} {res : Int} {h1 : gi_H} (hr5 : ∀ (x0 : Nat) (x1 : Int) (x2 : Int) (x3 : Int) (x4 : Int) (hh : gi_H), r5 x0 x1 x2 x3 x4 hh = some (res, h1) → gx_Z mX12_mended al al 0 0 5 [(0, .ref x0), (1, .int (gI x1)), (2, .int (gI x2)), (3, .int (gI x3)), (4, .int (gI x4))] [] (gi_cv hh) (.inl (some (.int (gI res)))) (gi_cv h1)) {v0 : Nat} {v1 : Int} {v2 : Int} {v4 : Int} {v5 : Int} {v6 : Int} {s0 : Int} {h : gi_H} (e : b_X12_mended_63 n r5 v0 v1 v2 v4 v5 v6 s0 h = some (res, h1)) : gx_Z mX12_mended al al 0 0 63 [(0, .ref v0), (1, .int (gI v1)), (2, .int (gI v2)), (4, .int (gI v4)), (5, .int (gI v5)), (6, .int (gI v6))] [.int (gI s0)] (gi_cv h) (.inl (some (.int (gI res)))) (gi_cv h1) := by
  refine gx_istore_n (ls2 := [(3, .int (gI s0)), (0, .ref v0), (1, .int (gI v1)), (2, .int (gI v2)), (4, .int (gI v4)), (5, .int (gI v5)), (6, .int (gI v6))]) dX12_mended_63 rfl (Nat.le_of_ble_eq_true rfl) rfl ?_
  refine gx_aload_n dX12_mended_64 rfl 1 rfl ?_
  refine gx_bE e (fun t20 ht20 e => ?_)
  refine gy_fR ht20 dX12_mended_65 gf_RX12_95_10_41 (by decide) gkN_10_41 gkR_10_41 ?_
  refine gx_iload dX12_mended_68 6 rfl ?_
  refine gx_iload dX12_mended_70 5 rfl ?_
  refine gx_aload_n dX12_mended_72 rfl 1 rfl ?_
  refine gx_bE e (fun t21 ht21 e => ?_)
  refine gy_fR ht21 dX12_mended_73 gf_RX12_95_10_41 (by decide) gkN_10_41 gkR_10_41 ?_
  refine gx_iload dX12_mended_76 6 rfl ?_
  refine gx_bE e (fun t22 ht22 e => ?_)
  refine gy_l1 ht22 dX12_mended_78 ?_
  refine gx_bE e (fun _ g23 e => ?_)
  refine gx_bE e (fun _ g24 e => ?_)
  refine gx_iE e (fun c25 e => ?_) (fun c25 e => ?_)
  · refine gy_icmp_ge (tgt := 87) (gi_rgS g23) (gi_rgS g24) dX12_mended_79 (by decide) (fun _ => ?_) (fun z => absurd c25 z)
    refine gx_aload_n dX12_mended_87 rfl 1 rfl ?_
    refine gx_bE e (fun t26 ht26 e => ?_)
    refine gy_fR ht26 dX12_mended_88 gf_RX12_95_10_41 (by decide) gkN_10_41 gkR_10_41 ?_
    refine gx_iload dX12_mended_91 6 rfl ?_
    refine gx_bE e (fun t27 ht27 e => ?_)
    refine gy_l1 ht27 dX12_mended_93 ?_
    refine gx_sub (ls2 := [(0, .ref v0), (1, .int (gI v1)), (2, .int (gI v2)), (3, .int (gI s0)), (4, .int (gI v4))]) [1, 2, 3, 0, 4] rfl ?_
    exact zb_X12_mended_94 hr5 e
  · refine gy_icmp_ge (tgt := 87) (gi_rgS g23) (gi_rgS g24) dX12_mended_79 (by decide) (fun z => absurd z c25) (fun _ => ?_)
    refine gx_iload dX12_mended_82 5 rfl ?_
    refine gx_goto (tgt := 94) dX12_mended_84 (by decide) ?_
    refine gx_sub (ls2 := [(0, .ref v0), (1, .int (gI v1)), (2, .int (gI v2)), (3, .int (gI s0)), (4, .int (gI v4))]) [1, 2, 3, 0, 4] rfl ?_
    exact zb_X12_mended_94 hr5 e
set_option maxRecDepth 100000 in
def b_X12_mended_58 (n : Nat) (r5 : Nat → Int → Int → Int → Int → gi_H → Option (Int × gi_H)) (v0 : Nat) (v1 : Int) (v2 : Int) (v4 : Int) (v5 : Int) (v6 : Int)  (h : gi_H) : Option (Int × gi_H) :=
  b_X12_mended_63 n r5 v0 v1 v2 v4 v5 v6 (1 : Int) h
set_option maxRecDepth 100000 in
theorem zb_X12_mended_58 {al : Bool} {n : Nat} {r5 : Nat → Int → Int → Int → Int → gi_H → Option (Int × gi_H)} {res : Int} {h1 : gi_H} (hr5 : ∀ (x0 : Nat) (x1 : Int) (x2 : Int) (x3 : Int) (x4 : Int) (hh : gi_H), r5 x0 x1 x2 x3 x4 hh = some (res, h1) → gx_Z mX12_mended al al 0 0 5 [(0, .ref x0), (1, .int (gI x1)), (2, .int (gI x2)), (3, .int (gI x3)), (4, .int (gI x4))] [] (gi_cv hh) (.inl (some (.int (gI res)))) (gi_cv h1)) {v0 : Nat} {v1 : Int} {v2 : Int} {v4 : Int} {v5 : Int} {v6 : Int}  {h : gi_H} (e : b_X12_mended_58 n r5 v0 v1 v2 v4 v5 v6 h = some (res, h1)) : gx_Z mX12_mended al al 0 0 58 [(0, .ref v0), (1, .int (gI v1)), (2, .int (gI v2)), (4, .int (gI v4)), (5, .int (gI v5)), (6, .int (gI v6))] [] (gi_cv h) (.inl (some (.int (gI res)))) (gi_cv h1) := by
  refine gy_iconst dX12_mended_58 ?_
  refine gx_goto (tgt := 63) dX12_mended_59 (by decide) ?_
  exact zb_X12_mended_63 hr5 e
set_option maxRecDepth 100000 in
def b_X12_mended_5 (n : Nat) (r5 : Nat → Int → Int → Int → Int → gi_H → Option (Int × gi_H)) (v0 : Nat) (v1 : Int) (v2 : Int) (v3 : Int) (v4 : Int)  (h : gi_H) : Option (Int × gi_H) :=
  Option.bind (gi_gR h v0 10 3) fun t1 => Option.bind (gi_gI h v0 10 9) fun t2 => Option.bind (gi_aI h 1 t1 t2) fun t3 => Option.bind (gi_rg v4) fun _ => Option.bind (gi_rg t3) fun _ => if t3 ≤ v4 then (Option.bind (gi_zo v3) fun _ => some (v3, h)) else (Option.bind (gi_is h v0 10) fun _ => Option.bind (f_X12_editsOf n v0 v4 v1 v2 h) fun q9 => Option.bind (gi_is q9.2 v0 10) fun _ => Option.bind (f_X12_lead v0 v4 q9.2) fun q11 => Option.bind (f_X12_at q11 v1 v2 q9.2) fun q12 => Option.bind (gi_rg v3) fun _ => if v3 = 0 then (Option.bind (gi_gR q9.2 v0 10 41) fun t15 => Option.bind (gi_aI q9.2 1 t15 q12) fun t16 => Option.bind (gi_rg q9.1) fun _ => Option.bind (gi_rg t16) fun _ => if t16 ≤ q9.1 then (b_X12_mended_63 n r5 v0 v1 v2 v4 q9.1 q12 (0 : Int) q9.2) else (b_X12_mended_58 n r5 v0 v1 v2 v4 q9.1 q12 q9.2)) else (b_X12_mended_58 n r5 v0 v1 v2 v4 q9.1 q12 q9.2))
set_option maxRecDepth 100000 in
theorem zb_X12_mended_5 {al : Bool} {n : Nat} {r5 : Nat → Int → Int → Int → Int → gi_H → Option (Int × gi_H)} {res : Int} {h1 : gi_H} (hr5 : ∀ (x0 : Nat) (x1 : Int) (x2 : Int) (x3 : Int) (x4 : Int) (hh : gi_H), r5 x0 x1 x2 x3 x4 hh = some (res, h1) → gx_Z mX12_mended al al 0 0 5 [(0, .ref x0), (1, .int (gI x1)), (2, .int (gI x2)), (3, .int (gI x3)), (4, .int (gI x4))] [] (gi_cv hh) (.inl (some (.int (gI res)))) (gi_cv h1)) {v0 : Nat} {v1 : Int} {v2 : Int} {v3 : Int} {v4 : Int}  {h : gi_H} (e : b_X12_mended_5 n r5 v0 v1 v2 v3 v4 h = some (res, h1)) : gx_Z mX12_mended al al 0 0 5 [(0, .ref v0), (1, .int (gI v1)), (2, .int (gI v2)), (3, .int (gI v3)), (4, .int (gI v4))] [] (gi_cv h) (.inl (some (.int (gI res)))) (gi_cv h1) := by
  refine gx_iload dX12_mended_5 4 rfl ?_
  refine gx_aload_n dX12_mended_7 rfl 0 rfl ?_
  refine gx_bE e (fun t1 ht1 e => ?_)
  refine gy_fR ht1 dX12_mended_8 gf_RX12_19_10_3 (by decide) gkN_10_3 gkR_10_3 ?_
  refine gx_aload_n dX12_mended_11 rfl 0 rfl ?_
  refine gx_bE e (fun t2 ht2 e => ?_)
  refine gy_fI ht2 dX12_mended_12 gf_RX12_139_10_9 (by decide) gkN_10_9 gkR_10_9 ?_
  refine gx_bE e (fun t3 ht3 e => ?_)
  refine gy_l1 ht3 dX12_mended_15 ?_
  refine gx_bE e (fun _ g4 e => ?_)
  refine gx_bE e (fun _ g5 e => ?_)
  refine gx_iE e (fun c6 e => ?_) (fun c6 e => ?_)
  · refine gy_icmp_ge (tgt := 101) (gi_rgS g4) (gi_rgS g5) dX12_mended_16 (by decide) (fun _ => ?_) (fun z => absurd c6 z)
    refine gx_iload_n dX12_mended_101 rfl 3 rfl ?_
    refine gx_bE e (fun _ hu7 e => ?_)
    cases e
    exact gx_zret (gi_zoS hu7) dX12_mended_102 rfl ⟨Nat.le_of_ble_eq_true rfl, Nat.le_of_ble_eq_true rfl⟩ (fun z => z)
  · refine gy_icmp_ge (tgt := 101) (gi_rgS g4) (gi_rgS g5) dX12_mended_16 (by decide) (fun z => absurd z c6) (fun _ => ?_)
    refine gx_aload_n dX12_mended_19 rfl 0 rfl ?_
    refine gx_iload dX12_mended_20 4 rfl ?_
    refine gx_iload_n dX12_mended_22 rfl 1 rfl ?_
    refine gx_iload_n dX12_mended_23 rfl 2 rfl ?_
    refine gx_bE e (fun _ hu8 e => ?_)
    refine gx_bE e (fun q9 hq9 e => ?_)
    refine gx_callV (n := 3) (st := []) (As := [.int (gI v4), .int (gI v1), .int (gI v2)]) (b := v0) dX12_mended_24 (z_X12_editsOf hq9) rfl ⟨rfl, gw_cw_X12_editsOf, gw_14, gp_X12_editsOf, ⟨Nat.le_of_ble_eq_true rfl, Nat.le_of_ble_eq_true rfl⟩⟩ (gi_isS hu8) (by decide) gw_1806 gw_1808 gs_108 rfl ⟨Nat.le_of_ble_eq_true rfl, Nat.le_of_ble_eq_true rfl⟩ (Nat.le_of_ble_eq_true rfl) (gy_k1 (x := .int (gI q9.1)) (kc2 := 0) (ks2 := 0) ⟨rfl, rfl⟩ ?_) gy_kn
    refine gx_istore (ls2 := [(5, .int (gI q9.1)), (0, .ref v0), (1, .int (gI v1)), (2, .int (gI v2)), (3, .int (gI v3)), (4, .int (gI v4))]) dX12_mended_27 (Nat.le_of_ble_eq_true rfl) rfl ?_
    refine gx_aload_n dX12_mended_29 rfl 1 rfl ?_
    refine gx_iload dX12_mended_30 5 rfl ?_
    refine gx_bE e (fun _ hu10 e => ?_)
    refine gx_bE e (fun q11 hq11 e => ?_)
    refine gx_callV (n := 1) (st := []) (As := [.int (gI v4)]) (b := v0) dX12_mended_32 (z_X12_lead hq11) rfl ⟨rfl, gw_cw_X12_lead, gw_14, gp_X12_lead, ⟨Nat.le_of_ble_eq_true rfl, Nat.le_of_ble_eq_true rfl⟩⟩ (gi_isS hu10) (by decide) gw_1595 gw_1597 gs_74 rfl ⟨Nat.le_of_ble_eq_true rfl, Nat.le_of_ble_eq_true rfl⟩ (Nat.le_of_ble_eq_true rfl) (gy_k1 (x := .int (gI q11)) (kc2 := 0) (ks2 := 0) ⟨rfl, rfl⟩ ?_) gy_kn
    refine gx_iload_n dX12_mended_35 rfl 2 rfl ?_
    refine gx_iload_n dX12_mended_36 rfl 3 rfl ?_
    refine gx_bE e (fun q12 hq12 e => ?_)
    refine gx_callS (n := 3) (st := []) (As := [.int (gI q11), .int (gI v1), .int (gI v2)]) dX12_mended_37 (z_X12_at hq12) rfl ⟨rfl, gw_cw_X12_at, gw_14, gp_X12_at, ⟨Nat.le_of_ble_eq_true rfl, Nat.le_of_ble_eq_true rfl⟩⟩ gw_1795 gw_1796 ⟨Nat.le_of_ble_eq_true rfl, Nat.le_of_ble_eq_true rfl⟩ (Nat.le_of_ble_eq_true rfl) (gy_k1 (x := .int (gI q12)) (kc2 := 0) (ks2 := 0) ⟨rfl, rfl⟩ ?_) gy_kn
    refine gx_istore (ls2 := [(6, .int (gI q12)), (5, .int (gI q9.1)), (0, .ref v0), (1, .int (gI v1)), (2, .int (gI v2)), (3, .int (gI v3)), (4, .int (gI v4))]) dX12_mended_40 (Nat.le_of_ble_eq_true rfl) rfl ?_
    refine gx_iload_n dX12_mended_42 rfl 5 rfl ?_
    refine gx_bE e (fun _ g13 e => ?_)
    refine gx_iE e (fun c14 e => ?_) (fun c14 e => ?_)
    · refine gy_if_ne (tgt := 58) (gi_rgS g13) dX12_mended_43 (by decide) (fun z => absurd c14 z) (fun _ => ?_)
      refine gx_iload dX12_mended_46 1 rfl ?_
      refine gx_aload_n dX12_mended_48 rfl 2 rfl ?_
      refine gx_bE e (fun t15 ht15 e => ?_)
      refine gy_fR ht15 dX12_mended_49 gf_RX12_95_10_41 (by decide) gkN_10_41 gkR_10_41 ?_
      refine gx_iload dX12_mended_52 0 rfl ?_
      refine gx_bE e (fun t16 ht16 e => ?_)
      refine gy_l1 ht16 dX12_mended_54 ?_
      refine gx_bE e (fun _ g17 e => ?_)
      refine gx_bE e (fun _ g18 e => ?_)
      refine gx_iE e (fun c19 e => ?_) (fun c19 e => ?_)
      · refine gy_icmp_ge (tgt := 62) (gi_rgS g17) (gi_rgS g18) dX12_mended_55 (by decide) (fun _ => ?_) (fun z => absurd c19 z)
        refine gy_iconst dX12_mended_62 ?_
        refine gx_sub (ls2 := [(0, .ref v0), (1, .int (gI v1)), (2, .int (gI v2)), (4, .int (gI v4)), (5, .int (gI q9.1)), (6, .int (gI q12))]) [2, 3, 4, 6, 1, 0] rfl ?_
        exact zb_X12_mended_63 hr5 e
      · refine gy_icmp_ge (tgt := 62) (gi_rgS g17) (gi_rgS g18) dX12_mended_55 (by decide) (fun z => absurd z c19) (fun _ => ?_)
        refine gx_sub (ls2 := [(0, .ref v0), (1, .int (gI v1)), (2, .int (gI v2)), (4, .int (gI v4)), (5, .int (gI q9.1)), (6, .int (gI q12))]) [2, 3, 4, 6, 1, 0] rfl ?_
        exact zb_X12_mended_58 hr5 e
    · refine gy_if_ne (tgt := 58) (gi_rgS g13) dX12_mended_43 (by decide) (fun _ => ?_) (fun z => absurd z c14)
      refine gx_sub (ls2 := [(0, .ref v0), (1, .int (gI v1)), (2, .int (gI v2)), (4, .int (gI v4)), (5, .int (gI q9.1)), (6, .int (gI q12))]) [2, 3, 4, 6, 1, 0] rfl ?_
      exact zb_X12_mended_58 hr5 e
def l_X12_mended_5 (n : Nat)  : Nat → Nat → Int → Int → Int → Int → gi_H → Option (Int × gi_H)
  | 0, _, _, _, _, _, _ => none
  | k + 1, v0, v1, v2, v3, v4, h => b_X12_mended_5 n  (l_X12_mended_5 n  k) v0 v1 v2 v3 v4 h
theorem zl_X12_mended_5 {al : Bool} {n : Nat}  {res : Int} {h1 : gi_H}  : ∀ (k : Nat) (v0 : Nat) (v1 : Int) (v2 : Int) (v3 : Int) (v4 : Int) (h : gi_H), l_X12_mended_5 n  k v0 v1 v2 v3 v4 h = some (res, h1) → gx_Z mX12_mended al al 0 0 5 [(0, .ref v0), (1, .int (gI v1)), (2, .int (gI v2)), (3, .int (gI v3)), (4, .int (gI v4))] [] (gi_cv h) (.inl (some (.int (gI res)))) (gi_cv h1)
  | 0, _, _, _, _, _, _, e => gx_0E e
  | k + 1, _, _, _, _, _, _, e => zb_X12_mended_5 (n := n)  (zl_X12_mended_5  k) e
set_option maxRecDepth 100000 in
def f_X12_mended (n : Nat) (v0 : Nat) (v1 : Int) (v2 : Int) (h : gi_H) : Option (Int × gi_H) :=
  l_X12_mended_5 n  n v0 v1 v2 (0 : Int) (0 : Int) h
set_option maxRecDepth 100000 in
theorem z_X12_mended {al : Bool} {n : Nat} {v0 : Nat} {v1 : Int} {v2 : Int} {h : gi_H} {res : Int} {h1 : gi_H} (e : f_X12_mended n v0 v1 v2 h = some (res, h1)) : gx_Cw mX12_mended al [.ref v0, .int (gI v1), .int (gI v2)] (gi_cv h) (.inl (some (.int (gI res)))) (gi_cv h1) := by
  refine gx_enter (by decide +kernel) rfl (Nat.le_of_ble_eq_true rfl) ?_
  show gx_Z mX12_mended al al 0 0 0 [(0, .ref v0), (1, .int (gI v1)), (2, .int (gI v2))] [] (gi_cv h) (.inl (some (.int (gI res)))) (gi_cv h1)
  refine gy_iconst dX12_mended_0 ?_
  refine gx_istore_n (ls2 := [(3, .int (gI (0 : Int))), (0, .ref v0), (1, .int (gI v1)), (2, .int (gI v2))]) dX12_mended_1 rfl (Nat.le_of_ble_eq_true rfl) rfl ?_
  refine gy_iconst dX12_mended_2 ?_
  refine gx_istore (ls2 := [(4, .int (gI (0 : Int))), (3, .int (gI (0 : Int))), (0, .ref v0), (1, .int (gI v1)), (2, .int (gI v2))]) dX12_mended_3 (Nat.le_of_ble_eq_true rfl) rfl ?_
  refine gx_sub (ls2 := [(0, .ref v0), (1, .int (gI v1)), (2, .int (gI v2)), (3, .int (gI (0 : Int))), (4, .int (gI (0 : Int)))]) [2, 3, 4, 1, 0] rfl ?_
  exact zl_X12_mended_5  n _ _ _ _ _ _ e
/-! X12_repair  -/
set_option maxRecDepth 100000 in
def b_X12_repair_84 (n : Nat)  (v0 : Nat)  (h : gi_H) : Option (Int × gi_H) :=
  Option.bind (gi_gR h v0 10 41) fun t10 => Option.bind (gi_gR h v0 10 8) fun t11 => Option.bind (gi_gI h v0 10 9) fun t12 => Option.bind (gi_aI h 1 t11 t12) fun t13 => Option.bind (gi_gI h v0 10 17) fun t14 => Option.bind (f_X12_at t13 (0 : Int) t14 h) fun q15 => Option.bind (gi_aI h 1 t10 q15) fun t16 => Option.bind (gi_gR h v0 10 21) fun t17 => Option.bind (gi_gR h v0 10 8) fun t18 => Option.bind (gi_gI h v0 10 9) fun t19 => Option.bind (gi_aI h 1 t18 t19) fun t20 => Option.bind (gi_aI h 1 t17 t20) fun t21 => Option.bind (gi_rg t21) fun _ => if t21 ≤ (100 : Int) then (Option.bind (gi_rg t16) fun _ => if t16 ≤ (99 : Int) then (some (t16, h)) else (some ((99 : Int), h))) else (some ((-1 : Int), h))
set_option maxRecDepth 100000 in
theorem zb_X12_repair_84 {al : Bool} {n : Nat}  {res : Int} {h1 : gi_H}  {v0 : Nat}  {h : gi_H} (e : b_X12_repair_84 n v0 h = some (res, h1)) : gx_Z mX12_repair al al 0 0 84 [(0, .ref v0)] [] (gi_cv h) (.inl (some (.int (gI res)))) (gi_cv h1) := by
  refine gx_aload_n dX12_repair_84 rfl 0 rfl ?_
  refine gx_bE e (fun t10 ht10 e => ?_)
  refine gy_fR ht10 dX12_repair_85 gf_RX12_95_10_41 (by decide) gkN_10_41 gkR_10_41 ?_
  refine gx_aload_n dX12_repair_88 rfl 0 rfl ?_
  refine gx_bE e (fun t11 ht11 e => ?_)
  refine gy_fR ht11 dX12_repair_89 gf_RX12_34_10_8 (by decide) gkN_10_8 gkR_10_8 ?_
  refine gx_aload_n dX12_repair_92 rfl 0 rfl ?_
  refine gx_bE e (fun t12 ht12 e => ?_)
  refine gy_fI ht12 dX12_repair_93 gf_RX12_139_10_9 (by decide) gkN_10_9 gkR_10_9 ?_
  refine gx_bE e (fun t13 ht13 e => ?_)
  refine gy_l1 ht13 dX12_repair_96 ?_
  refine gy_iconst dX12_repair_97 ?_
  refine gx_aload_n dX12_repair_98 rfl 0 rfl ?_
  refine gx_bE e (fun t14 ht14 e => ?_)
  refine gy_fI ht14 dX12_repair_99 gf_RX12_299_10_17 (by decide) gkN_10_17 gkR_10_17 ?_
  refine gx_bE e (fun q15 hq15 e => ?_)
  refine gx_callS (n := 3) (st := [.ref t10]) (As := [.int (gI t13), .int (gI (0 : Int)), .int (gI t14)]) dX12_repair_102 (z_X12_at hq15) rfl ⟨rfl, gw_cw_X12_at, gw_14, gp_X12_at, ⟨Nat.le_of_ble_eq_true rfl, Nat.le_of_ble_eq_true rfl⟩⟩ gw_1795 gw_1796 ⟨Nat.le_of_ble_eq_true rfl, Nat.le_of_ble_eq_true rfl⟩ (Nat.le_of_ble_eq_true rfl) (gy_k1 (x := .int (gI q15)) (kc2 := 0) (ks2 := 0) ⟨rfl, rfl⟩ ?_) gy_kn
  refine gx_bE e (fun t16 ht16 e => ?_)
  refine gy_l1 ht16 dX12_repair_105 ?_
  refine gx_istore_n (ls2 := [(1, .int (gI t16)), (0, .ref v0)]) dX12_repair_106 rfl (Nat.le_of_ble_eq_true rfl) rfl ?_
  refine gx_aload_n dX12_repair_107 rfl 1 rfl ?_
  refine gx_bE e (fun t17 ht17 e => ?_)
  refine gy_fR ht17 dX12_repair_108 gf_RX12_58_10_21 (by decide) gkN_10_21 gkR_10_21 ?_
  refine gx_aload_n dX12_repair_111 rfl 1 rfl ?_
  refine gx_bE e (fun t18 ht18 e => ?_)
  refine gy_fR ht18 dX12_repair_112 gf_RX12_34_10_8 (by decide) gkN_10_8 gkR_10_8 ?_
  refine gx_aload_n dX12_repair_115 rfl 1 rfl ?_
  refine gx_bE e (fun t19 ht19 e => ?_)
  refine gy_fI ht19 dX12_repair_116 gf_RX12_139_10_9 (by decide) gkN_10_9 gkR_10_9 ?_
  refine gx_bE e (fun t20 ht20 e => ?_)
  refine gy_l1 ht20 dX12_repair_119 ?_
  refine gx_bE e (fun t21 ht21 e => ?_)
  refine gy_l1 ht21 dX12_repair_120 ?_
  refine gy_bipush dX12_repair_121 gcb_100 ?_
  refine gx_bE e (fun _ g22 e => ?_)
  refine gx_iE e (fun c23 e => ?_) (fun c23 e => ?_)
  · refine gy_icmp_le (tgt := 130) (gi_rgS g22) (by decide) dX12_repair_123 (by decide) (fun _ => ?_) (fun z => absurd c23 z)
    refine gx_iload_n dX12_repair_130 rfl 0 rfl ?_
    refine gy_bipush dX12_repair_131 gcb_99 ?_
    refine gx_bE e (fun _ g24 e => ?_)
    refine gx_iE e (fun c25 e => ?_) (fun c25 e => ?_)
    · refine gy_icmp_le (tgt := 141) (gi_rgS g24) (by decide) dX12_repair_133 (by decide) (fun _ => ?_) (fun z => absurd c25 z)
      refine gx_iload_n dX12_repair_141 rfl 0 rfl ?_
      cases e
      exact gx_iret dX12_repair_142 rfl ⟨Nat.le_of_ble_eq_true rfl, Nat.le_of_ble_eq_true rfl⟩ (fun z => z)
    · refine gy_icmp_le (tgt := 141) (gi_rgS g24) (by decide) dX12_repair_133 (by decide) (fun z => absurd z c25) (fun _ => ?_)
      refine gy_bipush dX12_repair_136 gcb_99 ?_
      refine gx_goto (tgt := 142) dX12_repair_138 (by decide) ?_
      cases e
      exact gx_iret dX12_repair_142 rfl ⟨Nat.le_of_ble_eq_true rfl, Nat.le_of_ble_eq_true rfl⟩ (fun z => z)
  · refine gy_icmp_le (tgt := 130) (gi_rgS g22) (by decide) dX12_repair_123 (by decide) (fun z => absurd z c23) (fun _ => ?_)
    refine gy_iconst dX12_repair_126 ?_
    refine gx_goto (tgt := 142) dX12_repair_127 (by decide) ?_
    cases e
    exact gx_iret dX12_repair_142 rfl ⟨Nat.le_of_ble_eq_true rfl, Nat.le_of_ble_eq_true rfl⟩ (fun z => z)
set_option maxRecDepth 100000 in
def b_X12_repair_78 (n : Nat) (r34 : Nat → Int → gi_H → Option (Int × gi_H)) (v0 : Nat) (v1 : Int)  (h : gi_H) : Option (Int × gi_H) :=
  gx_nm (v1 + (1 : Int)) fun t30 => r34 v0 t30 h
set_option maxRecDepth 100000 in
theorem zb_X12_repair_78 {al : Bool} {n : Nat} {r34 : Nat → Int → gi_H → Option (Int × gi_H)} {res : Int} {h1 : gi_H} (hr34 : ∀ (x0 : Nat) (x1 : Int) (hh : gi_H), r34 x0 x1 hh = some (res, h1) → gx_Z mX12_repair al al 0 0 34 [(0, .ref x0), (1, .int (gI x1))] [] (gi_cv hh) (.inl (some (.int (gI res)))) (gi_cv h1)) {v0 : Nat} {v1 : Int}  {h : gi_H} (e : b_X12_repair_78 n r34 v0 v1 h = some (res, h1)) : gx_Z mX12_repair al al 0 0 78 [(0, .ref v0), (1, .int (gI v1))] [] (gi_cv h) (.inl (some (.int (gI res)))) (gi_cv h1) := by
  refine gx_nE e (fun t30 ht30 e => ?_)
  refine gy_iinc (v := t30) (ls2 := [(1, .int (gI t30)), (0, .ref v0)]) dX12_repair_78 1 rfl ht30 (Nat.le_of_ble_eq_true rfl) rfl ?_
  refine gx_goto (tgt := 34) dX12_repair_81 (by decide) ?_
  refine gx_sub (ls2 := [(0, .ref v0), (1, .int (gI t30))]) [1, 0] rfl ?_
  exact hr34 _ _ _ e
set_option maxRecDepth 100000 in
def b_X12_repair_72 (n : Nat) (r34 : Nat → Int → gi_H → Option (Int × gi_H)) (r44 : Nat → Int → Int → gi_H → Option (Int × gi_H)) (v0 : Nat) (v1 : Int) (v2 : Int)  (h : gi_H) : Option (Int × gi_H) :=
  gx_nm (v2 + (1 : Int)) fun t33 => r44 v0 v1 t33 h
set_option maxRecDepth 100000 in
theorem zb_X12_repair_72 {al : Bool} {n : Nat} {r34 : Nat → Int → gi_H → Option (Int × gi_H)} {r44 : Nat → Int → Int → gi_H → Option (Int × gi_H)} {res : Int} {h1 : gi_H} (hr34 : ∀ (x0 : Nat) (x1 : Int) (hh : gi_H), r34 x0 x1 hh = some (res, h1) → gx_Z mX12_repair al al 0 0 34 [(0, .ref x0), (1, .int (gI x1))] [] (gi_cv hh) (.inl (some (.int (gI res)))) (gi_cv h1)) (hr44 : ∀ (x0 : Nat) (x1 : Int) (x2 : Int) (hh : gi_H), r44 x0 x1 x2 hh = some (res, h1) → gx_Z mX12_repair al al 0 0 44 [(0, .ref x0), (1, .int (gI x1)), (2, .int (gI x2))] [] (gi_cv hh) (.inl (some (.int (gI res)))) (gi_cv h1)) {v0 : Nat} {v1 : Int} {v2 : Int}  {h : gi_H} (e : b_X12_repair_72 n r34 r44 v0 v1 v2 h = some (res, h1)) : gx_Z mX12_repair al al 0 0 72 [(0, .ref v0), (1, .int (gI v1)), (2, .int (gI v2))] [] (gi_cv h) (.inl (some (.int (gI res)))) (gi_cv h1) := by
  refine gx_nE e (fun t33 ht33 e => ?_)
  refine gy_iinc (v := t33) (ls2 := [(2, .int (gI t33)), (0, .ref v0), (1, .int (gI v1))]) dX12_repair_72 2 rfl ht33 (Nat.le_of_ble_eq_true rfl) rfl ?_
  refine gx_goto (tgt := 44) dX12_repair_75 (by decide) ?_
  refine gx_sub (ls2 := [(0, .ref v0), (1, .int (gI v1)), (2, .int (gI t33))]) [1, 2, 0] rfl ?_
  exact hr44 _ _ _ _ e
set_option maxRecDepth 100000 in
def b_X12_repair_56 (n : Nat) (r34 : Nat → Int → gi_H → Option (Int × gi_H)) (r44 : Nat → Int → Int → gi_H → Option (Int × gi_H)) (r56 : Nat → Int → Int → Int → gi_H → Option (Int × gi_H)) (v0 : Nat) (v1 : Int) (v2 : Int) (v3 : Int)  (h : gi_H) : Option (Int × gi_H) :=
  Option.bind (gi_rg v3) fun _ => if v3 = 0 then (b_X12_repair_72 n r34 r44 v0 v1 v2 h) else (Option.bind (gi_is h v0 10) fun _ => Option.bind (f_X12_mended n v0 v2 (v2 + v1) h) fun q35 => r56 v0 v1 v2 q35.1 q35.2)
set_option maxRecDepth 100000 in
theorem zb_X12_repair_56 {al : Bool} {n : Nat} {r34 : Nat → Int → gi_H → Option (Int × gi_H)} {r44 : Nat → Int → Int → gi_H → Option (Int × gi_H)} {r56 : Nat → Int → Int → Int → gi_H → Option (Int × gi_H)} {res : Int} {h1 : gi_H} (hr34 : ∀ (x0 : Nat) (x1 : Int) (hh : gi_H), r34 x0 x1 hh = some (res, h1) → gx_Z mX12_repair al al 0 0 34 [(0, .ref x0), (1, .int (gI x1))] [] (gi_cv hh) (.inl (some (.int (gI res)))) (gi_cv h1)) (hr44 : ∀ (x0 : Nat) (x1 : Int) (x2 : Int) (hh : gi_H), r44 x0 x1 x2 hh = some (res, h1) → gx_Z mX12_repair al al 0 0 44 [(0, .ref x0), (1, .int (gI x1)), (2, .int (gI x2))] [] (gi_cv hh) (.inl (some (.int (gI res)))) (gi_cv h1)) (hr56 : ∀ (x0 : Nat) (x1 : Int) (x2 : Int) (x3 : Int) (hh : gi_H), r56 x0 x1 x2 x3 hh = some (res, h1) → gx_Z mX12_repair al al 0 0 56 [(0, .ref x0), (1, .int (gI x1)), (2, .int (gI x2)), (3, .int (gI x3))] [] (gi_cv hh) (.inl (some (.int (gI res)))) (gi_cv h1)) {v0 : Nat} {v1 : Int} {v2 : Int} {v3 : Int}  {h : gi_H} (e : b_X12_repair_56 n r34 r44 r56 v0 v1 v2 v3 h = some (res, h1)) : gx_Z mX12_repair al al 0 0 56 [(0, .ref v0), (1, .int (gI v1)), (2, .int (gI v2)), (3, .int (gI v3))] [] (gi_cv h) (.inl (some (.int (gI res)))) (gi_cv h1) := by
  refine gx_iload_n dX12_repair_56 rfl 3 rfl ?_
  refine gx_bE e (fun _ g31 e => ?_)
  refine gx_iE e (fun c32 e => ?_) (fun c32 e => ?_)
  · refine gy_if_eq (tgt := 72) (gi_rgS g31) dX12_repair_57 (by decide) (fun _ => ?_) (fun z => absurd c32 z)
    refine gx_sub (ls2 := [(0, .ref v0), (1, .int (gI v1)), (2, .int (gI v2))]) [0, 1, 2] rfl ?_
    exact zb_X12_repair_72 hr34 hr44 e
  · refine gy_if_eq (tgt := 72) (gi_rgS g31) dX12_repair_57 (by decide) (fun z => absurd z c32) (fun _ => ?_)
    refine gx_aload_n dX12_repair_60 rfl 0 rfl ?_
    refine gx_iload_n dX12_repair_61 rfl 2 rfl ?_
    refine gx_iload_n dX12_repair_62 rfl 2 rfl ?_
    refine gx_iload_n dX12_repair_63 rfl 1 rfl ?_
    refine gy_iadd dX12_repair_64 ?_
    refine gx_bE e (fun _ hu34 e => ?_)
    refine gx_bE e (fun q35 hq35 e => ?_)
    refine gx_callV (n := 2) (st := []) (As := [.int (gI v2), .int (gI (v2 + v1))]) (b := v0) dX12_repair_65 (z_X12_mended hq35) rfl ⟨rfl, gw_cw_X12_mended, gw_14, gp_X12_mended, ⟨Nat.le_of_ble_eq_true rfl, Nat.le_of_ble_eq_true rfl⟩⟩ (gi_isS hu34) (by decide) gw_1802 gw_1804 gs_107 rfl ⟨Nat.le_of_ble_eq_true rfl, Nat.le_of_ble_eq_true rfl⟩ (Nat.le_of_ble_eq_true rfl) (gy_k1 (x := .int (gI q35.1)) (kc2 := 0) (ks2 := 0) ⟨rfl, rfl⟩ ?_) gy_kn
    refine gx_istore_n (ls2 := [(3, .int (gI q35.1)), (0, .ref v0), (1, .int (gI v1)), (2, .int (gI v2))]) dX12_repair_68 rfl (Nat.le_of_ble_eq_true rfl) rfl ?_
    refine gx_goto (tgt := 56) dX12_repair_69 (by decide) ?_
    refine gx_sub (ls2 := [(0, .ref v0), (1, .int (gI v1)), (2, .int (gI v2)), (3, .int (gI q35.1))]) [1, 2, 3, 0] rfl ?_
    exact hr56 _ _ _ _ _ e
def l_X12_repair_56 (n : Nat) (r34 : Nat → Int → gi_H → Option (Int × gi_H)) (r44 : Nat → Int → Int → gi_H → Option (Int × gi_H)) : Nat → Nat → Int → Int → Int → gi_H → Option (Int × gi_H)
  | 0, _, _, _, _, _ => none
  | k + 1, v0, v1, v2, v3, h => b_X12_repair_56 n r34 r44 (l_X12_repair_56 n r34 r44 k) v0 v1 v2 v3 h
theorem zl_X12_repair_56 {al : Bool} {n : Nat} {r34 : Nat → Int → gi_H → Option (Int × gi_H)} {r44 : Nat → Int → Int → gi_H → Option (Int × gi_H)} {res : Int} {h1 : gi_H} (hr34 : ∀ (x0 : Nat) (x1 : Int) (hh : gi_H), r34 x0 x1 hh = some (res, h1) → gx_Z mX12_repair al al 0 0 34 [(0, .ref x0), (1, .int (gI x1))] [] (gi_cv hh) (.inl (some (.int (gI res)))) (gi_cv h1)) (hr44 : ∀ (x0 : Nat) (x1 : Int) (x2 : Int) (hh : gi_H), r44 x0 x1 x2 hh = some (res, h1) → gx_Z mX12_repair al al 0 0 44 [(0, .ref x0), (1, .int (gI x1)), (2, .int (gI x2))] [] (gi_cv hh) (.inl (some (.int (gI res)))) (gi_cv h1)) : ∀ (k : Nat) (v0 : Nat) (v1 : Int) (v2 : Int) (v3 : Int) (h : gi_H), l_X12_repair_56 n r34 r44 k v0 v1 v2 v3 h = some (res, h1) → gx_Z mX12_repair al al 0 0 56 [(0, .ref v0), (1, .int (gI v1)), (2, .int (gI v2)), (3, .int (gI v3))] [] (gi_cv h) (.inl (some (.int (gI res)))) (gi_cv h1)
  | 0, _, _, _, _, _, e => gx_0E e
  | k + 1, _, _, _, _, _, e => zb_X12_repair_56 (n := n) hr34 hr44 (zl_X12_repair_56 hr34 hr44 k) e
set_option maxRecDepth 100000 in
def b_X12_repair_44 (n : Nat) (r34 : Nat → Int → gi_H → Option (Int × gi_H)) (r44 : Nat → Int → Int → gi_H → Option (Int × gi_H)) (v0 : Nat) (v1 : Int) (v2 : Int)  (h : gi_H) : Option (Int × gi_H) :=
  Option.bind (gi_gI h v0 10 17) fun t26 => Option.bind (gi_rg (v2 + v1)) fun _ => Option.bind (gi_rg t26) fun _ => if t26 < (v2 + v1) then (b_X12_repair_78 n r34 v0 v1 h) else (l_X12_repair_56 n r34 r44 n v0 v1 v2 (1 : Int) h)
set_option maxRecDepth 100000 in
theorem zb_X12_repair_44 {al : Bool} {n : Nat} {r34 : Nat → Int → gi_H → Option (Int × gi_H)} {r44 : Nat → Int → Int → gi_H → Option (Int × gi_H)} {res : Int} {h1 : gi_H} (hr34 : ∀ (x0 : Nat) (x1 : Int) (hh : gi_H), r34 x0 x1 hh = some (res, h1) → gx_Z mX12_repair al al 0 0 34 [(0, .ref x0), (1, .int (gI x1))] [] (gi_cv hh) (.inl (some (.int (gI res)))) (gi_cv h1)) (hr44 : ∀ (x0 : Nat) (x1 : Int) (x2 : Int) (hh : gi_H), r44 x0 x1 x2 hh = some (res, h1) → gx_Z mX12_repair al al 0 0 44 [(0, .ref x0), (1, .int (gI x1)), (2, .int (gI x2))] [] (gi_cv hh) (.inl (some (.int (gI res)))) (gi_cv h1)) {v0 : Nat} {v1 : Int} {v2 : Int}  {h : gi_H} (e : b_X12_repair_44 n r34 r44 v0 v1 v2 h = some (res, h1)) : gx_Z mX12_repair al al 0 0 44 [(0, .ref v0), (1, .int (gI v1)), (2, .int (gI v2))] [] (gi_cv h) (.inl (some (.int (gI res)))) (gi_cv h1) := by
  refine gx_iload_n dX12_repair_44 rfl 2 rfl ?_
  refine gx_iload_n dX12_repair_45 rfl 1 rfl ?_
  refine gy_iadd dX12_repair_46 ?_
  refine gx_aload_n dX12_repair_47 rfl 0 rfl ?_
  refine gx_bE e (fun t26 ht26 e => ?_)
  refine gy_fI ht26 dX12_repair_48 gf_RX12_299_10_17 (by decide) gkN_10_17 gkR_10_17 ?_
  refine gx_bE e (fun _ g27 e => ?_)
  refine gx_bE e (fun _ g28 e => ?_)
  refine gx_iE e (fun c29 e => ?_) (fun c29 e => ?_)
  · refine gy_icmp_gt (tgt := 78) (gi_rgS g27) (gi_rgS g28) dX12_repair_51 (by decide) (fun _ => ?_) (fun z => absurd c29 z)
    refine gx_sub (ls2 := [(0, .ref v0), (1, .int (gI v1))]) [0, 1] rfl ?_
    exact zb_X12_repair_78 hr34 e
  · refine gy_icmp_gt (tgt := 78) (gi_rgS g27) (gi_rgS g28) dX12_repair_51 (by decide) (fun z => absurd z c29) (fun _ => ?_)
    refine gy_iconst dX12_repair_54 ?_
    refine gx_istore_n (ls2 := [(3, .int (gI (1 : Int))), (0, .ref v0), (1, .int (gI v1)), (2, .int (gI v2))]) dX12_repair_55 rfl (Nat.le_of_ble_eq_true rfl) rfl ?_
    refine gx_sub (ls2 := [(0, .ref v0), (1, .int (gI v1)), (2, .int (gI v2)), (3, .int (gI (1 : Int)))]) [1, 2, 3, 0] rfl ?_
    exact zl_X12_repair_56 hr34 hr44 n _ _ _ _ _ e
def l_X12_repair_44 (n : Nat) (r34 : Nat → Int → gi_H → Option (Int × gi_H)) : Nat → Nat → Int → Int → gi_H → Option (Int × gi_H)
  | 0, _, _, _, _ => none
  | k + 1, v0, v1, v2, h => b_X12_repair_44 n r34 (l_X12_repair_44 n r34 k) v0 v1 v2 h
theorem zl_X12_repair_44 {al : Bool} {n : Nat} {r34 : Nat → Int → gi_H → Option (Int × gi_H)} {res : Int} {h1 : gi_H} (hr34 : ∀ (x0 : Nat) (x1 : Int) (hh : gi_H), r34 x0 x1 hh = some (res, h1) → gx_Z mX12_repair al al 0 0 34 [(0, .ref x0), (1, .int (gI x1))] [] (gi_cv hh) (.inl (some (.int (gI res)))) (gi_cv h1)) : ∀ (k : Nat) (v0 : Nat) (v1 : Int) (v2 : Int) (h : gi_H), l_X12_repair_44 n r34 k v0 v1 v2 h = some (res, h1) → gx_Z mX12_repair al al 0 0 44 [(0, .ref v0), (1, .int (gI v1)), (2, .int (gI v2))] [] (gi_cv h) (.inl (some (.int (gI res)))) (gi_cv h1)
  | 0, _, _, _, _, e => gx_0E e
  | k + 1, _, _, _, _, e => zb_X12_repair_44 (n := n) hr34 (zl_X12_repair_44 hr34 k) e
set_option maxRecDepth 100000 in
def b_X12_repair_34 (n : Nat) (r34 : Nat → Int → gi_H → Option (Int × gi_H)) (v0 : Nat) (v1 : Int)  (h : gi_H) : Option (Int × gi_H) :=
  Option.bind (gi_gI h v0 10 17) fun t6 => Option.bind (gi_rg v1) fun _ => Option.bind (gi_rg t6) fun _ => if t6 < v1 then (b_X12_repair_84 n  v0 h) else (l_X12_repair_44 n r34 n v0 v1 (0 : Int) h)
set_option maxRecDepth 100000 in
theorem zb_X12_repair_34 {al : Bool} {n : Nat} {r34 : Nat → Int → gi_H → Option (Int × gi_H)} {res : Int} {h1 : gi_H} (hr34 : ∀ (x0 : Nat) (x1 : Int) (hh : gi_H), r34 x0 x1 hh = some (res, h1) → gx_Z mX12_repair al al 0 0 34 [(0, .ref x0), (1, .int (gI x1))] [] (gi_cv hh) (.inl (some (.int (gI res)))) (gi_cv h1)) {v0 : Nat} {v1 : Int}  {h : gi_H} (e : b_X12_repair_34 n r34 v0 v1 h = some (res, h1)) : gx_Z mX12_repair al al 0 0 34 [(0, .ref v0), (1, .int (gI v1))] [] (gi_cv h) (.inl (some (.int (gI res)))) (gi_cv h1) := by
  refine gx_iload_n dX12_repair_34 rfl 1 rfl ?_
  refine gx_aload_n dX12_repair_35 rfl 0 rfl ?_
  refine gx_bE e (fun t6 ht6 e => ?_)
  refine gy_fI ht6 dX12_repair_36 gf_RX12_299_10_17 (by decide) gkN_10_17 gkR_10_17 ?_
  refine gx_bE e (fun _ g7 e => ?_)
  refine gx_bE e (fun _ g8 e => ?_)
  refine gx_iE e (fun c9 e => ?_) (fun c9 e => ?_)
  · refine gy_icmp_gt (tgt := 84) (gi_rgS g7) (gi_rgS g8) dX12_repair_39 (by decide) (fun _ => ?_) (fun z => absurd c9 z)
    refine gx_sub (ls2 := [(0, .ref v0)]) [0] rfl ?_
    exact zb_X12_repair_84  e
  · refine gy_icmp_gt (tgt := 84) (gi_rgS g7) (gi_rgS g8) dX12_repair_39 (by decide) (fun z => absurd z c9) (fun _ => ?_)
    refine gy_iconst dX12_repair_42 ?_
    refine gx_istore_n (ls2 := [(2, .int (gI (0 : Int))), (0, .ref v0), (1, .int (gI v1))]) dX12_repair_43 rfl (Nat.le_of_ble_eq_true rfl) rfl ?_
    refine gx_sub (ls2 := [(0, .ref v0), (1, .int (gI v1)), (2, .int (gI (0 : Int)))]) [1, 2, 0] rfl ?_
    exact zl_X12_repair_44 hr34 n _ _ _ _ e
def l_X12_repair_34 (n : Nat)  : Nat → Nat → Int → gi_H → Option (Int × gi_H)
  | 0, _, _, _ => none
  | k + 1, v0, v1, h => b_X12_repair_34 n  (l_X12_repair_34 n  k) v0 v1 h
theorem zl_X12_repair_34 {al : Bool} {n : Nat}  {res : Int} {h1 : gi_H}  : ∀ (k : Nat) (v0 : Nat) (v1 : Int) (h : gi_H), l_X12_repair_34 n  k v0 v1 h = some (res, h1) → gx_Z mX12_repair al al 0 0 34 [(0, .ref v0), (1, .int (gI v1))] [] (gi_cv h) (.inl (some (.int (gI res)))) (gi_cv h1)
  | 0, _, _, _, e => gx_0E e
  | k + 1, _, _, _, e => zb_X12_repair_34 (n := n)  (zl_X12_repair_34  k) e
set_option maxRecDepth 100000 in
def b_X12_repair_32 (n : Nat)  (v0 : Nat)  (h : gi_H) : Option (Int × gi_H) :=
  l_X12_repair_34 n  n v0 (0 : Int) h
set_option maxRecDepth 100000 in
theorem zb_X12_repair_32 {al : Bool} {n : Nat}  {res : Int} {h1 : gi_H}  {v0 : Nat}  {h : gi_H} (e : b_X12_repair_32 n v0 h = some (res, h1)) : gx_Z mX12_repair al al 0 0 32 [(0, .ref v0)] [] (gi_cv h) (.inl (some (.int (gI res)))) (gi_cv h1) := by
  refine gy_iconst dX12_repair_32 ?_
  refine gx_istore_n (ls2 := [(1, .int (gI (0 : Int))), (0, .ref v0)]) dX12_repair_33 rfl (Nat.le_of_ble_eq_true rfl) rfl ?_
  refine gx_sub (ls2 := [(0, .ref v0), (1, .int (gI (0 : Int)))]) [1, 0] rfl ?_
  exact zl_X12_repair_34  n _ _ _ e
set_option maxRecDepth 100000 in
def b_X12_repair_11 (n : Nat) (r11 : Nat → Int → gi_H → Option (Int × gi_H)) (v0 : Nat) (v1 : Int)  (h : gi_H) : Option (Int × gi_H) :=
  Option.bind (gi_rg v1) fun _ => if (2704 : Int) ≤ v1 then (b_X12_repair_32 n  v0 h) else (Option.bind (gi_gR h v0 10 41) fun t36 => Option.bind (gi_s1 h t36 v1 (100 : Int)) fun h37 => gx_nm (v1 + (1 : Int)) fun t38 => r11 v0 t38 h37)
set_option maxRecDepth 100000 in
theorem zb_X12_repair_11 {al : Bool} {n : Nat} {r11 : Nat → Int → gi_H → Option (Int × gi_H)} {res : Int} {h1 : gi_H} (hr11 : ∀ (x0 : Nat) (x1 : Int) (hh : gi_H), r11 x0 x1 hh = some (res, h1) → gx_Z mX12_repair al al 0 0 11 [(0, .ref x0), (1, .int (gI x1))] [] (gi_cv hh) (.inl (some (.int (gI res)))) (gi_cv h1)) {v0 : Nat} {v1 : Int}  {h : gi_H} (e : b_X12_repair_11 n r11 v0 v1 h = some (res, h1)) : gx_Z mX12_repair al al 0 0 11 [(0, .ref v0), (1, .int (gI v1))] [] (gi_cv h) (.inl (some (.int (gI res)))) (gi_cv h1) := by
  refine gx_iload_n dX12_repair_11 rfl 1 rfl ?_
  refine gy_sipush dX12_repair_12 gcs_2704 ?_
  refine gx_bE e (fun _ g4 e => ?_)
  refine gx_iE e (fun c5 e => ?_) (fun c5 e => ?_)
  · refine gy_icmp_ge (tgt := 32) (gi_rgS g4) (by decide) dX12_repair_15 (by decide) (fun _ => ?_) (fun z => absurd c5 z)
    refine gx_sub (ls2 := [(0, .ref v0)]) [0] rfl ?_
    exact zb_X12_repair_32  e
  · refine gy_icmp_ge (tgt := 32) (gi_rgS g4) (by decide) dX12_repair_15 (by decide) (fun z => absurd z c5) (fun _ => ?_)
    refine gx_aload_n dX12_repair_18 rfl 0 rfl ?_
    refine gx_bE e (fun t36 ht36 e => ?_)
    refine gy_fR ht36 dX12_repair_19 gf_RX12_95_10_41 (by decide) gkN_10_41 gkR_10_41 ?_
    refine gx_iload_n dX12_repair_22 rfl 1 rfl ?_
    refine gy_bipush dX12_repair_23 gcb_100 ?_
    refine gx_bE e (fun h37 hh37 e => ?_)
    refine gy_t1 hh37 dX12_repair_25 ?_
    refine gx_nE e (fun t38 ht38 e => ?_)
    refine gy_iinc (v := t38) (ls2 := [(1, .int (gI t38)), (0, .ref v0)]) dX12_repair_26 1 rfl ht38 (Nat.le_of_ble_eq_true rfl) rfl ?_
    refine gx_goto (tgt := 11) dX12_repair_29 (by decide) ?_
    refine gx_sub (ls2 := [(0, .ref v0), (1, .int (gI t38))]) [1, 0] rfl ?_
    exact hr11 _ _ _ e
def l_X12_repair_11 (n : Nat)  : Nat → Nat → Int → gi_H → Option (Int × gi_H)
  | 0, _, _, _ => none
  | k + 1, v0, v1, h => b_X12_repair_11 n  (l_X12_repair_11 n  k) v0 v1 h
theorem zl_X12_repair_11 {al : Bool} {n : Nat}  {res : Int} {h1 : gi_H}  : ∀ (k : Nat) (v0 : Nat) (v1 : Int) (h : gi_H), l_X12_repair_11 n  k v0 v1 h = some (res, h1) → gx_Z mX12_repair al al 0 0 11 [(0, .ref v0), (1, .int (gI v1))] [] (gi_cv h) (.inl (some (.int (gI res)))) (gi_cv h1)
  | 0, _, _, _, e => gx_0E e
  | k + 1, _, _, _, e => zb_X12_repair_11 (n := n)  (zl_X12_repair_11  k) e
set_option maxRecDepth 100000 in
def f_X12_repair (n : Nat) (v0 : Nat) (h : gi_H) : Option (Int × gi_H) :=
  Option.bind (gi_pI h v0 10 44 (0 : Int)) fun h1 => Option.bind (gi_is h1 v0 10) fun _ => Option.bind (f_X12_finds n v0 h1) fun q3 => l_X12_repair_11 n  n v0 (0 : Int) q3
set_option maxRecDepth 100000 in
theorem z_X12_repair {al : Bool} {n : Nat} {v0 : Nat} {h : gi_H} {res : Int} {h1 : gi_H} (e : f_X12_repair n v0 h = some (res, h1)) : gx_Cw mX12_repair al [.ref v0] (gi_cv h) (.inl (some (.int (gI res)))) (gi_cv h1) := by
  refine gx_enter (by decide +kernel) rfl (Nat.le_of_ble_eq_true rfl) ?_
  show gx_Z mX12_repair al al 0 0 0 [(0, .ref v0)] [] (gi_cv h) (.inl (some (.int (gI res)))) (gi_cv h1)
  refine gx_aload_n dX12_repair_0 rfl 0 rfl ?_
  refine gy_iconst dX12_repair_1 ?_
  refine gx_bE e (fun h1 hh1 e => ?_)
  refine gy_qI hh1 dX12_repair_2 gf_RX12_104_10_44 (by decide) gkN_10_44 rfl (Or.inl rfl) ?_
  refine gx_aload_n dX12_repair_5 rfl 0 rfl ?_
  refine gx_bE e (fun _ hu2 e => ?_)
  refine gx_bE e (fun q3 hq3 e => ?_)
  refine gx_callV (n := 0) (st := []) (As := []) (b := v0) dX12_repair_6 (z_X12_finds hq3) rfl ⟨rfl, gw_cw_X12_finds, gw_14, gp_X12_finds, ⟨Nat.le_of_ble_eq_true rfl, Nat.le_of_ble_eq_true rfl⟩⟩ (gi_isS hu2) (by decide) gw_1587 gw_1589 gs_72 rfl ⟨Nat.le_of_ble_eq_true rfl, Nat.le_of_ble_eq_true rfl⟩ (Nat.le_of_ble_eq_true rfl) (gy_k0 (kc2 := 0) (ks2 := 0) ⟨rfl, rfl⟩ ?_) gy_kn
  refine gy_iconst dX12_repair_9 ?_
  refine gx_istore_n (ls2 := [(1, .int (gI (0 : Int))), (0, .ref v0)]) dX12_repair_10 rfl (Nat.le_of_ble_eq_true rfl) rfl ?_
  refine gx_sub (ls2 := [(0, .ref v0), (1, .int (gI (0 : Int)))]) [1, 0] rfl ?_
  exact zl_X12_repair_11  n _ _ _ e
