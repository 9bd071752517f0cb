/-! X3_findLeasts  -/
set_option maxRecDepth 100000 in
def b_X3_findLeasts_142 (n : Nat) (r33 : Nat → Int → Int → gi_H → Option (gi_H)) (v0 : Nat) (v1 : Int) (v2 : Int)  (h : gi_H) : Option (gi_H) :=
  gx_nm (v2 + (1 : Int)) fun t15 => r33 v0 v1 t15 h
set_option maxRecDepth 100000 in
theorem zb_X3_findLeasts_142 {al : Bool} {n : Nat} {r33 : Nat → Int → Int → gi_H → Option (gi_H)} {h1 : gi_H} (hr33 : ∀ (x0 : Nat) (x1 : Int) (x2 : Int) (hh : gi_H), r33 x0 x1 x2 hh = some h1 → gx_Z mX3_findLeasts al al 0 0 33 [(0, .ref x0), (1, .int (gI x1)), (2, .int (gI x2))] [] (gi_cv hh) (.inl none) (gi_cv h1)) {v0 : Nat} {v1 : Int} {v2 : Int}  {h : gi_H} (e : b_X3_findLeasts_142 n r33 v0 v1 v2 h = some h1) : gx_Z mX3_findLeasts al al 0 0 142 [(0, .ref v0), (1, .int (gI v1)), (2, .int (gI v2))] [] (gi_cv h) (.inl none) (gi_cv h1) := by
  refine gx_nE e (fun t15 ht15 e => ?_)
  refine gy_iinc (v := t15) (ls2 := [(2, .int (gI t15)), (0, .ref v0), (1, .int (gI v1))]) dX3_findLeasts_142 2 rfl ht15 (Nat.le_of_ble_eq_true rfl) rfl ?_
  refine gx_goto (tgt := 33) dX3_findLeasts_145 (by decide) ?_
  refine gx_sub (ls2 := [(0, .ref v0), (1, .int (gI v1)), (2, .int (gI t15))]) [1, 2, 0] rfl ?_
  exact hr33 _ _ _ _ e
set_option maxRecDepth 100000 in
def b_X3_findLeasts_136 (n : Nat) (r33 : Nat → Int → Int → gi_H → Option (gi_H)) (r47 : Nat → Int → Int → Int → gi_H → Option (gi_H)) (v0 : Nat) (v1 : Int) (v2 : Int) (v3 : Int)  (h : gi_H) : Option (gi_H) :=
  gx_nm (v3 + (1 : Int)) fun t28 => r47 v0 v1 v2 t28 h
set_option maxRecDepth 100000 in
theorem zb_X3_findLeasts_136 {al : Bool} {n : Nat} {r33 : Nat → Int → Int → gi_H → Option (gi_H)} {r47 : Nat → Int → Int → Int → gi_H → Option (gi_H)} {h1 : gi_H} (hr33 : ∀ (x0 : Nat) (x1 : Int) (x2 : Int) (hh : gi_H), r33 x0 x1 x2 hh = some h1 → gx_Z mX3_findLeasts al al 0 0 33 [(0, .ref x0), (1, .int (gI x1)), (2, .int (gI x2))] [] (gi_cv hh) (.inl none) (gi_cv h1)) (hr47 : ∀ (x0 : Nat) (x1 : Int) (x2 : Int) (x3 : Int) (hh : gi_H), r47 x0 x1 x2 x3 hh = some h1 → gx_Z mX3_findLeasts al al 0 0 47 [(0, .ref x0), (1, .int (gI x1)), (2, .int (gI x2)), (3, .int (gI x3))] [] (gi_cv hh) (.inl none) (gi_cv h1)) {v0 : Nat} {v1 : Int} {v2 : Int} {v3 : Int}  {h : gi_H} (e : b_X3_findLeasts_136 n r33 r47 v0 v1 v2 v3 h = some h1) : gx_Z mX3_findLeasts al al 0 0 136 [(0, .ref v0), (1, .int (gI v1)), (2, .int (gI v2)), (3, .int (gI v3))] [] (gi_cv h) (.inl none) (gi_cv h1) := by
  refine gx_nE e (fun t28 ht28 e => ?_)
  refine gy_iinc (v := t28) (ls2 := [(3, .int (gI t28)), (0, .ref v0), (1, .int (gI v1)), (2, .int (gI v2))]) dX3_findLeasts_136 3 rfl ht28 (Nat.le_of_ble_eq_true rfl) rfl ?_
  refine gx_goto (tgt := 47) dX3_findLeasts_139 (by decide) ?_
  refine gx_sub (ls2 := [(0, .ref v0), (1, .int (gI v1)), (2, .int (gI v2)), (3, .int (gI t28))]) [1, 2, 3, 0] rfl ?_
  exact hr47 _ _ _ _ _ e
set_option maxRecDepth 100000 in
def b_X3_findLeasts_104 (n : Nat) (r33 : Nat → Int → Int → gi_H → Option (gi_H)) (r47 : Nat → Int → Int → Int → gi_H → Option (gi_H)) (v0 : Nat) (v1 : Int) (v2 : Int) (v3 : Int) (v4 : Int) (v5 : Int) (s0 : Int) (h : gi_H) : Option (gi_H) :=
  Option.bind (gi_rg v5) fun _ => if v5 = (-1 : Int) then (b_X3_findLeasts_136 n r33 r47 v0 v1 v2 v3 h) else (Option.bind (gi_rg s0) fun _ => if s0 = 0 then (b_X3_findLeasts_136 n r33 r47 v0 v1 v2 v3 h) else (Option.bind (f_X11_isNonterminal v4 h) fun q31 => Option.bind (gi_rg q31) fun _ => if q31 = 0 then (b_X3_findLeasts_136 n r33 r47 v0 v1 v2 v3 h) else (Option.bind (gi_gR h v0 2 8) fun t34 => Option.bind (gi_s1 h t34 v4 v5) fun h35 => b_X3_findLeasts_136 n r33 r47 v0 (1 : Int) v2 v3 h35)))
set_option maxRecDepth 100000 in
theorem zb_X3_findLeasts_104 {al : Bool} {n : Nat} {r33 : Nat → Int → Int → gi_H → Option (gi_H)} {r47 : Nat → Int → Int → Int → gi_H → Option (gi_H)} {h1 : gi_H} (hr33 : ∀ (x0 : Nat) (x1 : Int) (x2 : Int) (hh : gi_H), r33 x0 x1 x2 hh = some h1 → gx_Z mX3_findLeasts al al 0 0 33 [(0, .ref x0), (1, .int (gI x1)), (2, .int (gI x2))] [] (gi_cv hh) (.inl none) (gi_cv h1)) (hr47 : ∀ (x0 : Nat) (x1 : Int) (x2 : Int) (x3 : Int) (hh : gi_H), r47 x0 x1 x2 x3 hh = some h1 → gx_Z mX3_findLeasts al al 0 0 47 [(0, .ref x0), (1, .int (gI x1)), (2, .int (gI x2)), (3, .int (gI x3))] [] (gi_cv hh) (.inl none) (gi_cv h1)) {v0 : Nat} {v1 : Int} {v2 : Int} {v3 : Int} {v4 : Int} {v5 : Int} {s0 : Int} {h : gi_H} (e : b_X3_findLeasts_104 n r33 r47 v0 v1 v2 v3 v4 v5 s0 h = some h1) : gx_Z mX3_findLeasts al al 0 0 104 [(0, .ref v0), (1, .int (gI v1)), (2, .int (gI v2)), (3, .int (gI v3)), (4, .int (gI v4)), (5, .int (gI v5))] [.int (gI s0)] (gi_cv h) (.inl none) (gi_cv h1) := by
  refine gx_istore (ls2 := [(6, .int (gI s0)), (0, .ref v0), (1, .int (gI v1)), (2, .int (gI v2)), (3, .int (gI v3)), (4, .int (gI v4)), (5, .int (gI v5))]) dX3_findLeasts_104 (Nat.le_of_ble_eq_true rfl) rfl ?_
  refine gx_iload dX3_findLeasts_106 6 rfl ?_
  refine gy_iconst dX3_findLeasts_108 ?_
  refine gx_bE e (fun _ g26 e => ?_)
  refine gx_iE e (fun c27 e => ?_) (fun c27 e => ?_)
  · refine gy_icmp_eq (tgt := 136) (gi_rgS g26) (by decide) dX3_findLeasts_109 (by decide) (fun _ => ?_) (fun z => absurd c27 z)
    refine gx_sub (ls2 := [(0, .ref v0), (1, .int (gI v1)), (2, .int (gI v2)), (3, .int (gI v3))]) [1, 2, 3, 4] rfl ?_
    exact zb_X3_findLeasts_136 hr33 hr47 e
  · refine gy_icmp_eq (tgt := 136) (gi_rgS g26) (by decide) dX3_findLeasts_109 (by decide) (fun z => absurd z c27) (fun _ => ?_)
    refine gx_iload dX3_findLeasts_112 0 rfl ?_
    refine gx_bE e (fun _ g29 e => ?_)
    refine gx_iE e (fun c30 e => ?_) (fun c30 e => ?_)
    · refine gy_if_eq (tgt := 136) (gi_rgS g29) dX3_findLeasts_114 (by decide) (fun _ => ?_) (fun z => absurd c30 z)
      refine gx_sub (ls2 := [(0, .ref v0), (1, .int (gI v1)), (2, .int (gI v2)), (3, .int (gI v3))]) [1, 2, 3, 4] rfl ?_
      exact zb_X3_findLeasts_136 hr33 hr47 e
    · refine gy_if_eq (tgt := 136) (gi_rgS g29) dX3_findLeasts_114 (by decide) (fun z => absurd z c30) (fun _ => ?_)
      refine gx_iload dX3_findLeasts_117 5 rfl ?_
      refine gx_bE e (fun q31 hq31 e => ?_)
      refine gx_callSN (n := 1) (st := []) (As := [.int (gI v4)]) dX3_findLeasts_119 (z_X11_isNonterminal hq31) rfl ⟨rfl, gw_cw_X11_isNonterminal, gw_1, gp_X11_isNonterminal, ⟨Nat.le_of_ble_eq_true rfl, Nat.le_of_ble_eq_true rfl⟩⟩ (host := "Grammarsmith") (by decide +kernel) gw_451 ⟨Nat.le_of_ble_eq_true rfl, Nat.le_of_ble_eq_true rfl⟩ (Nat.le_of_ble_eq_true rfl) (gy_k1 (x := .int (gI q31)) (kc2 := 0) (ks2 := 0) ⟨rfl, rfl⟩ ?_) gy_kn
      refine gx_bE e (fun _ g32 e => ?_)
      refine gx_iE e (fun c33 e => ?_) (fun c33 e => ?_)
      · refine gy_if_eq (tgt := 136) (gi_rgS g32) dX3_findLeasts_122 (by decide) (fun _ => ?_) (fun z => absurd c33 z)
        refine gx_sub (ls2 := [(0, .ref v0), (1, .int (gI v1)), (2, .int (gI v2)), (3, .int (gI v3))]) [1, 2, 3, 4] rfl ?_
        exact zb_X3_findLeasts_136 hr33 hr47 e
      · refine gy_if_eq (tgt := 136) (gi_rgS g32) dX3_findLeasts_122 (by decide) (fun z => absurd z c33) (fun _ => ?_)
        refine gx_aload_n dX3_findLeasts_125 rfl 1 rfl ?_
        refine gx_bE e (fun t34 ht34 e => ?_)
        refine gy_fR ht34 dX3_findLeasts_126 gf_RX3_21_2_8 (by decide) gkN_2_8 gkR_2_8 ?_
        refine gx_iload dX3_findLeasts_129 5 rfl ?_
        refine gx_iload dX3_findLeasts_131 6 rfl ?_
        refine gx_bE e (fun h35 hh35 e => ?_)
        refine gy_t1 hh35 dX3_findLeasts_133 ?_
        refine gy_iconst dX3_findLeasts_134 ?_
        refine gx_istore_n (ls2 := [(1, .int (gI (1 : Int))), (6, .int (gI s0)), (0, .ref v0), (2, .int (gI v2)), (3, .int (gI v3)), (4, .int (gI v4)), (5, .int (gI v5))]) dX3_findLeasts_135 rfl (Nat.le_of_ble_eq_true rfl) rfl ?_
        refine gx_sub (ls2 := [(0, .ref v0), (1, .int (gI (1 : Int))), (2, .int (gI v2)), (3, .int (gI v3))]) [2, 0, 3, 4] rfl ?_
        exact zb_X3_findLeasts_136 hr33 hr47 e
set_option maxRecDepth 100000 in
def b_X3_findLeasts_99 (n : Nat) (r33 : Nat → Int → Int → gi_H → Option (gi_H)) (r47 : Nat → Int → Int → Int → gi_H → Option (gi_H)) (v0 : Nat) (v1 : Int) (v2 : Int) (v3 : Int) (v4 : Int) (v5 : Int)  (h : gi_H) : Option (gi_H) :=
  b_X3_findLeasts_104 n r33 r47 v0 v1 v2 v3 v4 v5 (1 : Int) h
set_option maxRecDepth 100000 in
theorem zb_X3_findLeasts_99 {al : Bool} {n : Nat} {r33 : Nat → Int → Int → gi_H → Option (gi_H)} {r47 : Nat → Int → Int → Int → gi_H → Option (gi_H)} {h1 : gi_H} (hr33 : ∀ (x0 : Nat) (x1 : Int) (x2 : Int) (hh : gi_H), r33 x0 x1 x2 hh = some h1 → gx_Z mX3_findLeasts al al 0 0 33 [(0, .ref x0), (1, .int (gI x1)), (2, .int (gI x2))] [] (gi_cv hh) (.inl none) (gi_cv h1)) (hr47 : ∀ (x0 : Nat) (x1 : Int) (x2 : Int) (x3 : Int) (hh : gi_H), r47 x0 x1 x2 x3 hh = some h1 → gx_Z mX3_findLeasts al al 0 0 47 [(0, .ref x0), (1, .int (gI x1)), (2, .int (gI x2)), (3, .int (gI x3))] [] (gi_cv hh) (.inl none) (gi_cv h1)) {v0 : Nat} {v1 : Int} {v2 : Int} {v3 : Int} {v4 : Int} {v5 : Int}  {h : gi_H} (e : b_X3_findLeasts_99 n r33 r47 v0 v1 v2 v3 v4 v5 h = some h1) : gx_Z mX3_findLeasts al al 0 0 99 [(0, .ref v0), (1, .int (gI v1)), (2, .int (gI v2)), (3, .int (gI v3)), (4, .int (gI v4)), (5, .int (gI v5))] [] (gi_cv h) (.inl none) (gi_cv h1) := by
  refine gy_iconst dX3_findLeasts_99 ?_
  refine gx_goto (tgt := 104) dX3_findLeasts_100 (by decide) ?_
  exact zb_X3_findLeasts_104 hr33 hr47 e
set_option maxRecDepth 100000 in
def b_X3_findLeasts_47 (n : Nat) (r33 : Nat → Int → Int → gi_H → Option (gi_H)) (r47 : Nat → Int → Int → Int → gi_H → Option (gi_H)) (v0 : Nat) (v1 : Int) (v2 : Int) (v3 : Int)  (h : gi_H) : Option (gi_H) :=
  Option.bind (gi_gR h v0 2 0) fun t9 => Option.bind (gi_is h t9 3) fun _ => Option.bind (f_X4_count t9 h) fun q11 => Option.bind (gi_rg v3) fun _ => Option.bind (gi_rg q11) fun _ => if q11 ≤ v3 then (b_X3_findLeasts_142 n r33 v0 v1 v2 h) else (Option.bind (gi_gR h v0 2 0) fun t16 => Option.bind (gi_is h t16 3) fun _ => Option.bind (f_X4_owner t16 v3 h) fun q18 => gx_nm ((16 : Int) + q18) fun t19 => Option.bind (gi_is h v0 2) fun _ => Option.bind (f_X3_leastOfRight n v0 v3 h) fun q21 => Option.bind (gi_is h v0 2) fun _ => Option.bind (f_X3_leastOf v0 t19 h) fun q23 => Option.bind (gi_rg q23) fun _ => if q23 = (-1 : Int) then (b_X3_findLeasts_99 n r33 r47 v0 v1 v2 v3 t19 q21 h) else (Option.bind (gi_is h v0 2) fun _ => Option.bind (f_X3_leastOf v0 t19 h) fun q37 => Option.bind (gi_rg q21) fun _ => Option.bind (gi_rg q37) fun _ => if q37 ≤ q21 then (b_X3_findLeasts_104 n r33 r47 v0 v1 v2 v3 t19 q21 (0 : Int) h) else (b_X3_findLeasts_99 n r33 r47 v0 v1 v2 v3 t19 q21 h)))
set_option maxRecDepth 100000 in
theorem zb_X3_findLeasts_47 {al : Bool} {n : Nat} {r33 : Nat → Int → Int → gi_H → Option (gi_H)} {r47 : Nat → Int → Int → Int → gi_H → Option (gi_H)} {h1 : gi_H} (hr33 : ∀ (x0 : Nat) (x1 : Int) (x2 : Int) (hh : gi_H), r33 x0 x1 x2 hh = some h1 → gx_Z mX3_findLeasts al al 0 0 33 [(0, .ref x0), (1, .int (gI x1)), (2, .int (gI x2))] [] (gi_cv hh) (.inl none) (gi_cv h1)) (hr47 : ∀ (x0 : Nat) (x1 : Int) (x2 : Int) (x3 : Int) (hh : gi_H), r47 x0 x1 x2 x3 hh = some h1 → gx_Z mX3_findLeasts al al 0 0 47 [(0, .ref x0), (1, .int (gI x1)), (2, .int (gI x2)), (3, .int (gI x3))] [] (gi_cv hh) (.inl none) (gi_cv h1)) {v0 : Nat} {v1 : Int} {v2 : Int} {v3 : Int}  {h : gi_H} (e : b_X3_findLeasts_47 n r33 r47 v0 v1 v2 v3 h = some h1) : gx_Z mX3_findLeasts al al 0 0 47 [(0, .ref v0), (1, .int (gI v1)), (2, .int (gI v2)), (3, .int (gI v3))] [] (gi_cv h) (.inl none) (gi_cv h1) := by
  refine gx_iload_n dX3_findLeasts_47 rfl 3 rfl ?_
  refine gx_aload_n dX3_findLeasts_48 rfl 0 rfl ?_
  refine gx_bE e (fun t9 ht9 e => ?_)
  refine gy_fR ht9 dX3_findLeasts_49 gf_RX3_37_2_0 (by decide) gkN_2_0 gkR_2_0 ?_
  refine gx_bE e (fun _ hu10 e => ?_)
  refine gx_bE e (fun q11 hq11 e => ?_)
  refine gx_callV (n := 0) (st := [.int (gI v3)]) (As := []) (b := t9) dX3_findLeasts_52 (z_X4_count hq11) rfl ⟨rfl, gw_cw_X4_count, gw_3, gp_X4_count, ⟨Nat.le_of_ble_eq_true rfl, Nat.le_of_ble_eq_true rfl⟩⟩ (gi_isS hu10) (by decide) gw_414 gw_393 gw_394 rfl ⟨Nat.le_of_ble_eq_true rfl, Nat.le_of_ble_eq_true rfl⟩ (Nat.le_of_ble_eq_true rfl) (gy_k1 (x := .int (gI q11)) (kc2 := 0) (ks2 := 0) ⟨rfl, rfl⟩ ?_) gy_kn
  refine gx_bE e (fun _ g12 e => ?_)
  refine gx_bE e (fun _ g13 e => ?_)
  refine gx_iE e (fun c14 e => ?_) (fun c14 e => ?_)
  · refine gy_icmp_ge (tgt := 142) (gi_rgS g12) (gi_rgS g13) dX3_findLeasts_55 (by decide) (fun _ => ?_) (fun z => absurd c14 z)
    refine gx_sub (ls2 := [(0, .ref v0), (1, .int (gI v1)), (2, .int (gI v2))]) [0, 1, 2] rfl ?_
    exact zb_X3_findLeasts_142 hr33 e
  · refine gy_icmp_ge (tgt := 142) (gi_rgS g12) (gi_rgS g13) dX3_findLeasts_55 (by decide) (fun z => absurd z c14) (fun _ => ?_)
    refine gy_bipush dX3_findLeasts_58 gcb_16 ?_
    refine gx_aload_n dX3_findLeasts_60 rfl 0 rfl ?_
    refine gx_bE e (fun t16 ht16 e => ?_)
    refine gy_fR ht16 dX3_findLeasts_61 gf_RX3_37_2_0 (by decide) gkN_2_0 gkR_2_0 ?_
    refine gx_iload_n dX3_findLeasts_64 rfl 3 rfl ?_
    refine gx_bE e (fun _ hu17 e => ?_)
    refine gx_bE e (fun q18 hq18 e => ?_)
    refine gx_callV (n := 1) (st := [.int (gI (16 : Int))]) (As := [.int (gI v3)]) (b := t16) dX3_findLeasts_65 (z_X4_owner hq18) rfl ⟨rfl, gw_cw_X4_owner, gw_3, gp_X4_owner, ⟨Nat.le_of_ble_eq_true rfl, Nat.le_of_ble_eq_true rfl⟩⟩ (gi_isS hu17) (by decide) gw_415 gw_416 gw_417 rfl ⟨Nat.le_of_ble_eq_true rfl, Nat.le_of_ble_eq_true rfl⟩ (Nat.le_of_ble_eq_true rfl) (gy_k1 (x := .int (gI q18)) (kc2 := 0) (ks2 := 0) ⟨rfl, rfl⟩ ?_) gy_kn
    refine gy_iadd dX3_findLeasts_68 ?_
    refine gx_nE e (fun t19 ht19 e => ?_)
    rw [ht19]
    refine gx_istore (ls2 := [(4, .int (gI t19)), (0, .ref v0), (1, .int (gI v1)), (2, .int (gI v2)), (3, .int (gI v3))]) dX3_findLeasts_69 (Nat.le_of_ble_eq_true rfl) rfl ?_
    refine gx_aload_n dX3_findLeasts_71 rfl 1 rfl ?_
    refine gx_iload_n dX3_findLeasts_72 rfl 4 rfl ?_
    refine gx_bE e (fun _ hu20 e => ?_)
    refine gx_bE e (fun q21 hq21 e => ?_)
    refine gx_callV (n := 1) (st := []) (As := [.int (gI v3)]) (b := v0) dX3_findLeasts_73 (z_X3_leastOfRight hq21) rfl ⟨rfl, gw_cw_X3_leastOfRight, gw_6, gp_X3_leastOfRight, ⟨Nat.le_of_ble_eq_true rfl, Nat.le_of_ble_eq_true rfl⟩⟩ (gi_isS hu20) (by decide) gw_491 gw_493 gs_13 rfl ⟨Nat.le_of_ble_eq_true rfl, Nat.le_of_ble_eq_true rfl⟩ (Nat.le_of_ble_eq_true rfl) (gy_k1 (x := .int (gI q21)) (kc2 := 0) (ks2 := 0) ⟨rfl, rfl⟩ ?_) gy_kn
    refine gx_istore (ls2 := [(5, .int (gI q21)), (4, .int (gI t19)), (0, .ref v0), (1, .int (gI v1)), (2, .int (gI v2)), (3, .int (gI v3))]) dX3_findLeasts_76 (Nat.le_of_ble_eq_true rfl) rfl ?_
    refine gx_aload_n dX3_findLeasts_78 rfl 2 rfl ?_
    refine gx_iload dX3_findLeasts_79 1 rfl ?_
    refine gx_bE e (fun _ hu22 e => ?_)
    refine gx_bE e (fun q23 hq23 e => ?_)
    refine gx_callV (n := 1) (st := []) (As := [.int (gI t19)]) (b := v0) dX3_findLeasts_81 (z_X3_leastOf hq23) rfl ⟨rfl, gw_cw_X3_leastOf, gw_6, gp_X3_leastOf, ⟨Nat.le_of_ble_eq_true rfl, Nat.le_of_ble_eq_true rfl⟩⟩ (gi_isS hu22) (by decide) gw_495 gw_497 gs_14 rfl ⟨Nat.le_of_ble_eq_true rfl, Nat.le_of_ble_eq_true rfl⟩ (Nat.le_of_ble_eq_true rfl) (gy_k1 (x := .int (gI q23)) (kc2 := 0) (ks2 := 0) ⟨rfl, rfl⟩ ?_) gy_kn
    refine gy_iconst dX3_findLeasts_84 ?_
    refine gx_bE e (fun _ g24 e => ?_)
    refine gx_iE e (fun c25 e => ?_) (fun c25 e => ?_)
    · refine gy_icmp_eq (tgt := 99) (gi_rgS g24) (by decide) dX3_findLeasts_85 (by decide) (fun _ => ?_) (fun z => absurd c25 z)
      refine gx_sub (ls2 := [(0, .ref v0), (1, .int (gI v1)), (2, .int (gI v2)), (3, .int (gI v3)), (4, .int (gI t19)), (5, .int (gI q21))]) [2, 3, 4, 5, 1, 0] rfl ?_
      exact zb_X3_findLeasts_99 hr33 hr47 e
    · refine gy_icmp_eq (tgt := 99) (gi_rgS g24) (by decide) dX3_findLeasts_85 (by decide) (fun z => absurd z c25) (fun _ => ?_)
      refine gx_iload dX3_findLeasts_88 0 rfl ?_
      refine gx_aload_n dX3_findLeasts_90 rfl 2 rfl ?_
      refine gx_iload dX3_findLeasts_91 1 rfl ?_
      refine gx_bE e (fun _ hu36 e => ?_)
      refine gx_bE e (fun q37 hq37 e => ?_)
      refine gx_callV (n := 1) (st := [.int (gI q21)]) (As := [.int (gI t19)]) (b := v0) dX3_findLeasts_93 (z_X3_leastOf hq37) rfl ⟨rfl, gw_cw_X3_leastOf, gw_6, gp_X3_leastOf, ⟨Nat.le_of_ble_eq_true rfl, Nat.le_of_ble_eq_true rfl⟩⟩ (gi_isS hu36) (by decide) gw_495 gw_497 gs_14 rfl ⟨Nat.le_of_ble_eq_true rfl, Nat.le_of_ble_eq_true rfl⟩ (Nat.le_of_ble_eq_true rfl) (gy_k1 (x := .int (gI q37)) (kc2 := 0) (ks2 := 0) ⟨rfl, rfl⟩ ?_) gy_kn
      refine gx_bE e (fun _ g38 e => ?_)
      refine gx_bE e (fun _ g39 e => ?_)
      refine gx_iE e (fun c40 e => ?_) (fun c40 e => ?_)
      · refine gy_icmp_ge (tgt := 103) (gi_rgS g38) (gi_rgS g39) dX3_findLeasts_96 (by decide) (fun _ => ?_) (fun z => absurd c40 z)
        refine gy_iconst dX3_findLeasts_103 ?_
        refine gx_sub (ls2 := [(0, .ref v0), (1, .int (gI v1)), (2, .int (gI v2)), (3, .int (gI v3)), (4, .int (gI t19)), (5, .int (gI q21))]) [2, 3, 4, 5, 1, 0] rfl ?_
        exact zb_X3_findLeasts_104 hr33 hr47 e
      · refine gy_icmp_ge (tgt := 103) (gi_rgS g38) (gi_rgS g39) dX3_findLeasts_96 (by decide) (fun z => absurd z c40) (fun _ => ?_)
        refine gx_sub (ls2 := [(0, .ref v0), (1, .int (gI v1)), (2, .int (gI v2)), (3, .int (gI v3)), (4, .int (gI t19)), (5, .int (gI q21))]) [2, 3, 4, 5, 1, 0] rfl ?_
        exact zb_X3_findLeasts_99 hr33 hr47 e
def l_X3_findLeasts_47 (n : Nat) (r33 : Nat → Int → Int → gi_H → Option (gi_H)) : Nat → Nat → Int → Int → Int → gi_H → Option (gi_H)
  | 0, _, _, _, _, _ => none
  | k + 1, v0, v1, v2, v3, h => b_X3_findLeasts_47 n r33 (l_X3_findLeasts_47 n r33 k) v0 v1 v2 v3 h
theorem zl_X3_findLeasts_47 {al : Bool} {n : Nat} {r33 : Nat → Int → Int → gi_H → Option (gi_H)} {h1 : gi_H} (hr33 : ∀ (x0 : Nat) (x1 : Int) (x2 : Int) (hh : gi_H), r33 x0 x1 x2 hh = some h1 → gx_Z mX3_findLeasts al al 0 0 33 [(0, .ref x0), (1, .int (gI x1)), (2, .int (gI x2))] [] (gi_cv hh) (.inl none) (gi_cv h1)) : ∀ (k : Nat) (v0 : Nat) (v1 : Int) (v2 : Int) (v3 : Int) (h : gi_H), l_X3_findLeasts_47 n r33 k v0 v1 v2 v3 h = some h1 → gx_Z mX3_findLeasts al al 0 0 47 [(0, .ref v0), (1, .int (gI v1)), (2, .int (gI v2)), (3, .int (gI v3))] [] (gi_cv h) (.inl none) (gi_cv h1)
  | 0, _, _, _, _, _, e => gx_0E e
  | k + 1, _, _, _, _, _, e => zb_X3_findLeasts_47 (n := n) hr33 (zl_X3_findLeasts_47 hr33 k) e
set_option maxRecDepth 100000 in
def b_X3_findLeasts_33 (n : Nat) (r33 : Nat → Int → Int → gi_H → Option (gi_H)) (v0 : Nat) (v1 : Int) (v2 : Int)  (h : gi_H) : Option (gi_H) :=
  Option.bind (gi_rg v2) fun _ => if (1000000 : Int) ≤ v2 then (some h) else (Option.bind (gi_rg v1) fun _ => if v1 = 0 then (some h) else (l_X3_findLeasts_47 n r33 n v0 (0 : Int) v2 (0 : Int) h))
set_option maxRecDepth 100000 in
theorem zb_X3_findLeasts_33 {al : Bool} {n : Nat} {r33 : Nat → Int → Int → gi_H → Option (gi_H)} {h1 : gi_H} (hr33 : ∀ (x0 : Nat) (x1 : Int) (x2 : Int) (hh : gi_H), r33 x0 x1 x2 hh = some h1 → gx_Z mX3_findLeasts al al 0 0 33 [(0, .ref x0), (1, .int (gI x1)), (2, .int (gI x2))] [] (gi_cv hh) (.inl none) (gi_cv h1)) {v0 : Nat} {v1 : Int} {v2 : Int}  {h : gi_H} (e : b_X3_findLeasts_33 n r33 v0 v1 v2 h = some h1) : gx_Z mX3_findLeasts al al 0 0 33 [(0, .ref v0), (1, .int (gI v1)), (2, .int (gI v2))] [] (gi_cv h) (.inl none) (gi_cv h1) := by
  refine gx_iload_n dX3_findLeasts_33 rfl 2 rfl ?_
  refine gy_ldc (n := 1000000) dX3_findLeasts_34 gw_413 (by decide +kernel) ?_
  refine gx_bE e (fun _ g5 e => ?_)
  refine gx_iE e (fun c6 e => ?_) (fun c6 e => ?_)
  · refine gy_icmp_ge (tgt := 148) (gi_rgS g5) (by decide) dX3_findLeasts_36 (by decide) (fun _ => ?_) (fun z => absurd c6 z)
    cases e
    exact gx_vret dX3_findLeasts_148 rfl ⟨Nat.le_of_ble_eq_true rfl, Nat.le_of_ble_eq_true rfl⟩ (fun z => z)
  · refine gy_icmp_ge (tgt := 148) (gi_rgS g5) (by decide) dX3_findLeasts_36 (by decide) (fun z => absurd z c6) (fun _ => ?_)
    refine gx_iload_n dX3_findLeasts_39 rfl 1 rfl ?_
    refine gx_bE e (fun _ g7 e => ?_)
    refine gx_iE e (fun c8 e => ?_) (fun c8 e => ?_)
    · refine gy_if_eq (tgt := 148) (gi_rgS g7) dX3_findLeasts_40 (by decide) (fun _ => ?_) (fun z => absurd c8 z)
      cases e
      exact gx_vret dX3_findLeasts_148 rfl ⟨Nat.le_of_ble_eq_true rfl, Nat.le_of_ble_eq_true rfl⟩ (fun z => z)
    · refine gy_if_eq (tgt := 148) (gi_rgS g7) dX3_findLeasts_40 (by decide) (fun z => absurd z c8) (fun _ => ?_)
      refine gy_iconst dX3_findLeasts_43 ?_
      refine gx_istore_n (ls2 := [(1, .int (gI (0 : Int))), (0, .ref v0), (2, .int (gI v2))]) dX3_findLeasts_44 rfl (Nat.le_of_ble_eq_true rfl) rfl ?_
      refine gy_iconst dX3_findLeasts_45 ?_
      refine gx_istore_n (ls2 := [(3, .int (gI (0 : Int))), (1, .int (gI (0 : Int))), (0, .ref v0), (2, .int (gI v2))]) dX3_findLeasts_46 rfl (Nat.le_of_ble_eq_true rfl) rfl ?_
      refine gx_sub (ls2 := [(0, .ref v0), (1, .int (gI (0 : Int))), (2, .int (gI v2)), (3, .int (gI (0 : Int)))]) [2, 1, 3, 0] rfl ?_
      exact zl_X3_findLeasts_47 hr33 n _ _ _ _ _ e
def l_X3_findLeasts_33 (n : Nat)  : Nat → Nat → Int → Int → gi_H → Option (gi_H)
  | 0, _, _, _, _ => none
  | k + 1, v0, v1, v2, h => b_X3_findLeasts_33 n  (l_X3_findLeasts_33 n  k) v0 v1 v2 h
theorem zl_X3_findLeasts_33 {al : Bool} {n : Nat}  {h1 : gi_H}  : ∀ (k : Nat) (v0 : Nat) (v1 : Int) (v2 : Int) (h : gi_H), l_X3_findLeasts_33 n  k v0 v1 v2 h = some h1 → gx_Z mX3_findLeasts al al 0 0 33 [(0, .ref v0), (1, .int (gI v1)), (2, .int (gI v2))] [] (gi_cv h) (.inl none) (gi_cv h1)
  | 0, _, _, _, _, e => gx_0E e
  | k + 1, _, _, _, _, e => zb_X3_findLeasts_33 (n := n)  (zl_X3_findLeasts_33  k) e
set_option maxRecDepth 100000 in
def b_X3_findLeasts_29 (n : Nat)  (v0 : Nat)  (h : gi_H) : Option (gi_H) :=
  l_X3_findLeasts_33 n  n v0 (1 : Int) (0 : Int) h
set_option maxRecDepth 100000 in
theorem zb_X3_findLeasts_29 {al : Bool} {n : Nat}  {h1 : gi_H}  {v0 : Nat}  {h : gi_H} (e : b_X3_findLeasts_29 n v0 h = some h1) : gx_Z mX3_findLeasts al al 0 0 29 [(0, .ref v0)] [] (gi_cv h) (.inl none) (gi_cv h1) := by
  refine gy_iconst dX3_findLeasts_29 ?_
  refine gx_istore_n (ls2 := [(1, .int (gI (1 : Int))), (0, .ref v0)]) dX3_findLeasts_30 rfl (Nat.le_of_ble_eq_true rfl) rfl ?_
  refine gy_iconst dX3_findLeasts_31 ?_
  refine gx_istore_n (ls2 := [(2, .int (gI (0 : Int))), (1, .int (gI (1 : Int))), (0, .ref v0)]) dX3_findLeasts_32 rfl (Nat.le_of_ble_eq_true rfl) rfl ?_
  refine gx_sub (ls2 := [(0, .ref v0), (1, .int (gI (1 : Int))), (2, .int (gI (0 : Int)))]) [2, 1, 0] rfl ?_
  exact zl_X3_findLeasts_33  n _ _ _ _ e
set_option maxRecDepth 100000 in
def b_X3_findLeasts_10 (n : Nat) (r10 : Nat → Int → gi_H → Option (gi_H)) (v0 : Nat) (v1 : Int)  (h : gi_H) : Option (gi_H) :=
  Option.bind (gi_rg v1) fun _ => if (8 : Int) ≤ v1 then (b_X3_findLeasts_29 n  v0 h) else (Option.bind (gi_gR h v0 2 8) fun t41 => Option.bind (gi_s1 h t41 v1 (1 : Int)) fun h42 => gx_nm (v1 + (1 : Int)) fun t43 => r10 v0 t43 h42)
set_option maxRecDepth 100000 in
theorem zb_X3_findLeasts_10 {al : Bool} {n : Nat} {r10 : Nat → Int → gi_H → Option (gi_H)} {h1 : gi_H} (hr10 : ∀ (x0 : Nat) (x1 : Int) (hh : gi_H), r10 x0 x1 hh = some h1 → gx_Z mX3_findLeasts al al 0 0 10 [(0, .ref x0), (1, .int (gI x1))] [] (gi_cv hh) (.inl none) (gi_cv h1)) {v0 : Nat} {v1 : Int}  {h : gi_H} (e : b_X3_findLeasts_10 n r10 v0 v1 h = some h1) : gx_Z mX3_findLeasts al al 0 0 10 [(0, .ref v0), (1, .int (gI v1))] [] (gi_cv h) (.inl none) (gi_cv h1) := by
  refine gx_iload_n dX3_findLeasts_10 rfl 1 rfl ?_
  refine gy_bipush dX3_findLeasts_11 gcb_8 ?_
  refine gx_bE e (fun _ g3 e => ?_)
  refine gx_iE e (fun c4 e => ?_) (fun c4 e => ?_)
  · refine gy_icmp_ge (tgt := 29) (gi_rgS g3) (by decide) dX3_findLeasts_13 (by decide) (fun _ => ?_) (fun z => absurd c4 z)
    refine gx_sub (ls2 := [(0, .ref v0)]) [0] rfl ?_
    exact zb_X3_findLeasts_29  e
  · refine gy_icmp_ge (tgt := 29) (gi_rgS g3) (by decide) dX3_findLeasts_13 (by decide) (fun z => absurd z c4) (fun _ => ?_)
    refine gx_aload_n dX3_findLeasts_16 rfl 0 rfl ?_
    refine gx_bE e (fun t41 ht41 e => ?_)
    refine gy_fR ht41 dX3_findLeasts_17 gf_RX3_21_2_8 (by decide) gkN_2_8 gkR_2_8 ?_
    refine gx_iload_n dX3_findLeasts_20 rfl 1 rfl ?_
    refine gy_iconst dX3_findLeasts_21 ?_
    refine gx_bE e (fun h42 hh42 e => ?_)
    refine gy_t1 hh42 dX3_findLeasts_22 ?_
    refine gx_nE e (fun t43 ht43 e => ?_)
    refine gy_iinc (v := t43) (ls2 := [(1, .int (gI t43)), (0, .ref v0)]) dX3_findLeasts_23 1 rfl ht43 (Nat.le_of_ble_eq_true rfl) rfl ?_
    refine gx_goto (tgt := 10) dX3_findLeasts_26 (by decide) ?_
    refine gx_sub (ls2 := [(0, .ref v0), (1, .int (gI t43))]) [1, 0] rfl ?_
    exact hr10 _ _ _ e
def l_X3_findLeasts_10 (n : Nat)  : Nat → Nat → Int → gi_H → Option (gi_H)
  | 0, _, _, _ => none
  | k + 1, v0, v1, h => b_X3_findLeasts_10 n  (l_X3_findLeasts_10 n  k) v0 v1 h
theorem zl_X3_findLeasts_10 {al : Bool} {n : Nat}  {h1 : gi_H}  : ∀ (k : Nat) (v0 : Nat) (v1 : Int) (h : gi_H), l_X3_findLeasts_10 n  k v0 v1 h = some h1 → gx_Z mX3_findLeasts al al 0 0 10 [(0, .ref v0), (1, .int (gI v1))] [] (gi_cv h) (.inl none) (gi_cv h1)
  | 0, _, _, _, e => gx_0E e
  | k + 1, _, _, _, e => zb_X3_findLeasts_10 (n := n)  (zl_X3_findLeasts_10  k) e
set_option maxRecDepth 100000 in
def f_X3_findLeasts (n : Nat) (v0 : Nat) (h : gi_H) : Option (gi_H) :=
  Option.bind (gi_gR h v0 2 8) fun t1 => Option.bind (f_J7_fill_53178 n t1 (-1 : Int) h) fun q2 => l_X3_findLeasts_10 n  n v0 (0 : Int) q2
set_option maxRecDepth 100000 in
theorem z_X3_findLeasts {al : Bool} {n : Nat} {v0 : Nat} {h : gi_H} {h1 : gi_H} (e : f_X3_findLeasts n v0 h = some h1) : gx_Cw mX3_findLeasts al [.ref v0] (gi_cv h) (.inl none) (gi_cv h1) := by
  refine gx_enter (by decide +kernel) rfl (Nat.le_of_ble_eq_true rfl) ?_
  show gx_Z mX3_findLeasts al al 0 0 0 [(0, .ref v0)] [] (gi_cv h) (.inl none) (gi_cv h1)
  refine gx_aload_n dX3_findLeasts_0 rfl 0 rfl ?_
  refine gx_bE e (fun t1 ht1 e => ?_)
  refine gy_fR ht1 dX3_findLeasts_1 gf_RX3_21_2_8 (by decide) gkN_2_8 gkR_2_8 ?_
  refine gy_iconst dX3_findLeasts_4 ?_
  refine gx_bE e (fun q2 hq2 e => ?_)
  refine gx_callS (n := 2) (st := []) (As := [.ref t1, .int (gI (-1 : Int))]) dX3_findLeasts_5 (z_J7_fill_53178 hq2) rfl ⟨rfl, gw_cw_J7_fill_53178, gw_5, gp_J7_fill_53178, ⟨Nat.le_of_ble_eq_true rfl, Nat.le_of_ble_eq_true rfl⟩⟩ gw_412 gw_99 ⟨Nat.le_of_ble_eq_true rfl, Nat.le_of_ble_eq_true rfl⟩ (Nat.le_of_ble_eq_true rfl) (gy_k0 (kc2 := 0) (ks2 := 0) ⟨rfl, rfl⟩ ?_) gy_kn
  refine gy_iconst dX3_findLeasts_8 ?_
  refine gx_istore_n (ls2 := [(1, .int (gI (0 : Int))), (0, .ref v0)]) dX3_findLeasts_9 rfl (Nat.le_of_ble_eq_true rfl) rfl ?_
  refine gx_sub (ls2 := [(0, .ref v0), (1, .int (gI (0 : Int)))]) [1, 0] rfl ?_
  exact zl_X3_findLeasts_10  n _ _ _ e
/-! X3_spell  -/
set_option maxRecDepth 100000 in
def b_X3_spell_54 (n : Nat)    (h : gi_H) : Option (Int) :=
  some (-1 : Int)
set_option maxRecDepth 100000 in
theorem zb_X3_spell_54 {al : Bool} {n : Nat}  {res : Int}    {h : gi_H} (e : b_X3_spell_54 n  h = some res) : gx_Z mX3_spell al al 0 0 54 [] [] (gi_cv h) (.inl (some (.long (gL res)))) (gi_cv h) := by
  refine gy_ldc2 (n := -1) dX3_spell_54 gw_514 (by decide +kernel) ?_
  cases e
  exact gx_lret dX3_spell_57 rfl ⟨Nat.le_of_ble_eq_true rfl, Nat.le_of_ble_eq_true rfl⟩ (fun z => z)
set_option maxRecDepth 100000 in
def b_X3_spell_5 (n : Nat) (r5 : Nat → Int → Int → Int → gi_H → Option (Int)) (v0 : Nat) (v1 : Int) (v2 : Int) (v4 : Int)  (h : gi_H) : Option (Int) :=
  Option.bind (gi_gR h v0 2 0) fun t1 => Option.bind (gi_is h t1 3) fun _ => Option.bind (f_X4_length t1 v1 h) fun q3 => Option.bind (gi_rg v4) fun _ => Option.bind (gi_rg q3) fun _ => if q3 ≤ v4 then (some v2) else (Option.bind (gi_gR h v0 2 0) fun t7 => Option.bind (gi_is h t7 3) fun _ => Option.bind (f_X4_symbol t7 v1 v4 h) fun q9 => Option.bind (gi_rg q9) fun _ => if q9 < 0 then (b_X3_spell_54 n   h) else (if (32 : Int) ≤ q9 then (b_X3_spell_54 n   h) else (Option.bind (gi_gI h v0 2 10) fun t13 => Option.bind (f_X11_has t13 q9 h) fun q14 => Option.bind (gi_rg q14) fun _ => if q14 = 0 then (b_X3_spell_54 n   h) else (Option.bind (gi_gR h v0 2 8) fun t17 => Option.bind (gi_aI h 1 t17 q9) fun t18 => Option.bind (gi_gR h v0 2 9) fun t19 => Option.bind (gi_aL h t19 q9) fun t20 => gx_nm (gi_orL (gi_shlL v2 ((3 : Int) * t18)) t20) fun t21 => gx_nm (v4 + (1 : Int)) fun t22 => r5 v0 v1 t21 t22 h))))
set_option maxRecDepth 100000 in
theorem zb_X3_spell_5 {al : Bool} {n : Nat} {r5 : Nat → Int → Int → Int → gi_H → Option (Int)} {res : Int} (hr5 : ∀ (x0 : Nat) (x1 : Int) (x2 : Int) (x4 : Int) (hh : gi_H), r5 x0 x1 x2 x4 hh = some res → gx_Z mX3_spell al al 0 0 5 [(0, .ref x0), (1, .int (gI x1)), (2, .long (gL x2)), (4, .int (gI x4))] [] (gi_cv hh) (.inl (some (.long (gL res)))) (gi_cv hh)) {v0 : Nat} {v1 : Int} {v2 : Int} {v4 : Int}  {h : gi_H} (e : b_X3_spell_5 n r5 v0 v1 v2 v4 h = some res) : gx_Z mX3_spell al al 0 0 5 [(0, .ref v0), (1, .int (gI v1)), (2, .long (gL v2)), (4, .int (gI v4))] [] (gi_cv h) (.inl (some (.long (gL res)))) (gi_cv h) := by
  refine gx_iload dX3_spell_5 3 rfl ?_
  refine gx_aload_n dX3_spell_7 rfl 0 rfl ?_
  refine gx_bE e (fun t1 ht1 e => ?_)
  refine gy_fR ht1 dX3_spell_8 gf_RX3_37_2_0 (by decide) gkN_2_0 gkR_2_0 ?_
  refine gx_iload_n dX3_spell_11 rfl 1 rfl ?_
  refine gx_bE e (fun _ hu2 e => ?_)
  refine gx_bE e (fun q3 hq3 e => ?_)
  refine gx_callV (n := 1) (st := [.int (gI v4)]) (As := [.int (gI v1)]) (b := t1) dX3_spell_12 (z_X4_length hq3) rfl ⟨rfl, gw_cw_X4_length, gw_3, gp_X4_length, ⟨Nat.le_of_ble_eq_true rfl, Nat.le_of_ble_eq_true rfl⟩⟩ (gi_isS hu2) (by decide) gw_423 gw_424 gw_425 rfl ⟨Nat.le_of_ble_eq_true rfl, Nat.le_of_ble_eq_true rfl⟩ (Nat.le_of_ble_eq_true rfl) (gy_k1 (x := .int (gI q3)) (kc2 := 0) (ks2 := 0) ⟨rfl, rfl⟩ ?_) gy_kn
  refine gx_bE e (fun _ g4 e => ?_)
  refine gx_bE e (fun _ g5 e => ?_)
  refine gx_iE e (fun c6 e => ?_) (fun c6 e => ?_)
  · refine gy_icmp_ge (tgt := 84) (gi_rgS g4) (gi_rgS g5) dX3_spell_15 (by decide) (fun _ => ?_) (fun z => absurd c6 z)
    refine gx_lload_n dX3_spell_84 rfl 2 rfl ?_
    cases e
    exact gx_lret dX3_spell_85 rfl ⟨Nat.le_of_ble_eq_true rfl, Nat.le_of_ble_eq_true rfl⟩ (fun z => z)
  · refine gy_icmp_ge (tgt := 84) (gi_rgS g4) (gi_rgS g5) dX3_spell_15 (by decide) (fun z => absurd z c6) (fun _ => ?_)
    refine gx_aload_n dX3_spell_18 rfl 0 rfl ?_
    refine gx_bE e (fun t7 ht7 e => ?_)
    refine gy_fR ht7 dX3_spell_19 gf_RX3_37_2_0 (by decide) gkN_2_0 gkR_2_0 ?_
    refine gx_iload_n dX3_spell_22 rfl 1 rfl ?_
    refine gx_iload dX3_spell_23 3 rfl ?_
    refine gx_bE e (fun _ hu8 e => ?_)
    refine gx_bE e (fun q9 hq9 e => ?_)
    refine gx_callV (n := 2) (st := []) (As := [.int (gI v1), .int (gI v4)]) (b := t7) dX3_spell_25 (z_X4_symbol hq9) rfl ⟨rfl, gw_cw_X4_symbol, gw_3, gp_X4_symbol, ⟨Nat.le_of_ble_eq_true rfl, Nat.le_of_ble_eq_true rfl⟩⟩ (gi_isS hu8) (by decide) gw_427 gw_428 gw_429 rfl ⟨Nat.le_of_ble_eq_true rfl, Nat.le_of_ble_eq_true rfl⟩ (Nat.le_of_ble_eq_true rfl) (gy_k1 (x := .int (gI q9)) (kc2 := 0) (ks2 := 0) ⟨rfl, rfl⟩ ?_) gy_kn
    refine gx_istore (ls2 := [(5, .int (gI q9)), (0, .ref v0), (1, .int (gI v1)), (2, .long (gL v2)), (4, .int (gI v4))]) dX3_spell_28 (Nat.le_of_ble_eq_true rfl) rfl ?_
    refine gx_iload dX3_spell_30 0 rfl ?_
    refine gx_bE e (fun _ g10 e => ?_)
    refine gx_iE e (fun c11 e => ?_) (fun c11 e => ?_)
    · refine gy_if_lt (tgt := 54) (gi_rgS g10) dX3_spell_32 (by decide) (fun _ => ?_) (fun z => absurd c11 z)
      refine gx_sub (ls2 := []) [] rfl ?_
      exact zb_X3_spell_54  e
    · refine gy_if_lt (tgt := 54) (gi_rgS g10) dX3_spell_32 (by decide) (fun z => absurd z c11) (fun _ => ?_)
      refine gx_iload dX3_spell_35 0 rfl ?_
      refine gy_bipush dX3_spell_37 gcb_32 ?_
      refine gx_iE e (fun c12 e => ?_) (fun c12 e => ?_)
      · refine gy_icmp_ge (tgt := 54) (gi_rgS g10) (by decide) dX3_spell_39 (by decide) (fun _ => ?_) (fun z => absurd c12 z)
        refine gx_sub (ls2 := []) [] rfl ?_
        exact zb_X3_spell_54  e
      · refine gy_icmp_ge (tgt := 54) (gi_rgS g10) (by decide) dX3_spell_39 (by decide) (fun z => absurd z c12) (fun _ => ?_)
        refine gx_aload_n dX3_spell_42 rfl 1 rfl ?_
        refine gx_bE e (fun t13 ht13 e => ?_)
        refine gy_fI ht13 dX3_spell_43 gf_RX3_160_2_10 (by decide) gkN_2_10 gkR_2_10 ?_
        refine gx_iload dX3_spell_46 0 rfl ?_
        refine gx_bE e (fun q14 hq14 e => ?_)
        refine gx_callSN (n := 2) (st := []) (As := [.int (gI t13), .int (gI q9)]) dX3_spell_48 (z_X11_has hq14) rfl ⟨rfl, gw_cw_X11_has, gw_1, gp_X11_has, ⟨Nat.le_of_ble_eq_true rfl, Nat.le_of_ble_eq_true rfl⟩⟩ (host := "Grammarsmith") (by decide +kernel) gw_473 ⟨Nat.le_of_ble_eq_true rfl, Nat.le_of_ble_eq_true rfl⟩ (Nat.le_of_ble_eq_true rfl) (gy_k1 (x := .int (gI q14)) (kc2 := 0) (ks2 := 0) ⟨rfl, rfl⟩ ?_) gy_kn
        refine gx_bE e (fun _ g15 e => ?_)
        refine gx_iE e (fun c16 e => ?_) (fun c16 e => ?_)
        · refine gy_if_ne (tgt := 58) (gi_rgS g15) dX3_spell_51 (by decide) (fun z => absurd c16 z) (fun _ => ?_)
          refine gx_sub (ls2 := []) [] rfl ?_
          exact zb_X3_spell_54  e
        · refine gy_if_ne (tgt := 58) (gi_rgS g15) dX3_spell_51 (by decide) (fun _ => ?_) (fun z => absurd z c16)
          refine gx_lload_n dX3_spell_58 rfl 3 rfl ?_
          refine gy_iconst dX3_spell_59 ?_
          refine gx_aload_n dX3_spell_60 rfl 1 rfl ?_
          refine gx_bE e (fun t17 ht17 e => ?_)
          refine gy_fR ht17 dX3_spell_61 gf_RX3_21_2_8 (by decide) gkN_2_8 gkR_2_8 ?_
          refine gx_iload dX3_spell_64 0 rfl ?_
          refine gx_bE e (fun t18 ht18 e => ?_)
          refine gy_l1 ht18 dX3_spell_66 ?_
          refine gy_imul dX3_spell_67 ?_
          refine gy_lshl dX3_spell_68 ?_
          refine gx_aload_n dX3_spell_69 rfl 1 rfl ?_
          refine gx_bE e (fun t19 ht19 e => ?_)
          refine gy_fR ht19 dX3_spell_70 gf_RX3_24_2_9 (by decide) gkN_2_9 gkR_2_9 ?_
          refine gx_iload dX3_spell_73 0 rfl ?_
          refine gx_bE e (fun t20 ht20 e => ?_)
          refine gy_l2 ht20 dX3_spell_75 ?_
          refine gy_lor dX3_spell_76 ?_
          refine gx_nE e (fun t21 ht21 e => ?_)
          rw [ht21]
          refine gx_lstore_n (ls2 := [(2, .long (gL t21)), (5, .int (gI q9)), (0, .ref v0), (1, .int (gI v1)), (4, .int (gI v4))]) dX3_spell_77 rfl (Nat.le_of_ble_eq_true rfl) rfl ?_
          refine gx_nE e (fun t22 ht22 e => ?_)
          refine gy_iinc (v := t22) (ls2 := [(4, .int (gI t22)), (2, .long (gL t21)), (5, .int (gI q9)), (0, .ref v0), (1, .int (gI v1))]) dX3_spell_78 4 rfl ht22 (Nat.le_of_ble_eq_true rfl) rfl ?_
          refine gx_goto (tgt := 5) dX3_spell_81 (by decide) ?_
          refine gx_sub (ls2 := [(0, .ref v0), (1, .int (gI v1)), (2, .long (gL t21)), (4, .int (gI t22))]) [3, 4, 1, 0] rfl ?_
          exact hr5 _ _ _ _ _ e
def l_X3_spell_5 (n : Nat)  : Nat → Nat → Int → Int → Int → gi_H → Option (Int)
  | 0, _, _, _, _, _ => none
  | k + 1, v0, v1, v2, v4, h => b_X3_spell_5 n  (l_X3_spell_5 n  k) v0 v1 v2 v4 h
theorem zl_X3_spell_5 {al : Bool} {n : Nat}  {res : Int}  : ∀ (k : Nat) (v0 : Nat) (v1 : Int) (v2 : Int) (v4 : Int) (h : gi_H), l_X3_spell_5 n  k v0 v1 v2 v4 h = some res → gx_Z mX3_spell al al 0 0 5 [(0, .ref v0), (1, .int (gI v1)), (2, .long (gL v2)), (4, .int (gI v4))] [] (gi_cv h) (.inl (some (.long (gL res)))) (gi_cv h)
  | 0, _, _, _, _, _, e => gx_0E e
  | k + 1, _, _, _, _, _, e => zb_X3_spell_5 (n := n)  (zl_X3_spell_5  k) e
set_option maxRecDepth 100000 in
def f_X3_spell (n : Nat) (v0 : Nat) (v1 : Int) (h : gi_H) : Option (Int) :=
  l_X3_spell_5 n  n v0 v1 (0 : Int) (0 : Int) h
set_option maxRecDepth 100000 in
theorem z_X3_spell {al : Bool} {n : Nat} {v0 : Nat} {v1 : Int} {h : gi_H} {res : Int} (e : f_X3_spell n v0 v1 h = some res) : gx_Cw mX3_spell al [.ref v0, .int (gI v1)] (gi_cv h) (.inl (some (.long (gL res)))) (gi_cv h) := by
  refine gx_enter (by decide +kernel) rfl (Nat.le_of_ble_eq_true rfl) ?_
  show gx_Z mX3_spell al al 0 0 0 [(0, .ref v0), (1, .int (gI v1))] [] (gi_cv h) (.inl (some (.long (gL res)))) (gi_cv h)
  refine gy_lconst (v := 0) dX3_spell_0 (by decide +kernel) ?_
  refine gx_lstore_n (ls2 := [(2, .long (gL (0 : Int))), (0, .ref v0), (1, .int (gI v1))]) dX3_spell_1 rfl (Nat.le_of_ble_eq_true rfl) rfl ?_
  refine gy_iconst dX3_spell_2 ?_
  refine gx_istore (ls2 := [(4, .int (gI (0 : Int))), (2, .long (gL (0 : Int))), (0, .ref v0), (1, .int (gI v1))]) dX3_spell_3 (Nat.le_of_ble_eq_true rfl) rfl ?_
  refine gx_sub (ls2 := [(0, .ref v0), (1, .int (gI v1)), (2, .long (gL (0 : Int))), (4, .int (gI (0 : Int)))]) [2, 3, 1, 0] rfl ?_
  exact zl_X3_spell_5  n _ _ _ _ _ e
/-! X3_improveSpelling  -/
set_option maxRecDepth 100000 in
def b_X3_improveSpelling_88 (n : Nat)  (v0 : Nat) (v2 : Int) (v4 : Int)  (h : gi_H) : Option (Int × gi_H) :=
  Option.bind (gi_gR h v0 2 9) fun t26 => Option.bind (gi_s2 h t26 v2 v4) fun h27 => Option.bind (gi_gI h27 v0 2 10) fun t28 => Option.bind (gi_pI h27 v0 2 10 (gi_or t28 (gi_shl (1 : Int) v2))) fun h29 => some ((1 : Int), h29)
set_option maxRecDepth 100000 in
theorem zb_X3_improveSpelling_88 {al : Bool} {n : Nat}  {res : Int} {h1 : gi_H}  {v0 : Nat} {v2 : Int} {v4 : Int}  {h : gi_H} (e : b_X3_improveSpelling_88 n v0 v2 v4 h = some (res, h1)) : gx_Z mX3_improveSpelling al al 0 0 88 [(0, .ref v0), (2, .int (gI v2)), (4, .long (gL v4))] [] (gi_cv h) (.inl (some (.int (gI res)))) (gi_cv h1) := by
  refine gx_aload_n dX3_improveSpelling_88 rfl 0 rfl ?_
  refine gx_bE e (fun t26 ht26 e => ?_)
  refine gy_fR ht26 dX3_improveSpelling_89 gf_RX3_24_2_9 (by decide) gkN_2_9 gkR_2_9 ?_
  refine gx_iload_n dX3_improveSpelling_92 rfl 1 rfl ?_
  refine gx_lload dX3_improveSpelling_93 2 rfl ?_
  refine gx_bE e (fun h27 hh27 e => ?_)
  refine gy_t2 hh27 dX3_improveSpelling_95 ?_
  refine gx_aload_n dX3_improveSpelling_96 rfl 0 rfl ?_
  refine gx_dup dX3_improveSpelling_97 rfl ?_
  refine gx_bE e (fun t28 ht28 e => ?_)
  refine gy_fI ht28 dX3_improveSpelling_98 gf_RX3_160_2_10 (by decide) gkN_2_10 gkR_2_10 ?_
  refine gy_iconst dX3_improveSpelling_101 ?_
  refine gx_iload_n dX3_improveSpelling_102 rfl 1 rfl ?_
  refine gy_ishl dX3_improveSpelling_103 ?_
  refine gy_ior dX3_improveSpelling_104 ?_
  refine gx_bE e (fun h29 hh29 e => ?_)
  refine gy_qI hh29 dX3_improveSpelling_105 gf_RX3_160_2_10 (by decide) gkN_2_10 rfl (Or.inl rfl) ?_
  refine gy_iconst dX3_improveSpelling_108 ?_
  cases e
  exact gx_zret (by decide +kernel) dX3_improveSpelling_109 rfl ⟨Nat.le_of_ble_eq_true rfl, Nat.le_of_ble_eq_true rfl⟩ (fun z => z)
set_option maxRecDepth 100000 in
def f_X3_improveSpelling (n : Nat) (v0 : Nat) (v1 : Int) (h : gi_H) : Option (Int × gi_H) :=
  Option.bind (gi_gR h v0 2 0) fun t1 => Option.bind (gi_is h t1 3) fun _ => Option.bind (f_X4_owner t1 v1 h) fun q3 => gx_nm ((16 : Int) + q3) fun t4 => Option.bind (gi_is h v0 2) fun _ => Option.bind (f_X3_leastOfRight n v0 v1 h) fun q6 => Option.bind (gi_rg q6) fun _ => if q6 = (-1 : Int) then (some ((0 : Int), h)) else (if (20 : Int) < q6 then (some ((0 : Int), h)) else (Option.bind (gi_is h v0 2) fun _ => Option.bind (f_X3_leastOf v0 t4 h) fun q11 => Option.bind (gi_rg q11) fun _ => if q6 = q11 then (Option.bind (f_X11_isNonterminal t4 h) fun q14 => Option.bind (gi_rg q14) fun _ => if q14 = 0 then (some ((0 : Int), h)) else (Option.bind (gi_is h v0 2) fun _ => Option.bind (f_X3_spell n v0 v1 h) fun q18 => Option.bind (gi_rgL q18) fun _ => Option.bind (gi_rg (gi_cmp q18 (-1 : Int))) fun _ => if (gi_cmp q18 (-1 : Int)) = 0 then (some ((0 : Int), h)) else (Option.bind (gi_gI h v0 2 10) fun t22 => Option.bind (f_X11_has t22 t4 h) fun q23 => Option.bind (gi_rg q23) fun _ => if q23 = 0 then (b_X3_improveSpelling_88 n  v0 t4 q18 h) else (Option.bind (gi_gR h v0 2 9) fun t30 => Option.bind (gi_aL h t30 t4) fun t31 => Option.bind (gi_rgL t31) fun _ => Option.bind (gi_rg (gi_cmp q18 t31)) fun _ => if (gi_cmp q18 t31) < 0 then (b_X3_improveSpelling_88 n  v0 t4 q18 h) else (some ((0 : Int), h)))))) else (some ((0 : Int), h))))
set_option maxRecDepth 100000 in
theorem z_X3_improveSpelling {al : Bool} {n : Nat} {v0 : Nat} {v1 : Int} {h : gi_H} {res : Int} {h1 : gi_H} (e : f_X3_improveSpelling n v0 v1 h = some (res, h1)) : gx_Cw mX3_improveSpelling al [.ref v0, .int (gI v1)] (gi_cv h) (.inl (some (.int (gI res)))) (gi_cv h1) := by
  refine gx_enter (by decide +kernel) rfl (Nat.le_of_ble_eq_true rfl) ?_
  show gx_Z mX3_improveSpelling al al 0 0 0 [(0, .ref v0), (1, .int (gI v1))] [] (gi_cv h) (.inl (some (.int (gI res)))) (gi_cv h1)
  refine gy_bipush dX3_improveSpelling_0 gcb_16 ?_
  refine gx_aload_n dX3_improveSpelling_2 rfl 0 rfl ?_
  refine gx_bE e (fun t1 ht1 e => ?_)
  refine gy_fR ht1 dX3_improveSpelling_3 gf_RX3_37_2_0 (by decide) gkN_2_0 gkR_2_0 ?_
  refine gx_iload_n dX3_improveSpelling_6 rfl 1 rfl ?_
  refine gx_bE e (fun _ hu2 e => ?_)
  refine gx_bE e (fun q3 hq3 e => ?_)
  refine gx_callV (n := 1) (st := [.int (gI (16 : Int))]) (As := [.int (gI v1)]) (b := t1) dX3_improveSpelling_7 (z_X4_owner hq3) rfl ⟨rfl, gw_cw_X4_owner, gw_3, gp_X4_owner, ⟨Nat.le_of_ble_eq_true rfl, Nat.le_of_ble_eq_true rfl⟩⟩ (gi_isS hu2) (by decide) gw_415 gw_416 gw_417 rfl ⟨Nat.le_of_ble_eq_true rfl, Nat.le_of_ble_eq_true rfl⟩ (Nat.le_of_ble_eq_true rfl) (gy_k1 (x := .int (gI q3)) (kc2 := 0) (ks2 := 0) ⟨rfl, rfl⟩ ?_) gy_kn
  refine gy_iadd dX3_improveSpelling_10 ?_
  refine gx_nE e (fun t4 ht4 e => ?_)
  rw [ht4]
  refine gx_istore_n (ls2 := [(2, .int (gI t4)), (0, .ref v0), (1, .int (gI v1))]) dX3_improveSpelling_11 rfl (Nat.le_of_ble_eq_true rfl) rfl ?_
  refine gx_aload_n dX3_improveSpelling_12 rfl 1 rfl ?_
  refine gx_iload_n dX3_improveSpelling_13 rfl 2 rfl ?_
  refine gx_bE e (fun _ hu5 e => ?_)
  refine gx_bE e (fun q6 hq6 e => ?_)
  refine gx_callV (n := 1) (st := []) (As := [.int (gI v1)]) (b := v0) dX3_improveSpelling_14 (z_X3_leastOfRight hq6) rfl ⟨rfl, gw_cw_X3_leastOfRight, gw_6, gp_X3_leastOfRight, ⟨Nat.le_of_ble_eq_true rfl, Nat.le_of_ble_eq_true rfl⟩⟩ (gi_isS hu5) (by decide) gw_491 gw_493 gs_13 rfl ⟨Nat.le_of_ble_eq_true rfl, Nat.le_of_ble_eq_true rfl⟩ (Nat.le_of_ble_eq_true rfl) (gy_k1 (x := .int (gI q6)) (kc2 := 0) (ks2 := 0) ⟨rfl, rfl⟩ ?_) gy_kn
  refine gx_istore_n (ls2 := [(3, .int (gI q6)), (2, .int (gI t4)), (0, .ref v0), (1, .int (gI v1))]) dX3_improveSpelling_17 rfl (Nat.le_of_ble_eq_true rfl) rfl ?_
  refine gx_iload_n dX3_improveSpelling_18 rfl 0 rfl ?_
  refine gy_iconst dX3_improveSpelling_19 ?_
  refine gx_bE e (fun _ g7 e => ?_)
  refine gx_iE e (fun c8 e => ?_) (fun c8 e => ?_)
  · refine gy_icmp_eq (tgt := 45) (gi_rgS g7) (by decide) dX3_improveSpelling_20 (by decide) (fun _ => ?_) (fun z => absurd c8 z)
    refine gy_iconst dX3_improveSpelling_45 ?_
    cases e
    exact gx_zret (by decide +kernel) dX3_improveSpelling_46 rfl ⟨Nat.le_of_ble_eq_true rfl, Nat.le_of_ble_eq_true rfl⟩ (fun z => z)
  · refine gy_icmp_eq (tgt := 45) (gi_rgS g7) (by decide) dX3_improveSpelling_20 (by decide) (fun z => absurd z c8) (fun _ => ?_)
    refine gx_iload_n dX3_improveSpelling_23 rfl 0 rfl ?_
    refine gy_bipush dX3_improveSpelling_24 gcb_20 ?_
    refine gx_iE e (fun c9 e => ?_) (fun c9 e => ?_)
    · refine gy_icmp_gt (tgt := 45) (gi_rgS g7) (by decide) dX3_improveSpelling_26 (by decide) (fun _ => ?_) (fun z => absurd c9 z)
      refine gy_iconst dX3_improveSpelling_45 ?_
      cases e
      exact gx_zret (by decide +kernel) dX3_improveSpelling_46 rfl ⟨Nat.le_of_ble_eq_true rfl, Nat.le_of_ble_eq_true rfl⟩ (fun z => z)
    · refine gy_icmp_gt (tgt := 45) (gi_rgS g7) (by decide) dX3_improveSpelling_26 (by decide) (fun z => absurd z c9) (fun _ => ?_)
      refine gx_iload_n dX3_improveSpelling_29 rfl 0 rfl ?_
      refine gx_aload_n dX3_improveSpelling_30 rfl 2 rfl ?_
      refine gx_iload_n dX3_improveSpelling_31 rfl 1 rfl ?_
      refine gx_bE e (fun _ hu10 e => ?_)
      refine gx_bE e (fun q11 hq11 e => ?_)
      refine gx_callV (n := 1) (st := [.int (gI q6)]) (As := [.int (gI t4)]) (b := v0) dX3_improveSpelling_32 (z_X3_leastOf hq11) rfl ⟨rfl, gw_cw_X3_leastOf, gw_6, gp_X3_leastOf, ⟨Nat.le_of_ble_eq_true rfl, Nat.le_of_ble_eq_true rfl⟩⟩ (gi_isS hu10) (by decide) gw_495 gw_497 gs_14 rfl ⟨Nat.le_of_ble_eq_true rfl, Nat.le_of_ble_eq_true rfl⟩ (Nat.le_of_ble_eq_true rfl) (gy_k1 (x := .int (gI q11)) (kc2 := 0) (ks2 := 0) ⟨rfl, rfl⟩ ?_) gy_kn
      refine gx_bE e (fun _ g12 e => ?_)
      refine gx_iE e (fun c13 e => ?_) (fun c13 e => ?_)
      · refine gy_icmp_ne (tgt := 45) (gi_rgS g7) (gi_rgS g12) dX3_improveSpelling_35 (by decide) (fun z => absurd c13 z) (fun _ => ?_)
        refine gx_iload_n dX3_improveSpelling_38 rfl 1 rfl ?_
        refine gx_bE e (fun q14 hq14 e => ?_)
        refine gx_callSN (n := 1) (st := []) (As := [.int (gI t4)]) dX3_improveSpelling_39 (z_X11_isNonterminal hq14) rfl ⟨rfl, gw_cw_X11_isNonterminal, gw_1, gp_X11_isNonterminal, ⟨Nat.le_of_ble_eq_true rfl, Nat.le_of_ble_eq_true rfl⟩⟩ (host := "Grammarsmith") (by decide +kernel) gw_451 ⟨Nat.le_of_ble_eq_true rfl, Nat.le_of_ble_eq_true rfl⟩ (Nat.le_of_ble_eq_true rfl) (gy_k1 (x := .int (gI q14)) (kc2 := 0) (ks2 := 0) ⟨rfl, rfl⟩ ?_) gy_kn
        refine gx_bE e (fun _ g15 e => ?_)
        refine gx_iE e (fun c16 e => ?_) (fun c16 e => ?_)
        · refine gy_if_ne (tgt := 47) (gi_rgS g15) dX3_improveSpelling_42 (by decide) (fun z => absurd c16 z) (fun _ => ?_)
          refine gy_iconst dX3_improveSpelling_45 ?_
          cases e
          exact gx_zret (by decide +kernel) dX3_improveSpelling_46 rfl ⟨Nat.le_of_ble_eq_true rfl, Nat.le_of_ble_eq_true rfl⟩ (fun z => z)
        · refine gy_if_ne (tgt := 47) (gi_rgS g15) dX3_improveSpelling_42 (by decide) (fun _ => ?_) (fun z => absurd z c16)
          refine gx_aload_n dX3_improveSpelling_47 rfl 2 rfl ?_
          refine gx_iload_n dX3_improveSpelling_48 rfl 3 rfl ?_
          refine gx_bE e (fun _ hu17 e => ?_)
          refine gx_bE e (fun q18 hq18 e => ?_)
          refine gx_callV (n := 1) (st := []) (As := [.int (gI v1)]) (b := v0) dX3_improveSpelling_49 (z_X3_spell hq18) rfl ⟨rfl, gw_cw_X3_spell, gw_6, gp_X3_spell, ⟨Nat.le_of_ble_eq_true rfl, Nat.le_of_ble_eq_true rfl⟩⟩ (gi_isS hu17) (by decide) gw_510 gw_512 gs_17 rfl ⟨Nat.le_of_ble_eq_true rfl, Nat.le_of_ble_eq_true rfl⟩ (Nat.le_of_ble_eq_true rfl) (gy_k1 (x := .long (gL q18)) (kc2 := 0) (ks2 := 0) ⟨rfl, rfl⟩ ?_) gy_kn
          refine gx_lstore (ls2 := [(4, .long (gL q18)), (3, .int (gI q6)), (2, .int (gI t4)), (0, .ref v0), (1, .int (gI v1))]) dX3_improveSpelling_52 (Nat.le_of_ble_eq_true rfl) rfl ?_
          refine gx_lload dX3_improveSpelling_54 0 rfl ?_
          refine gy_ldc2 (n := -1) dX3_improveSpelling_56 gw_514 (by decide +kernel) ?_
          refine gx_bE e (fun _ g19 e => ?_)
          refine gy_lcmp (gi_rgLS g19) (by decide) dX3_improveSpelling_59 ?_
          refine gx_bE e (fun _ g20 e => ?_)
          refine gx_iE e (fun c21 e => ?_) (fun c21 e => ?_)
          · refine gy_if_eq (tgt := 86) (gi_rgS g20) dX3_improveSpelling_60 (by decide) (fun _ => ?_) (fun z => absurd c21 z)
            refine gy_iconst dX3_improveSpelling_86 ?_
            cases e
            exact gx_zret (by decide +kernel) dX3_improveSpelling_87 rfl ⟨Nat.le_of_ble_eq_true rfl, Nat.le_of_ble_eq_true rfl⟩ (fun z => z)
          · refine gy_if_eq (tgt := 86) (gi_rgS g20) dX3_improveSpelling_60 (by decide) (fun z => absurd z c21) (fun _ => ?_)
            refine gx_aload_n dX3_improveSpelling_63 rfl 3 rfl ?_
            refine gx_bE e (fun t22 ht22 e => ?_)
            refine gy_fI ht22 dX3_improveSpelling_64 gf_RX3_160_2_10 (by decide) gkN_2_10 gkR_2_10 ?_
            refine gx_iload_n dX3_improveSpelling_67 rfl 2 rfl ?_
            refine gx_bE e (fun q23 hq23 e => ?_)
            refine gx_callSN (n := 2) (st := []) (As := [.int (gI t22), .int (gI t4)]) dX3_improveSpelling_68 (z_X11_has hq23) rfl ⟨rfl, gw_cw_X11_has, gw_1, gp_X11_has, ⟨Nat.le_of_ble_eq_true rfl, Nat.le_of_ble_eq_true rfl⟩⟩ (host := "Grammarsmith") (by decide +kernel) gw_473 ⟨Nat.le_of_ble_eq_true rfl, Nat.le_of_ble_eq_true rfl⟩ (Nat.le_of_ble_eq_true rfl) (gy_k1 (x := .int (gI q23)) (kc2 := 0) (ks2 := 0) ⟨rfl, rfl⟩ ?_) gy_kn
            refine gx_bE e (fun _ g24 e => ?_)
            refine gx_iE e (fun c25 e => ?_) (fun c25 e => ?_)
            · refine gy_if_eq (tgt := 88) (gi_rgS g24) dX3_improveSpelling_71 (by decide) (fun _ => ?_) (fun z => absurd c25 z)
              refine gx_sub (ls2 := [(0, .ref v0), (2, .int (gI t4)), (4, .long (gL q18))]) [3, 2, 0] rfl ?_
              exact zb_X3_improveSpelling_88  e
            · refine gy_if_eq (tgt := 88) (gi_rgS g24) dX3_improveSpelling_71 (by decide) (fun z => absurd z c25) (fun _ => ?_)
              refine gx_lload dX3_improveSpelling_74 0 rfl ?_
              refine gx_aload_n dX3_improveSpelling_76 rfl 3 rfl ?_
              refine gx_bE e (fun t30 ht30 e => ?_)
              refine gy_fR ht30 dX3_improveSpelling_77 gf_RX3_24_2_9 (by decide) gkN_2_9 gkR_2_9 ?_
              refine gx_iload_n dX3_improveSpelling_80 rfl 2 rfl ?_
              refine gx_bE e (fun t31 ht31 e => ?_)
              refine gy_l2 ht31 dX3_improveSpelling_81 ?_
              refine gx_bE e (fun _ g32 e => ?_)
              refine gy_lcmp (gi_rgLS g19) (gi_rgLS g32) dX3_improveSpelling_82 ?_
              refine gx_bE e (fun _ g33 e => ?_)
              refine gx_iE e (fun c34 e => ?_) (fun c34 e => ?_)
              · refine gy_if_lt (tgt := 88) (gi_rgS g33) dX3_improveSpelling_83 (by decide) (fun _ => ?_) (fun z => absurd c34 z)
                refine gx_sub (ls2 := [(0, .ref v0), (2, .int (gI t4)), (4, .long (gL q18))]) [3, 2, 0] rfl ?_
                exact zb_X3_improveSpelling_88  e
              · refine gy_if_lt (tgt := 88) (gi_rgS g33) dX3_improveSpelling_83 (by decide) (fun z => absurd z c34) (fun _ => ?_)
                refine gy_iconst dX3_improveSpelling_86 ?_
                cases e
                exact gx_zret (by decide +kernel) dX3_improveSpelling_87 rfl ⟨Nat.le_of_ble_eq_true rfl, Nat.le_of_ble_eq_true rfl⟩ (fun z => z)
      · refine gy_icmp_ne (tgt := 45) (gi_rgS g7) (gi_rgS g12) dX3_improveSpelling_35 (by decide) (fun _ => ?_) (fun z => absurd z c13)
        refine gy_iconst dX3_improveSpelling_45 ?_
        cases e
        exact gx_zret (by decide +kernel) dX3_improveSpelling_46 rfl ⟨Nat.le_of_ble_eq_true rfl, Nat.le_of_ble_eq_true rfl⟩ (fun z => z)
/-! X3_findSpellings  -/
set_option maxRecDepth 100000 in
def b_X3_findSpellings_72 (n : Nat) (r33 : Nat → Int → Int → gi_H → Option (gi_H)) (v0 : Nat) (v1 : Int) (v2 : Int)  (h : gi_H) : Option (gi_H) :=
  gx_nm (v2 + (1 : Int)) fun t14 => r33 v0 v1 t14 h
set_option maxRecDepth 100000 in
theorem zb_X3_findSpellings_72 {al : Bool} {n : Nat} {r33 : Nat → Int → Int → gi_H → Option (gi_H)} {h1 : gi_H} (hr33 : ∀ (x0 : Nat) (x1 : Int) (x2 : Int) (hh : gi_H), r33 x0 x1 x2 hh = some h1 → gx_Z mX3_findSpellings al al 0 0 33 [(0, .ref x0), (1, .int (gI x1)), (2, .int (gI x2))] [] (gi_cv hh) (.inl none) (gi_cv h1)) {v0 : Nat} {v1 : Int} {v2 : Int}  {h : gi_H} (e : b_X3_findSpellings_72 n r33 v0 v1 v2 h = some h1) : gx_Z mX3_findSpellings al al 0 0 72 [(0, .ref v0), (1, .int (gI v1)), (2, .int (gI v2))] [] (gi_cv h) (.inl none) (gi_cv h1) := by
  refine gx_nE e (fun t14 ht14 e => ?_)
  refine gy_iinc (v := t14) (ls2 := [(2, .int (gI t14)), (0, .ref v0), (1, .int (gI v1))]) dX3_findSpellings_72 2 rfl ht14 (Nat.le_of_ble_eq_true rfl) rfl ?_
  refine gx_goto (tgt := 33) dX3_findSpellings_75 (by decide) ?_
  refine gx_sub (ls2 := [(0, .ref v0), (1, .int (gI v1)), (2, .int (gI t14))]) [1, 2, 0] rfl ?_
  exact hr33 _ _ _ _ e
set_option maxRecDepth 100000 in
def b_X3_findSpellings_47 (n : Nat) (r33 : Nat → Int → Int → gi_H → Option (gi_H)) (r47 : Nat → Int → Int → Int → gi_H → Option (gi_H)) (v0 : Nat) (v1 : Int) (v2 : Int) (v3 : Int)  (h : gi_H) : Option (gi_H) :=
  Option.bind (gi_gR h v0 2 0) fun t8 => Option.bind (gi_is h t8 3) fun _ => Option.bind (f_X4_count t8 h) fun q10 => Option.bind (gi_rg v3) fun _ => Option.bind (gi_rg q10) fun _ => if q10 ≤ v3 then (b_X3_findSpellings_72 n r33 v0 v1 v2 h) else (Option.bind (gi_is h v0 2) fun _ => Option.bind (f_X3_improveSpelling n v0 v3 h) fun q16 => gx_nm (gi_or v1 q16.1) fun t17 => gx_nm (v3 + (1 : Int)) fun t18 => r47 v0 t17 v2 t18 q16.2)
set_option maxRecDepth 100000 in
theorem zb_X3_findSpellings_47 {al : Bool} {n : Nat} {r33 : Nat → Int → Int → gi_H → Option (gi_H)} {r47 : Nat → Int → Int → Int → gi_H → Option (gi_H)} {h1 : gi_H} (hr33 : ∀ (x0 : Nat) (x1 : Int) (x2 : Int) (hh : gi_H), r33 x0 x1 x2 hh = some h1 → gx_Z mX3_findSpellings al al 0 0 33 [(0, .ref x0), (1, .int (gI x1)), (2, .int (gI x2))] [] (gi_cv hh) (.inl none) (gi_cv h1)) (hr47 : ∀ (x0 : Nat) (x1 : Int) (x2 : Int) (x3 : Int) (hh : gi_H), r47 x0 x1 x2 x3 hh = some h1 → gx_Z mX3_findSpellings al al 0 0 47 [(0, .ref x0), (1, .int (gI x1)), (2, .int (gI x2)), (3, .int (gI x3))] [] (gi_cv hh) (.inl none) (gi_cv h1)) {v0 : Nat} {v1 : Int} {v2 : Int} {v3 : Int}  {h : gi_H} (e : b_X3_findSpellings_47 n r33 r47 v0 v1 v2 v3 h = some h1) : gx_Z mX3_findSpellings al al 0 0 47 [(0, .ref v0), (1, .int (gI v1)), (2, .int (gI v2)), (3, .int (gI v3))] [] (gi_cv h) (.inl none) (gi_cv h1) := by
  refine gx_iload_n dX3_findSpellings_47 rfl 3 rfl ?_
  refine gx_aload_n dX3_findSpellings_48 rfl 0 rfl ?_
  refine gx_bE e (fun t8 ht8 e => ?_)
  refine gy_fR ht8 dX3_findSpellings_49 gf_RX3_37_2_0 (by decide) gkN_2_0 gkR_2_0 ?_
  refine gx_bE e (fun _ hu9 e => ?_)
  refine gx_bE e (fun q10 hq10 e => ?_)
  refine gx_callV (n := 0) (st := [.int (gI v3)]) (As := []) (b := t8) dX3_findSpellings_52 (z_X4_count hq10) rfl ⟨rfl, gw_cw_X4_count, gw_3, gp_X4_count, ⟨Nat.le_of_ble_eq_true rfl, Nat.le_of_ble_eq_true rfl⟩⟩ (gi_isS hu9) (by decide) gw_414 gw_393 gw_394 rfl ⟨Nat.le_of_ble_eq_true rfl, Nat.le_of_ble_eq_true rfl⟩ (Nat.le_of_ble_eq_true rfl) (gy_k1 (x := .int (gI q10)) (kc2 := 0) (ks2 := 0) ⟨rfl, rfl⟩ ?_) gy_kn
  refine gx_bE e (fun _ g11 e => ?_)
  refine gx_bE e (fun _ g12 e => ?_)
  refine gx_iE e (fun c13 e => ?_) (fun c13 e => ?_)
  · refine gy_icmp_ge (tgt := 72) (gi_rgS g11) (gi_rgS g12) dX3_findSpellings_55 (by decide) (fun _ => ?_) (fun z => absurd c13 z)
    refine gx_sub (ls2 := [(0, .ref v0), (1, .int (gI v1)), (2, .int (gI v2))]) [0, 1, 2] rfl ?_
    exact zb_X3_findSpellings_72 hr33 e
  · refine gy_icmp_ge (tgt := 72) (gi_rgS g11) (gi_rgS g12) dX3_findSpellings_55 (by decide) (fun z => absurd z c13) (fun _ => ?_)
    refine gx_iload_n dX3_findSpellings_58 rfl 1 rfl ?_
    refine gx_aload_n dX3_findSpellings_59 rfl 0 rfl ?_
    refine gx_iload_n dX3_findSpellings_60 rfl 3 rfl ?_
    refine gx_bE e (fun _ hu15 e => ?_)
    refine gx_bE e (fun q16 hq16 e => ?_)
    refine gx_callV (n := 1) (st := [.int (gI v1)]) (As := [.int (gI v3)]) (b := v0) dX3_findSpellings_61 (z_X3_improveSpelling hq16) rfl ⟨rfl, gw_cw_X3_improveSpelling, gw_6, gp_X3_improveSpelling, ⟨Nat.le_of_ble_eq_true rfl, Nat.le_of_ble_eq_true rfl⟩⟩ (gi_isS hu15) (by decide) gw_506 gw_508 gs_16 rfl ⟨Nat.le_of_ble_eq_true rfl, Nat.le_of_ble_eq_true rfl⟩ (Nat.le_of_ble_eq_true rfl) (gy_k1 (x := .int (gI q16.1)) (kc2 := 0) (ks2 := 0) ⟨rfl, rfl⟩ ?_) gy_kn
    refine gy_ior dX3_findSpellings_64 ?_
    refine gx_nE e (fun t17 ht17 e => ?_)
    rw [ht17]
    refine gx_istore_n (ls2 := [(1, .int (gI t17)), (0, .ref v0), (2, .int (gI v2)), (3, .int (gI v3))]) dX3_findSpellings_65 rfl (Nat.le_of_ble_eq_true rfl) rfl ?_
    refine gx_nE e (fun t18 ht18 e => ?_)
    refine gy_iinc (v := t18) (ls2 := [(3, .int (gI t18)), (1, .int (gI t17)), (0, .ref v0), (2, .int (gI v2))]) dX3_findSpellings_66 3 rfl ht18 (Nat.le_of_ble_eq_true rfl) rfl ?_
    refine gx_goto (tgt := 47) dX3_findSpellings_69 (by decide) ?_
    refine gx_sub (ls2 := [(0, .ref v0), (1, .int (gI t17)), (2, .int (gI v2)), (3, .int (gI t18))]) [2, 1, 3, 0] rfl ?_
    exact hr47 _ _ _ _ _ e
def l_X3_findSpellings_47 (n : Nat) (r33 : Nat → Int → Int → gi_H → Option (gi_H)) : Nat → Nat → Int → Int → Int → gi_H → Option (gi_H)
  | 0, _, _, _, _, _ => none
  | k + 1, v0, v1, v2, v3, h => b_X3_findSpellings_47 n r33 (l_X3_findSpellings_47 n r33 k) v0 v1 v2 v3 h
theorem zl_X3_findSpellings_47 {al : Bool} {n : Nat} {r33 : Nat → Int → Int → gi_H → Option (gi_H)} {h1 : gi_H} (hr33 : ∀ (x0 : Nat) (x1 : Int) (x2 : Int) (hh : gi_H), r33 x0 x1 x2 hh = some h1 → gx_Z mX3_findSpellings al al 0 0 33 [(0, .ref x0), (1, .int (gI x1)), (2, .int (gI x2))] [] (gi_cv hh) (.inl none) (gi_cv h1)) : ∀ (k : Nat) (v0 : Nat) (v1 : Int) (v2 : Int) (v3 : Int) (h : gi_H), l_X3_findSpellings_47 n r33 k v0 v1 v2 v3 h = some h1 → gx_Z mX3_findSpellings al al 0 0 47 [(0, .ref v0), (1, .int (gI v1)), (2, .int (gI v2)), (3, .int (gI v3))] [] (gi_cv h) (.inl none) (gi_cv h1)
  | 0, _, _, _, _, _, e => gx_0E e
  | k + 1, _, _, _, _, _, e => zb_X3_findSpellings_47 (n := n) hr33 (zl_X3_findSpellings_47 hr33 k) e
set_option maxRecDepth 100000 in
def b_X3_findSpellings_33 (n : Nat) (r33 : Nat → Int → Int → gi_H → Option (gi_H)) (v0 : Nat) (v1 : Int) (v2 : Int)  (h : gi_H) : Option (gi_H) :=
  Option.bind (gi_rg v2) fun _ => if (1000000 : Int) ≤ v2 then (some h) else (Option.bind (gi_rg v1) fun _ => if v1 = 0 then (some h) else (l_X3_findSpellings_47 n r33 n v0 (0 : Int) v2 (0 : Int) h))
set_option maxRecDepth 100000 in
theorem zb_X3_findSpellings_33 {al : Bool} {n : Nat} {r33 : Nat → Int → Int → gi_H → Option (gi_H)} {h1 : gi_H} (hr33 : ∀ (x0 : Nat) (x1 : Int) (x2 : Int) (hh : gi_H), r33 x0 x1 x2 hh = some h1 → gx_Z mX3_findSpellings al al 0 0 33 [(0, .ref x0), (1, .int (gI x1)), (2, .int (gI x2))] [] (gi_cv hh) (.inl none) (gi_cv h1)) {v0 : Nat} {v1 : Int} {v2 : Int}  {h : gi_H} (e : b_X3_findSpellings_33 n r33 v0 v1 v2 h = some h1) : gx_Z mX3_findSpellings al al 0 0 33 [(0, .ref v0), (1, .int (gI v1)), (2, .int (gI v2))] [] (gi_cv h) (.inl none) (gi_cv h1) := by
  refine gx_iload_n dX3_findSpellings_33 rfl 2 rfl ?_
  refine gy_ldc (n := 1000000) dX3_findSpellings_34 gw_413 (by decide +kernel) ?_
  refine gx_bE e (fun _ g4 e => ?_)
  refine gx_iE e (fun c5 e => ?_) (fun c5 e => ?_)
  · refine gy_icmp_ge (tgt := 78) (gi_rgS g4) (by decide) dX3_findSpellings_36 (by decide) (fun _ => ?_) (fun z => absurd c5 z)
    cases e
    exact gx_vret dX3_findSpellings_78 rfl ⟨Nat.le_of_ble_eq_true rfl, Nat.le_of_ble_eq_true rfl⟩ (fun z => z)
  · refine gy_icmp_ge (tgt := 78) (gi_rgS g4) (by decide) dX3_findSpellings_36 (by decide) (fun z => absurd z c5) (fun _ => ?_)
    refine gx_iload_n dX3_findSpellings_39 rfl 1 rfl ?_
    refine gx_bE e (fun _ g6 e => ?_)
    refine gx_iE e (fun c7 e => ?_) (fun c7 e => ?_)
    · refine gy_if_eq (tgt := 78) (gi_rgS g6) dX3_findSpellings_40 (by decide) (fun _ => ?_) (fun z => absurd c7 z)
      cases e
      exact gx_vret dX3_findSpellings_78 rfl ⟨Nat.le_of_ble_eq_true rfl, Nat.le_of_ble_eq_true rfl⟩ (fun z => z)
    · refine gy_if_eq (tgt := 78) (gi_rgS g6) dX3_findSpellings_40 (by decide) (fun z => absurd z c7) (fun _ => ?_)
      refine gy_iconst dX3_findSpellings_43 ?_
      refine gx_istore_n (ls2 := [(1, .int (gI (0 : Int))), (0, .ref v0), (2, .int (gI v2))]) dX3_findSpellings_44 rfl (Nat.le_of_ble_eq_true rfl) rfl ?_
      refine gy_iconst dX3_findSpellings_45 ?_
      refine gx_istore_n (ls2 := [(3, .int (gI (0 : Int))), (1, .int (gI (0 : Int))), (0, .ref v0), (2, .int (gI v2))]) dX3_findSpellings_46 rfl (Nat.le_of_ble_eq_true rfl) rfl ?_
      refine gx_sub (ls2 := [(0, .ref v0), (1, .int (gI (0 : Int))), (2, .int (gI v2)), (3, .int (gI (0 : Int)))]) [2, 1, 3, 0] rfl ?_
      exact zl_X3_findSpellings_47 hr33 n _ _ _ _ _ e
def l_X3_findSpellings_33 (n : Nat)  : Nat → Nat → Int → Int → gi_H → Option (gi_H)
  | 0, _, _, _, _ => none
  | k + 1, v0, v1, v2, h => b_X3_findSpellings_33 n  (l_X3_findSpellings_33 n  k) v0 v1 v2 h
theorem zl_X3_findSpellings_33 {al : Bool} {n : Nat}  {h1 : gi_H}  : ∀ (k : Nat) (v0 : Nat) (v1 : Int) (v2 : Int) (h : gi_H), l_X3_findSpellings_33 n  k v0 v1 v2 h = some h1 → gx_Z mX3_findSpellings al al 0 0 33 [(0, .ref v0), (1, .int (gI v1)), (2, .int (gI v2))] [] (gi_cv h) (.inl none) (gi_cv h1)
  | 0, _, _, _, _, e => gx_0E e
  | k + 1, _, _, _, _, e => zb_X3_findSpellings_33 (n := n)  (zl_X3_findSpellings_33  k) e
set_option maxRecDepth 100000 in
def b_X3_findSpellings_29 (n : Nat)  (v0 : Nat)  (h : gi_H) : Option (gi_H) :=
  l_X3_findSpellings_33 n  n v0 (1 : Int) (0 : Int) h
set_option maxRecDepth 100000 in
theorem zb_X3_findSpellings_29 {al : Bool} {n : Nat}  {h1 : gi_H}  {v0 : Nat}  {h : gi_H} (e : b_X3_findSpellings_29 n v0 h = some h1) : gx_Z mX3_findSpellings al al 0 0 29 [(0, .ref v0)] [] (gi_cv h) (.inl none) (gi_cv h1) := by
  refine gy_iconst dX3_findSpellings_29 ?_
  refine gx_istore_n (ls2 := [(1, .int (gI (1 : Int))), (0, .ref v0)]) dX3_findSpellings_30 rfl (Nat.le_of_ble_eq_true rfl) rfl ?_
  refine gy_iconst dX3_findSpellings_31 ?_
  refine gx_istore_n (ls2 := [(2, .int (gI (0 : Int))), (1, .int (gI (1 : Int))), (0, .ref v0)]) dX3_findSpellings_32 rfl (Nat.le_of_ble_eq_true rfl) rfl ?_
  refine gx_sub (ls2 := [(0, .ref v0), (1, .int (gI (1 : Int))), (2, .int (gI (0 : Int)))]) [2, 1, 0] rfl ?_
  exact zl_X3_findSpellings_33  n _ _ _ _ e
set_option maxRecDepth 100000 in
def b_X3_findSpellings_9 (n : Nat) (r9 : Nat → Int → gi_H → Option (gi_H)) (v0 : Nat) (v1 : Int)  (h : gi_H) : Option (gi_H) :=
  Option.bind (gi_rg v1) fun _ => if (8 : Int) ≤ v1 then (b_X3_findSpellings_29 n  v0 h) else (Option.bind (gi_gR h v0 2 9) fun t19 => Option.bind (gi_s2 h t19 v1 v1) fun h20 => gx_nm (v1 + (1 : Int)) fun t21 => r9 v0 t21 h20)
set_option maxRecDepth 100000 in
theorem zb_X3_findSpellings_9 {al : Bool} {n : Nat} {r9 : Nat → Int → gi_H → Option (gi_H)} {h1 : gi_H} (hr9 : ∀ (x0 : Nat) (x1 : Int) (hh : gi_H), r9 x0 x1 hh = some h1 → gx_Z mX3_findSpellings al al 0 0 9 [(0, .ref x0), (1, .int (gI x1))] [] (gi_cv hh) (.inl none) (gi_cv h1)) {v0 : Nat} {v1 : Int}  {h : gi_H} (e : b_X3_findSpellings_9 n r9 v0 v1 h = some h1) : gx_Z mX3_findSpellings al al 0 0 9 [(0, .ref v0), (1, .int (gI v1))] [] (gi_cv h) (.inl none) (gi_cv h1) := by
  refine gx_iload_n dX3_findSpellings_9 rfl 1 rfl ?_
  refine gy_bipush dX3_findSpellings_10 gcb_8 ?_
  refine gx_bE e (fun _ g2 e => ?_)
  refine gx_iE e (fun c3 e => ?_) (fun c3 e => ?_)
  · refine gy_icmp_ge (tgt := 29) (gi_rgS g2) (by decide) dX3_findSpellings_12 (by decide) (fun _ => ?_) (fun z => absurd c3 z)
    refine gx_sub (ls2 := [(0, .ref v0)]) [0] rfl ?_
    exact zb_X3_findSpellings_29  e
  · refine gy_icmp_ge (tgt := 29) (gi_rgS g2) (by decide) dX3_findSpellings_12 (by decide) (fun z => absurd z c3) (fun _ => ?_)
    refine gx_aload_n dX3_findSpellings_15 rfl 0 rfl ?_
    refine gx_bE e (fun t19 ht19 e => ?_)
    refine gy_fR ht19 dX3_findSpellings_16 gf_RX3_24_2_9 (by decide) gkN_2_9 gkR_2_9 ?_
    refine gx_iload_n dX3_findSpellings_19 rfl 1 rfl ?_
    refine gx_iload_n dX3_findSpellings_20 rfl 1 rfl ?_
    refine gy_i2l (gi_rgS g2) dX3_findSpellings_21 ?_
    refine gx_bE e (fun h20 hh20 e => ?_)
    refine gy_t2 hh20 dX3_findSpellings_22 ?_
    refine gx_nE e (fun t21 ht21 e => ?_)
    refine gy_iinc (v := t21) (ls2 := [(1, .int (gI t21)), (0, .ref v0)]) dX3_findSpellings_23 1 rfl ht21 (Nat.le_of_ble_eq_true rfl) rfl ?_
    refine gx_goto (tgt := 9) dX3_findSpellings_26 (by decide) ?_
    refine gx_sub (ls2 := [(0, .ref v0), (1, .int (gI t21))]) [1, 0] rfl ?_
    exact hr9 _ _ _ e
def l_X3_findSpellings_9 (n : Nat)  : Nat → Nat → Int → gi_H → Option (gi_H)
  | 0, _, _, _ => none
  | k + 1, v0, v1, h => b_X3_findSpellings_9 n  (l_X3_findSpellings_9 n  k) v0 v1 h
theorem zl_X3_findSpellings_9 {al : Bool} {n : Nat}  {h1 : gi_H}  : ∀ (k : Nat) (v0 : Nat) (v1 : Int) (h : gi_H), l_X3_findSpellings_9 n  k v0 v1 h = some h1 → gx_Z mX3_findSpellings al al 0 0 9 [(0, .ref v0), (1, .int (gI v1))] [] (gi_cv h) (.inl none) (gi_cv h1)
  | 0, _, _, _, e => gx_0E e
  | k + 1, _, _, _, e => zb_X3_findSpellings_9 (n := n)  (zl_X3_findSpellings_9  k) e
set_option maxRecDepth 100000 in
def f_X3_findSpellings (n : Nat) (v0 : Nat) (h : gi_H) : Option (gi_H) :=
  Option.bind (gi_pI h v0 2 10 (255 : Int)) fun h1 => l_X3_findSpellings_9 n  n v0 (0 : Int) h1
set_option maxRecDepth 100000 in
theorem z_X3_findSpellings {al : Bool} {n : Nat} {v0 : Nat} {h : gi_H} {h1 : gi_H} (e : f_X3_findSpellings n v0 h = some h1) : gx_Cw mX3_findSpellings al [.ref v0] (gi_cv h) (.inl none) (gi_cv h1) := by
  refine gx_enter (by decide +kernel) rfl (Nat.le_of_ble_eq_true rfl) ?_
  show gx_Z mX3_findSpellings al al 0 0 0 [(0, .ref v0)] [] (gi_cv h) (.inl none) (gi_cv h1)
  refine gx_aload_n dX3_findSpellings_0 rfl 0 rfl ?_
  refine gy_sipush dX3_findSpellings_1 gcs_255 ?_
  refine gx_bE e (fun h1 hh1 e => ?_)
  refine gy_qI hh1 dX3_findSpellings_4 gf_RX3_160_2_10 (by decide) gkN_2_10 rfl (Or.inl rfl) ?_
  refine gy_iconst dX3_findSpellings_7 ?_
  refine gx_istore_n (ls2 := [(1, .int (gI (0 : Int))), (0, .ref v0)]) dX3_findSpellings_8 rfl (Nat.le_of_ble_eq_true rfl) rfl ?_
  refine gx_sub (ls2 := [(0, .ref v0), (1, .int (gI (0 : Int)))]) [1, 0] rfl ?_
  exact zl_X3_findSpellings_9  n _ _ _ e
/-! X3_findPredictions  -/
set_option maxRecDepth 100000 in
def b_X3_findPredictions_2 (n : Nat) (r2 : Nat → Int → gi_H → Option (gi_H)) (v0 : Nat) (v1 : Int)  (h : gi_H) : Option (gi_H) :=
  Option.bind (gi_rg v1) fun _ => if (24 : Int) ≤ v1 then (some h) else (Option.bind (gi_gR h v0 2 0) fun t3 => Option.bind (gi_is h t3 3) fun _ => Option.bind (f_X4_owner t3 v1 h) fun q5 => Option.bind (gi_is h v0 2) fun _ => Option.bind (f_X3_behind v0 q5 h) fun q7 => Option.bind (gi_gR h v0 2 7) fun t8 => Option.bind (gi_is h v0 2) fun _ => Option.bind (f_X3_beginnings n v0 v1 (0 : Int) h) fun q10 => Option.bind (f_X11_behindOf q10 q7 h) fun q11 => Option.bind (gi_s1 h t8 v1 q11) fun h12 => gx_nm (v1 + (1 : Int)) fun t13 => r2 v0 t13 h12)
set_option maxRecDepth 100000 in
theorem zb_X3_findPredictions_2 {al : Bool} {n : Nat} {r2 : Nat → Int → gi_H → Option (gi_H)} {h1 : gi_H} (hr2 : ∀ (x0 : Nat) (x1 : Int) (hh : gi_H), r2 x0 x1 hh = some h1 → gx_Z mX3_findPredictions al al 0 0 2 [(0, .ref x0), (1, .int (gI x1))] [] (gi_cv hh) (.inl none) (gi_cv h1)) {v0 : Nat} {v1 : Int}  {h : gi_H} (e : b_X3_findPredictions_2 n r2 v0 v1 h = some h1) : gx_Z mX3_findPredictions al al 0 0 2 [(0, .ref v0), (1, .int (gI v1))] [] (gi_cv h) (.inl none) (gi_cv h1) := by
  refine gx_iload_n dX3_findPredictions_2 rfl 1 rfl ?_
  refine gy_bipush dX3_findPredictions_3 gcb_24 ?_
  refine gx_bE e (fun _ g1 e => ?_)
  refine gx_iE e (fun c2 e => ?_) (fun c2 e => ?_)
  · refine gy_icmp_ge (tgt := 43) (gi_rgS g1) (by decide) dX3_findPredictions_5 (by decide) (fun _ => ?_) (fun z => absurd c2 z)
    cases e
    exact gx_vret dX3_findPredictions_43 rfl ⟨Nat.le_of_ble_eq_true rfl, Nat.le_of_ble_eq_true rfl⟩ (fun z => z)
  · refine gy_icmp_ge (tgt := 43) (gi_rgS g1) (by decide) dX3_findPredictions_5 (by decide) (fun z => absurd z c2) (fun _ => ?_)
    refine gx_aload_n dX3_findPredictions_8 rfl 0 rfl ?_
    refine gx_aload_n dX3_findPredictions_9 rfl 0 rfl ?_
    refine gx_bE e (fun t3 ht3 e => ?_)
    refine gy_fR ht3 dX3_findPredictions_10 gf_RX3_37_2_0 (by decide) gkN_2_0 gkR_2_0 ?_
    refine gx_iload_n dX3_findPredictions_13 rfl 1 rfl ?_
    refine gx_bE e (fun _ hu4 e => ?_)
    refine gx_bE e (fun q5 hq5 e => ?_)
    refine gx_callV (n := 1) (st := [.ref v0]) (As := [.int (gI v1)]) (b := t3) dX3_findPredictions_14 (z_X4_owner hq5) rfl ⟨rfl, gw_cw_X4_owner, gw_3, gp_X4_owner, ⟨Nat.le_of_ble_eq_true rfl, Nat.le_of_ble_eq_true rfl⟩⟩ (gi_isS hu4) (by decide) gw_415 gw_416 gw_417 rfl ⟨Nat.le_of_ble_eq_true rfl, Nat.le_of_ble_eq_true rfl⟩ (Nat.le_of_ble_eq_true rfl) (gy_k1 (x := .int (gI q5)) (kc2 := 0) (ks2 := 0) ⟨rfl, rfl⟩ ?_) gy_kn
    refine gx_bE e (fun _ hu6 e => ?_)
    refine gx_bE e (fun q7 hq7 e => ?_)
    refine gx_callV (n := 1) (st := []) (As := [.int (gI q5)]) (b := v0) dX3_findPredictions_17 (z_X3_behind hq7) rfl ⟨rfl, gw_cw_X3_behind, gw_6, gp_X3_behind, ⟨Nat.le_of_ble_eq_true rfl, Nat.le_of_ble_eq_true rfl⟩⟩ (gi_isS hu6) (by decide) gw_453 gw_454 gw_455 rfl ⟨Nat.le_of_ble_eq_true rfl, Nat.le_of_ble_eq_true rfl⟩ (Nat.le_of_ble_eq_true rfl) (gy_k1 (x := .int (gI q7)) (kc2 := 0) (ks2 := 0) ⟨rfl, rfl⟩ ?_) gy_kn
    refine gx_istore_n (ls2 := [(2, .int (gI q7)), (0, .ref v0), (1, .int (gI v1))]) dX3_findPredictions_20 rfl (Nat.le_of_ble_eq_true rfl) rfl ?_
    refine gx_aload_n dX3_findPredictions_21 rfl 1 rfl ?_
    refine gx_bE e (fun t8 ht8 e => ?_)
    refine gy_fR ht8 dX3_findPredictions_22 gf_RX3_18_2_7 (by decide) gkN_2_7 gkR_2_7 ?_
    refine gx_iload_n dX3_findPredictions_25 rfl 2 rfl ?_
    refine gx_aload_n dX3_findPredictions_26 rfl 1 rfl ?_
    refine gx_iload_n dX3_findPredictions_27 rfl 2 rfl ?_
    refine gy_iconst dX3_findPredictions_28 ?_
    refine gx_bE e (fun _ hu9 e => ?_)
    refine gx_bE e (fun q10 hq10 e => ?_)
    refine gx_callV (n := 2) (st := [.int (gI v1), .ref t8]) (As := [.int (gI v1), .int (gI (0 : Int))]) (b := v0) dX3_findPredictions_29 (z_X3_beginnings hq10) rfl ⟨rfl, gw_cw_X3_beginnings, gw_6, gp_X3_beginnings, ⟨Nat.le_of_ble_eq_true rfl, Nat.le_of_ble_eq_true rfl⟩⟩ (gi_isS hu9) (by decide) gw_419 gw_421 gs_2 rfl ⟨Nat.le_of_ble_eq_true rfl, Nat.le_of_ble_eq_true rfl⟩ (Nat.le_of_ble_eq_true rfl) (gy_k1 (x := .int (gI q10)) (kc2 := 0) (ks2 := 0) ⟨rfl, rfl⟩ ?_) gy_kn
    refine gx_iload_n dX3_findPredictions_32 rfl 0 rfl ?_
    refine gx_bE e (fun q11 hq11 e => ?_)
    refine gx_callSN (n := 2) (st := [.int (gI v1), .ref t8]) (As := [.int (gI q10), .int (gI q7)]) dX3_findPredictions_33 (z_X11_behindOf hq11) rfl ⟨rfl, gw_cw_X11_behindOf, gw_1, gp_X11_behindOf, ⟨Nat.le_of_ble_eq_true rfl, Nat.le_of_ble_eq_true rfl⟩⟩ (host := "Grammarsmith") (by decide +kernel) gw_458 ⟨Nat.le_of_ble_eq_true rfl, Nat.le_of_ble_eq_true rfl⟩ (Nat.le_of_ble_eq_true rfl) (gy_k1 (x := .int (gI q11)) (kc2 := 0) (ks2 := 0) ⟨rfl, rfl⟩ ?_) gy_kn
    refine gx_bE e (fun h12 hh12 e => ?_)
    refine gy_t1 hh12 dX3_findPredictions_36 ?_
    refine gx_nE e (fun t13 ht13 e => ?_)
    refine gy_iinc (v := t13) (ls2 := [(1, .int (gI t13)), (2, .int (gI q7)), (0, .ref v0)]) dX3_findPredictions_37 2 rfl ht13 (Nat.le_of_ble_eq_true rfl) rfl ?_
    refine gx_goto (tgt := 2) dX3_findPredictions_40 (by decide) ?_
    refine gx_sub (ls2 := [(0, .ref v0), (1, .int (gI t13))]) [2, 0] rfl ?_
    exact hr2 _ _ _ e
def l_X3_findPredictions_2 (n : Nat)  : Nat → Nat → Int → gi_H → Option (gi_H)
  | 0, _, _, _ => none
  | k + 1, v0, v1, h => b_X3_findPredictions_2 n  (l_X3_findPredictions_2 n  k) v0 v1 h
theorem zl_X3_findPredictions_2 {al : Bool} {n : Nat}  {h1 : gi_H}  : ∀ (k : Nat) (v0 : Nat) (v1 : Int) (h : gi_H), l_X3_findPredictions_2 n  k v0 v1 h = some h1 → gx_Z mX3_findPredictions al al 0 0 2 [(0, .ref v0), (1, .int (gI v1))] [] (gi_cv h) (.inl none) (gi_cv h1)
  | 0, _, _, _, e => gx_0E e
  | k + 1, _, _, _, e => zb_X3_findPredictions_2 (n := n)  (zl_X3_findPredictions_2  k) e
set_option maxRecDepth 100000 in
def f_X3_findPredictions (n : Nat) (v0 : Nat) (h : gi_H) : Option (gi_H) :=
  l_X3_findPredictions_2 n  n v0 (0 : Int) h
set_option maxRecDepth 100000 in
theorem z_X3_findPredictions {al : Bool} {n : Nat} {v0 : Nat} {h : gi_H} {h1 : gi_H} (e : f_X3_findPredictions n v0 h = some h1) : gx_Cw mX3_findPredictions al [.ref v0] (gi_cv h) (.inl none) (gi_cv h1) := by
  refine gx_enter (by decide +kernel) rfl (Nat.le_of_ble_eq_true rfl) ?_
  show gx_Z mX3_findPredictions al al 0 0 0 [(0, .ref v0)] [] (gi_cv h) (.inl none) (gi_cv h1)
  refine gy_iconst dX3_findPredictions_0 ?_
  refine gx_istore_n (ls2 := [(1, .int (gI (0 : Int))), (0, .ref v0)]) dX3_findPredictions_1 rfl (Nat.le_of_ble_eq_true rfl) rfl ?_
  refine gx_sub (ls2 := [(0, .ref v0), (1, .int (gI (0 : Int)))]) [1, 0] rfl ?_
  exact zl_X3_findPredictions_2  n _ _ _ e
/-! X3_findItems  -/
set_option maxRecDepth 100000 in
def b_X3_findItems_82 (n : Nat)  (v0 : Nat)  (h : gi_H) : Option (gi_H) :=
  Option.bind (gi_gR h v0 2 12) fun t7 => Option.bind (gi_gR h v0 2 0) fun t8 => Option.bind (gi_is h t8 3) fun _ => Option.bind (f_X4_top t8 h) fun q10 => Option.bind (gi_s1 h t7 (144 : Int) ((16 : Int) + q10)) fun h11 => Option.bind (gi_gR h11 v0 2 13) fun t12 => Option.bind (gi_s1 h11 t12 (144 : Int) (512 : Int)) fun h13 => some h13
set_option maxRecDepth 100000 in
theorem zb_X3_findItems_82 {al : Bool} {n : Nat}  {h1 : gi_H}  {v0 : Nat}  {h : gi_H} (e : b_X3_findItems_82 n v0 h = some h1) : gx_Z mX3_findItems al al 0 0 82 [(0, .ref v0)] [] (gi_cv h) (.inl none) (gi_cv h1) := by
  refine gx_aload_n dX3_findItems_82 rfl 0 rfl ?_
  refine gx_bE e (fun t7 ht7 e => ?_)
  refine gy_fR ht7 dX3_findItems_83 gf_RX3_31_2_12 (by decide) gkN_2_12 gkR_2_12 ?_
  refine gy_sipush dX3_findItems_86 gcs_144 ?_
  refine gy_bipush dX3_findItems_89 gcb_16 ?_
  refine gx_aload_n dX3_findItems_91 rfl 0 rfl ?_
  refine gx_bE e (fun t8 ht8 e => ?_)
  refine gy_fR ht8 dX3_findItems_92 gf_RX3_37_2_0 (by decide) gkN_2_0 gkR_2_0 ?_
  refine gx_bE e (fun _ hu9 e => ?_)
  refine gx_bE e (fun q10 hq10 e => ?_)
  refine gx_callV (n := 0) (st := [.int (gI (16 : Int)), .int (gI (144 : Int)), .ref t7]) (As := []) (b := t8) dX3_findItems_95 (z_X4_top hq10) rfl ⟨rfl, gw_cw_X4_top, gw_3, gp_X4_top, ⟨Nat.le_of_ble_eq_true rfl, Nat.le_of_ble_eq_true rfl⟩⟩ (gi_isS hu9) (by decide) gw_442 gw_443 gw_444 rfl ⟨Nat.le_of_ble_eq_true rfl, Nat.le_of_ble_eq_true rfl⟩ (Nat.le_of_ble_eq_true rfl) (gy_k1 (x := .int (gI q10)) (kc2 := 0) (ks2 := 0) ⟨rfl, rfl⟩ ?_) gy_kn
  refine gy_iadd dX3_findItems_98 ?_
  refine gx_bE e (fun h11 hh11 e => ?_)
  refine gy_t1 hh11 dX3_findItems_99 ?_
  refine gx_aload_n dX3_findItems_100 rfl 0 rfl ?_
  refine gx_bE e (fun t12 ht12 e => ?_)
  refine gy_fR ht12 dX3_findItems_101 gf_RX3_34_2_13 (by decide) gkN_2_13 gkR_2_13 ?_
  refine gy_sipush dX3_findItems_104 gcs_144 ?_
  refine gy_sipush dX3_findItems_107 gcs_512 ?_
  refine gx_bE e (fun h13 hh13 e => ?_)
  refine gy_t1 hh13 dX3_findItems_110 ?_
  cases e
  exact gx_vret dX3_findItems_111 rfl ⟨Nat.le_of_ble_eq_true rfl, Nat.le_of_ble_eq_true rfl⟩ (fun z => z)
set_option maxRecDepth 100000 in
def b_X3_findItems_76 (n : Nat) (r18 : Nat → Int → gi_H → Option (gi_H)) (v0 : Nat) (v1 : Int)  (h : gi_H) : Option (gi_H) :=
  gx_nm (v1 + (1 : Int)) fun t16 => r18 v0 t16 h
set_option maxRecDepth 100000 in
theorem zb_X3_findItems_76 {al : Bool} {n : Nat} {r18 : Nat → Int → gi_H → Option (gi_H)} {h1 : gi_H} (hr18 : ∀ (x0 : Nat) (x1 : Int) (hh : gi_H), r18 x0 x1 hh = some h1 → gx_Z mX3_findItems al al 0 0 18 [(0, .ref x0), (1, .int (gI x1))] [] (gi_cv hh) (.inl none) (gi_cv h1)) {v0 : Nat} {v1 : Int}  {h : gi_H} (e : b_X3_findItems_76 n r18 v0 v1 h = some h1) : gx_Z mX3_findItems al al 0 0 76 [(0, .ref v0), (1, .int (gI v1))] [] (gi_cv h) (.inl none) (gi_cv h1) := by
  refine gx_nE e (fun t16 ht16 e => ?_)
  refine gy_iinc (v := t16) (ls2 := [(1, .int (gI t16)), (0, .ref v0)]) dX3_findItems_76 1 rfl ht16 (Nat.le_of_ble_eq_true rfl) rfl ?_
  refine gx_goto (tgt := 18) dX3_findItems_79 (by decide) ?_
  refine gx_sub (ls2 := [(0, .ref v0), (1, .int (gI t16))]) [1, 0] rfl ?_
  exact hr18 _ _ _ e
set_option maxRecDepth 100000 in
def b_X3_findItems_26 (n : Nat) (r18 : Nat → Int → gi_H → Option (gi_H)) (r26 : Nat → Int → Int → gi_H → Option (gi_H)) (v0 : Nat) (v1 : Int) (v2 : Int)  (h : gi_H) : Option (gi_H) :=
  Option.bind (gi_rg v2) fun _ => if (5 : Int) ≤ v2 then (b_X3_findItems_76 n r18 v0 v1 h) else (Option.bind (gi_gR h v0 2 12) fun t17 => Option.bind (gi_gR h v0 2 0) fun t18 => Option.bind (gi_is h t18 3) fun _ => Option.bind (f_X4_symbol t18 v1 v2 h) fun q20 => Option.bind (gi_s1 h t17 ((v1 * (6 : Int)) + v2) q20) fun h21 => Option.bind (gi_gR h21 v0 2 13) fun t22 => Option.bind (gi_is h21 v0 2) fun _ => Option.bind (f_X3_beginnings n v0 v1 (v2 + (1 : Int)) h21) fun q24 => Option.bind (gi_s1 h21 t22 ((v1 * (6 : Int)) + v2) q24) fun h25 => gx_nm (v2 + (1 : Int)) fun t26 => r26 v0 v1 t26 h25)
set_option maxRecDepth 100000 in
theorem zb_X3_findItems_26 {al : Bool} {n : Nat} {r18 : Nat → Int → gi_H → Option (gi_H)} {r26 : Nat → Int → Int → gi_H → Option (gi_H)} {h1 : gi_H} (hr18 : ∀ (x0 : Nat) (x1 : Int) (hh : gi_H), r18 x0 x1 hh = some h1 → gx_Z mX3_findItems al al 0 0 18 [(0, .ref x0), (1, .int (gI x1))] [] (gi_cv hh) (.inl none) (gi_cv h1)) (hr26 : ∀ (x0 : Nat) (x1 : Int) (x2 : Int) (hh : gi_H), r26 x0 x1 x2 hh = some h1 → gx_Z mX3_findItems al al 0 0 26 [(0, .ref x0), (1, .int (gI x1)), (2, .int (gI x2))] [] (gi_cv hh) (.inl none) (gi_cv h1)) {v0 : Nat} {v1 : Int} {v2 : Int}  {h : gi_H} (e : b_X3_findItems_26 n r18 r26 v0 v1 v2 h = some h1) : gx_Z mX3_findItems al al 0 0 26 [(0, .ref v0), (1, .int (gI v1)), (2, .int (gI v2))] [] (gi_cv h) (.inl none) (gi_cv h1) := by
  refine gx_iload_n dX3_findItems_26 rfl 2 rfl ?_
  refine gy_iconst dX3_findItems_27 ?_
  refine gx_bE e (fun _ g14 e => ?_)
  refine gx_iE e (fun c15 e => ?_) (fun c15 e => ?_)
  · refine gy_icmp_ge (tgt := 76) (gi_rgS g14) (by decide) dX3_findItems_28 (by decide) (fun _ => ?_) (fun z => absurd c15 z)
    refine gx_sub (ls2 := [(0, .ref v0), (1, .int (gI v1))]) [0, 1] rfl ?_
    exact zb_X3_findItems_76 hr18 e
  · refine gy_icmp_ge (tgt := 76) (gi_rgS g14) (by decide) dX3_findItems_28 (by decide) (fun z => absurd z c15) (fun _ => ?_)
    refine gx_aload_n dX3_findItems_31 rfl 0 rfl ?_
    refine gx_bE e (fun t17 ht17 e => ?_)
    refine gy_fR ht17 dX3_findItems_32 gf_RX3_31_2_12 (by decide) gkN_2_12 gkR_2_12 ?_
    refine gx_iload_n dX3_findItems_35 rfl 1 rfl ?_
    refine gy_bipush dX3_findItems_36 gcb_6 ?_
    refine gy_imul dX3_findItems_38 ?_
    refine gx_iload_n dX3_findItems_39 rfl 2 rfl ?_
    refine gy_iadd dX3_findItems_40 ?_
    refine gx_aload_n dX3_findItems_41 rfl 0 rfl ?_
    refine gx_bE e (fun t18 ht18 e => ?_)
    refine gy_fR ht18 dX3_findItems_42 gf_RX3_37_2_0 (by decide) gkN_2_0 gkR_2_0 ?_
    refine gx_iload_n dX3_findItems_45 rfl 1 rfl ?_
    refine gx_iload_n dX3_findItems_46 rfl 2 rfl ?_
    refine gx_bE e (fun _ hu19 e => ?_)
    refine gx_bE e (fun q20 hq20 e => ?_)
    refine gx_callV (n := 2) (st := [.int (gI ((v1 * (6 : Int)) + v2)), .ref t17]) (As := [.int (gI v1), .int (gI v2)]) (b := t18) dX3_findItems_47 (z_X4_symbol hq20) rfl ⟨rfl, gw_cw_X4_symbol, gw_3, gp_X4_symbol, ⟨Nat.le_of_ble_eq_true rfl, Nat.le_of_ble_eq_true rfl⟩⟩ (gi_isS hu19) (by decide) gw_427 gw_428 gw_429 rfl ⟨Nat.le_of_ble_eq_true rfl, Nat.le_of_ble_eq_true rfl⟩ (Nat.le_of_ble_eq_true rfl) (gy_k1 (x := .int (gI q20)) (kc2 := 0) (ks2 := 0) ⟨rfl, rfl⟩ ?_) gy_kn
    refine gx_bE e (fun h21 hh21 e => ?_)
    refine gy_t1 hh21 dX3_findItems_50 ?_
    refine gx_aload_n dX3_findItems_51 rfl 0 rfl ?_
    refine gx_bE e (fun t22 ht22 e => ?_)
    refine gy_fR ht22 dX3_findItems_52 gf_RX3_34_2_13 (by decide) gkN_2_13 gkR_2_13 ?_
    refine gx_iload_n dX3_findItems_55 rfl 1 rfl ?_
    refine gy_bipush dX3_findItems_56 gcb_6 ?_
    refine gy_imul dX3_findItems_58 ?_
    refine gx_iload_n dX3_findItems_59 rfl 2 rfl ?_
    refine gy_iadd dX3_findItems_60 ?_
    refine gx_aload_n dX3_findItems_61 rfl 0 rfl ?_
    refine gx_iload_n dX3_findItems_62 rfl 1 rfl ?_
    refine gx_iload_n dX3_findItems_63 rfl 2 rfl ?_
    refine gy_iconst dX3_findItems_64 ?_
    refine gy_iadd dX3_findItems_65 ?_
    refine gx_bE e (fun _ hu23 e => ?_)
    refine gx_bE e (fun q24 hq24 e => ?_)
    refine gx_callV (n := 2) (st := [.int (gI ((v1 * (6 : Int)) + v2)), .ref t22]) (As := [.int (gI v1), .int (gI (v2 + (1 : Int)))]) (b := v0) dX3_findItems_66 (z_X3_beginnings hq24) rfl ⟨rfl, gw_cw_X3_beginnings, gw_6, gp_X3_beginnings, ⟨Nat.le_of_ble_eq_true rfl, Nat.le_of_ble_eq_true rfl⟩⟩ (gi_isS hu23) (by decide) gw_419 gw_421 gs_2 rfl ⟨Nat.le_of_ble_eq_true rfl, Nat.le_of_ble_eq_true rfl⟩ (Nat.le_of_ble_eq_true rfl) (gy_k1 (x := .int (gI q24)) (kc2 := 0) (ks2 := 0) ⟨rfl, rfl⟩ ?_) gy_kn
    refine gx_bE e (fun h25 hh25 e => ?_)
    refine gy_t1 hh25 dX3_findItems_69 ?_
    refine gx_nE e (fun t26 ht26 e => ?_)
    refine gy_iinc (v := t26) (ls2 := [(2, .int (gI t26)), (0, .ref v0), (1, .int (gI v1))]) dX3_findItems_70 2 rfl ht26 (Nat.le_of_ble_eq_true rfl) rfl ?_
    refine gx_goto (tgt := 26) dX3_findItems_73 (by decide) ?_
    refine gx_sub (ls2 := [(0, .ref v0), (1, .int (gI v1)), (2, .int (gI t26))]) [1, 2, 0] rfl ?_
    exact hr26 _ _ _ _ e
def l_X3_findItems_26 (n : Nat) (r18 : Nat → Int → gi_H → Option (gi_H)) : Nat → Nat → Int → Int → gi_H → Option (gi_H)
  | 0, _, _, _, _ => none
  | k + 1, v0, v1, v2, h => b_X3_findItems_26 n r18 (l_X3_findItems_26 n r18 k) v0 v1 v2 h
theorem zl_X3_findItems_26 {al : Bool} {n : Nat} {r18 : Nat → Int → gi_H → Option (gi_H)} {h1 : gi_H} (hr18 : ∀ (x0 : Nat) (x1 : Int) (hh : gi_H), r18 x0 x1 hh = some h1 → gx_Z mX3_findItems al al 0 0 18 [(0, .ref x0), (1, .int (gI x1))] [] (gi_cv hh) (.inl none) (gi_cv h1)) : ∀ (k : Nat) (v0 : Nat) (v1 : Int) (v2 : Int) (h : gi_H), l_X3_findItems_26 n r18 k v0 v1 v2 h = some h1 → gx_Z mX3_findItems al al 0 0 26 [(0, .ref v0), (1, .int (gI v1)), (2, .int (gI v2))] [] (gi_cv h) (.inl none) (gi_cv h1)
  | 0, _, _, _, _, e => gx_0E e
  | k + 1, _, _, _, _, e => zb_X3_findItems_26 (n := n) hr18 (zl_X3_findItems_26 hr18 k) e
set_option maxRecDepth 100000 in
def b_X3_findItems_18 (n : Nat) (r18 : Nat → Int → gi_H → Option (gi_H)) (v0 : Nat) (v1 : Int)  (h : gi_H) : Option (gi_H) :=
  Option.bind (gi_rg v1) fun _ => if (24 : Int) ≤ v1 then (b_X3_findItems_82 n  v0 h) else (l_X3_findItems_26 n r18 n v0 v1 (0 : Int) h)
set_option maxRecDepth 100000 in
theorem zb_X3_findItems_18 {al : Bool} {n : Nat} {r18 : Nat → Int → gi_H → Option (gi_H)} {h1 : gi_H} (hr18 : ∀ (x0 : Nat) (x1 : Int) (hh : gi_H), r18 x0 x1 hh = some h1 → gx_Z mX3_findItems al al 0 0 18 [(0, .ref x0), (1, .int (gI x1))] [] (gi_cv hh) (.inl none) (gi_cv h1)) {v0 : Nat} {v1 : Int}  {h : gi_H} (e : b_X3_findItems_18 n r18 v0 v1 h = some h1) : gx_Z mX3_findItems al al 0 0 18 [(0, .ref v0), (1, .int (gI v1))] [] (gi_cv h) (.inl none) (gi_cv h1) := by
  refine gx_iload_n dX3_findItems_18 rfl 1 rfl ?_
  refine gy_bipush dX3_findItems_19 gcb_24 ?_
  refine gx_bE e (fun _ g5 e => ?_)
  refine gx_iE e (fun c6 e => ?_) (fun c6 e => ?_)
  · refine gy_icmp_ge (tgt := 82) (gi_rgS g5) (by decide) dX3_findItems_21 (by decide) (fun _ => ?_) (fun z => absurd c6 z)
    refine gx_sub (ls2 := [(0, .ref v0)]) [0] rfl ?_
    exact zb_X3_findItems_82  e
  · refine gy_icmp_ge (tgt := 82) (gi_rgS g5) (by decide) dX3_findItems_21 (by decide) (fun z => absurd z c6) (fun _ => ?_)
    refine gy_iconst dX3_findItems_24 ?_
    refine gx_istore_n (ls2 := [(2, .int (gI (0 : Int))), (0, .ref v0), (1, .int (gI v1))]) dX3_findItems_25 rfl (Nat.le_of_ble_eq_true rfl) rfl ?_
    refine gx_sub (ls2 := [(0, .ref v0), (1, .int (gI v1)), (2, .int (gI (0 : Int)))]) [1, 2, 0] rfl ?_
    exact zl_X3_findItems_26 hr18 n _ _ _ _ e
def l_X3_findItems_18 (n : Nat)  : Nat → Nat → Int → gi_H → Option (gi_H)
  | 0, _, _, _ => none
  | k + 1, v0, v1, h => b_X3_findItems_18 n  (l_X3_findItems_18 n  k) v0 v1 h
theorem zl_X3_findItems_18 {al : Bool} {n : Nat}  {h1 : gi_H}  : ∀ (k : Nat) (v0 : Nat) (v1 : Int) (h : gi_H), l_X3_findItems_18 n  k v0 v1 h = some h1 → gx_Z mX3_findItems al al 0 0 18 [(0, .ref v0), (1, .int (gI v1))] [] (gi_cv h) (.inl none) (gi_cv h1)
  | 0, _, _, _, e => gx_0E e
  | k + 1, _, _, _, e => zb_X3_findItems_18 (n := n)  (zl_X3_findItems_18  k) e
set_option maxRecDepth 100000 in
def f_X3_findItems (n : Nat) (v0 : Nat) (h : gi_H) : Option (gi_H) :=
  Option.bind (gi_gR h v0 2 12) fun t1 => Option.bind (f_J7_fill_53178 n t1 (-1 : Int) h) fun q2 => Option.bind (gi_gR q2 v0 2 13) fun t3 => Option.bind (f_J7_fill_53178 n t3 (0 : Int) q2) fun q4 => l_X3_findItems_18 n  n v0 (0 : Int) q4
set_option maxRecDepth 100000 in
theorem z_X3_findItems {al : Bool} {n : Nat} {v0 : Nat} {h : gi_H} {h1 : gi_H} (e : f_X3_findItems n v0 h = some h1) : gx_Cw mX3_findItems al [.ref v0] (gi_cv h) (.inl none) (gi_cv h1) := by
  refine gx_enter (by decide +kernel) rfl (Nat.le_of_ble_eq_true rfl) ?_
  show gx_Z mX3_findItems al al 0 0 0 [(0, .ref v0)] [] (gi_cv h) (.inl none) (gi_cv h1)
  refine gx_aload_n dX3_findItems_0 rfl 0 rfl ?_
  refine gx_bE e (fun t1 ht1 e => ?_)
  refine gy_fR ht1 dX3_findItems_1 gf_RX3_31_2_12 (by decide) gkN_2_12 gkR_2_12 ?_
  refine gy_iconst dX3_findItems_4 ?_
  refine gx_bE e (fun q2 hq2 e => ?_)
  refine gx_callS (n := 2) (st := []) (As := [.ref t1, .int (gI (-1 : Int))]) dX3_findItems_5 (z_J7_fill_53178 hq2) rfl ⟨rfl, gw_cw_J7_fill_53178, gw_5, gp_J7_fill_53178, ⟨Nat.le_of_ble_eq_true rfl, Nat.le_of_ble_eq_true rfl⟩⟩ gw_412 gw_99 ⟨Nat.le_of_ble_eq_true rfl, Nat.le_of_ble_eq_true rfl⟩ (Nat.le_of_ble_eq_true rfl) (gy_k0 (kc2 := 0) (ks2 := 0) ⟨rfl, rfl⟩ ?_) gy_kn
  refine gx_aload_n dX3_findItems_8 rfl 0 rfl ?_
  refine gx_bE e (fun t3 ht3 e => ?_)
  refine gy_fR ht3 dX3_findItems_9 gf_RX3_34_2_13 (by decide) gkN_2_13 gkR_2_13 ?_
  refine gy_iconst dX3_findItems_12 ?_
  refine gx_bE e (fun q4 hq4 e => ?_)
  refine gx_callS (n := 2) (st := []) (As := [.ref t3, .int (gI (0 : Int))]) dX3_findItems_13 (z_J7_fill_53178 hq4) rfl ⟨rfl, gw_cw_J7_fill_53178, gw_5, gp_J7_fill_53178, ⟨Nat.le_of_ble_eq_true rfl, Nat.le_of_ble_eq_true rfl⟩⟩ gw_412 gw_99 ⟨Nat.le_of_ble_eq_true rfl, Nat.le_of_ble_eq_true rfl⟩ (Nat.le_of_ble_eq_true rfl) (gy_k0 (kc2 := 0) (ks2 := 0) ⟨rfl, rfl⟩ ?_) gy_kn
  refine gy_iconst dX3_findItems_16 ?_
  refine gx_istore_n (ls2 := [(1, .int (gI (0 : Int))), (0, .ref v0)]) dX3_findItems_17 rfl (Nat.le_of_ble_eq_true rfl) rfl ?_
  refine gx_sub (ls2 := [(0, .ref v0), (1, .int (gI (0 : Int)))]) [1, 0] rfl ?_
  exact zl_X3_findItems_18  n _ _ _ e
/-! X3_learn  -/
set_option maxRecDepth 100000 in
def f_X3_learn (n : Nat) (v0 : Nat) (h : gi_H) : Option (gi_H) :=
  Option.bind (gi_gI h v0 2 1) fun t1 => Option.bind (gi_rg t1) fun _ => if t1 = 0 then (Option.bind (gi_is h v0 2) fun _ => Option.bind (f_X3_findBeginnings n v0 h) fun q5 => Option.bind (gi_is q5 v0 2) fun _ => Option.bind (f_X3_findBehinds n v0 q5) fun q7 => Option.bind (gi_is q7 v0 2) fun _ => Option.bind (f_X3_findReached n v0 q7) fun q9 => Option.bind (gi_is q9 v0 2) fun _ => Option.bind (f_X3_findLeftRecursive n v0 q9) fun q11 => Option.bind (gi_is q11 v0 2) fun _ => Option.bind (f_X3_findCircular n v0 q11) fun q13 => Option.bind (gi_is q13 v0 2) fun _ => Option.bind (f_X3_findLeasts n v0 q13) fun q15 => Option.bind (gi_is q15 v0 2) fun _ => Option.bind (f_X3_findSpellings n v0 q15) fun q17 => Option.bind (gi_is q17 v0 2) fun _ => Option.bind (f_X3_findPredictions n v0 q17) fun q19 => Option.bind (gi_is q19 v0 2) fun _ => Option.bind (f_X3_findItems n v0 q19) fun q21 => Option.bind (gi_pZ q21 v0 2 1 (1 : Int)) fun h22 => some h22) else (some h)
set_option maxRecDepth 100000 in
theorem z_X3_learn {al : Bool} {n : Nat} {v0 : Nat} {h : gi_H} {h1 : gi_H} (e : f_X3_learn n v0 h = some h1) : gx_Cw mX3_learn al [.ref v0] (gi_cv h) (.inl none) (gi_cv h1) := by
  refine gx_enter (by decide +kernel) rfl (Nat.le_of_ble_eq_true rfl) ?_
  show gx_Z mX3_learn al al 0 0 0 [(0, .ref v0)] [] (gi_cv h) (.inl none) (gi_cv h1)
  refine gx_aload_n dX3_learn_0 rfl 0 rfl ?_
  refine gx_bE e (fun t1 ht1 e => ?_)
  refine gy_fI ht1 dX3_learn_1 gf_RX3_41_2_1 (by decide) gkN_2_1 gkR_2_1 ?_
  refine gx_bE e (fun _ g2 e => ?_)
  refine gx_iE e (fun c3 e => ?_) (fun c3 e => ?_)
  · refine gy_if_eq (tgt := 8) (gi_rgS g2) dX3_learn_4 (by decide) (fun _ => ?_) (fun z => absurd c3 z)
    refine gx_aload_n dX3_learn_8 rfl 0 rfl ?_
    refine gx_bE e (fun _ hu4 e => ?_)
    refine gx_bE e (fun q5 hq5 e => ?_)
    refine gx_callV (n := 0) (st := []) (As := []) (b := v0) dX3_learn_9 (z_X3_findBeginnings hq5) rfl ⟨rfl, gw_cw_X3_findBeginnings, gw_6, gp_X3_findBeginnings, ⟨Nat.le_of_ble_eq_true rfl, Nat.le_of_ble_eq_true rfl⟩⟩ (gi_isS hu4) (by decide) gw_408 gw_410 gs_1 rfl ⟨Nat.le_of_ble_eq_true rfl, Nat.le_of_ble_eq_true rfl⟩ (Nat.le_of_ble_eq_true rfl) (gy_k0 (kc2 := 0) (ks2 := 0) ⟨rfl, rfl⟩ ?_) gy_kn
    refine gx_aload_n dX3_learn_12 rfl 0 rfl ?_
    refine gx_bE e (fun _ hu6 e => ?_)
    refine gx_bE e (fun q7 hq7 e => ?_)
    refine gx_callV (n := 0) (st := []) (As := []) (b := v0) dX3_learn_13 (z_X3_findBehinds hq7) rfl ⟨rfl, gw_cw_X3_findBehinds, gw_6, gp_X3_findBehinds, ⟨Nat.le_of_ble_eq_true rfl, Nat.le_of_ble_eq_true rfl⟩⟩ (gi_isS hu6) (by decide) gw_438 gw_440 gs_4 rfl ⟨Nat.le_of_ble_eq_true rfl, Nat.le_of_ble_eq_true rfl⟩ (Nat.le_of_ble_eq_true rfl) (gy_k0 (kc2 := 0) (ks2 := 0) ⟨rfl, rfl⟩ ?_) gy_kn
    refine gx_aload_n dX3_learn_16 rfl 0 rfl ?_
    refine gx_bE e (fun _ hu8 e => ?_)
    refine gx_bE e (fun q9 hq9 e => ?_)
    refine gx_callV (n := 0) (st := []) (As := []) (b := v0) dX3_learn_17 (z_X3_findReached hq9) rfl ⟨rfl, gw_cw_X3_findReached, gw_6, gp_X3_findReached, ⟨Nat.le_of_ble_eq_true rfl, Nat.le_of_ble_eq_true rfl⟩⟩ (gi_isS hu8) (by decide) gw_460 gw_462 gs_6 rfl ⟨Nat.le_of_ble_eq_true rfl, Nat.le_of_ble_eq_true rfl⟩ (Nat.le_of_ble_eq_true rfl) (gy_k0 (kc2 := 0) (ks2 := 0) ⟨rfl, rfl⟩ ?_) gy_kn
    refine gx_aload_n dX3_learn_20 rfl 0 rfl ?_
    refine gx_bE e (fun _ hu10 e => ?_)
    refine gx_bE e (fun q11 hq11 e => ?_)
    refine gx_callV (n := 0) (st := []) (As := []) (b := v0) dX3_learn_21 (z_X3_findLeftRecursive hq11) rfl ⟨rfl, gw_cw_X3_findLeftRecursive, gw_6, gp_X3_findLeftRecursive, ⟨Nat.le_of_ble_eq_true rfl, Nat.le_of_ble_eq_true rfl⟩⟩ (gi_isS hu10) (by decide) gw_475 gw_477 gs_9 rfl ⟨Nat.le_of_ble_eq_true rfl, Nat.le_of_ble_eq_true rfl⟩ (Nat.le_of_ble_eq_true rfl) (gy_k0 (kc2 := 0) (ks2 := 0) ⟨rfl, rfl⟩ ?_) gy_kn
    refine gx_aload_n dX3_learn_24 rfl 0 rfl ?_
    refine gx_bE e (fun _ hu12 e => ?_)
    refine gx_bE e (fun q13 hq13 e => ?_)
    refine gx_callV (n := 0) (st := []) (As := []) (b := v0) dX3_learn_25 (z_X3_findCircular hq13) rfl ⟨rfl, gw_cw_X3_findCircular, gw_6, gp_X3_findCircular, ⟨Nat.le_of_ble_eq_true rfl, Nat.le_of_ble_eq_true rfl⟩⟩ (gi_isS hu12) (by decide) gw_483 gw_485 gs_11 rfl ⟨Nat.le_of_ble_eq_true rfl, Nat.le_of_ble_eq_true rfl⟩ (Nat.le_of_ble_eq_true rfl) (gy_k0 (kc2 := 0) (ks2 := 0) ⟨rfl, rfl⟩ ?_) gy_kn
    refine gx_aload_n dX3_learn_28 rfl 0 rfl ?_
    refine gx_bE e (fun _ hu14 e => ?_)
    refine gx_bE e (fun q15 hq15 e => ?_)
    refine gx_callV (n := 0) (st := []) (As := []) (b := v0) dX3_learn_29 (z_X3_findLeasts hq15) rfl ⟨rfl, gw_cw_X3_findLeasts, gw_6, gp_X3_findLeasts, ⟨Nat.le_of_ble_eq_true rfl, Nat.le_of_ble_eq_true rfl⟩⟩ (gi_isS hu14) (by decide) gw_487 gw_489 gs_12 rfl ⟨Nat.le_of_ble_eq_true rfl, Nat.le_of_ble_eq_true rfl⟩ (Nat.le_of_ble_eq_true rfl) (gy_k0 (kc2 := 0) (ks2 := 0) ⟨rfl, rfl⟩ ?_) gy_kn
    refine gx_aload_n dX3_learn_32 rfl 0 rfl ?_
    refine gx_bE e (fun _ hu16 e => ?_)
    refine gx_bE e (fun q17 hq17 e => ?_)
    refine gx_callV (n := 0) (st := []) (As := []) (b := v0) dX3_learn_33 (z_X3_findSpellings hq17) rfl ⟨rfl, gw_cw_X3_findSpellings, gw_6, gp_X3_findSpellings, ⟨Nat.le_of_ble_eq_true rfl, Nat.le_of_ble_eq_true rfl⟩⟩ (gi_isS hu16) (by decide) gw_502 gw_504 gs_15 rfl ⟨Nat.le_of_ble_eq_true rfl, Nat.le_of_ble_eq_true rfl⟩ (Nat.le_of_ble_eq_true rfl) (gy_k0 (kc2 := 0) (ks2 := 0) ⟨rfl, rfl⟩ ?_) gy_kn
    refine gx_aload_n dX3_learn_36 rfl 0 rfl ?_
    refine gx_bE e (fun _ hu18 e => ?_)
    refine gx_bE e (fun q19 hq19 e => ?_)
    refine gx_callV (n := 0) (st := []) (As := []) (b := v0) dX3_learn_37 (z_X3_findPredictions hq19) rfl ⟨rfl, gw_cw_X3_findPredictions, gw_6, gp_X3_findPredictions, ⟨Nat.le_of_ble_eq_true rfl, Nat.le_of_ble_eq_true rfl⟩⟩ (gi_isS hu18) (by decide) gw_515 gw_517 gs_18 rfl ⟨Nat.le_of_ble_eq_true rfl, Nat.le_of_ble_eq_true rfl⟩ (Nat.le_of_ble_eq_true rfl) (gy_k0 (kc2 := 0) (ks2 := 0) ⟨rfl, rfl⟩ ?_) gy_kn
    refine gx_aload_n dX3_learn_40 rfl 0 rfl ?_
    refine gx_bE e (fun _ hu20 e => ?_)
    refine gx_bE e (fun q21 hq21 e => ?_)
    refine gx_callV (n := 0) (st := []) (As := []) (b := v0) dX3_learn_41 (z_X3_findItems hq21) rfl ⟨rfl, gw_cw_X3_findItems, gw_6, gp_X3_findItems, ⟨Nat.le_of_ble_eq_true rfl, Nat.le_of_ble_eq_true rfl⟩⟩ (gi_isS hu20) (by decide) gw_519 gw_521 gs_19 rfl ⟨Nat.le_of_ble_eq_true rfl, Nat.le_of_ble_eq_true rfl⟩ (Nat.le_of_ble_eq_true rfl) (gy_k0 (kc2 := 0) (ks2 := 0) ⟨rfl, rfl⟩ ?_) gy_kn
    refine gx_aload_n dX3_learn_44 rfl 0 rfl ?_
    refine gy_iconst dX3_learn_45 ?_
    refine gx_bE e (fun h22 hh22 e => ?_)
    refine gy_qZ hh22 dX3_learn_46 gf_RX3_41_2_1 (by decide) gkN_2_1 rfl (Or.inl rfl) ?_
    cases e
    exact gx_vret dX3_learn_49 rfl ⟨Nat.le_of_ble_eq_true rfl, Nat.le_of_ble_eq_true rfl⟩ (fun z => z)
  · refine gy_if_eq (tgt := 8) (gi_rgS g2) dX3_learn_4 (by decide) (fun z => absurd z c3) (fun _ => ?_)
    cases e
    exact gx_vret dX3_learn_7 rfl ⟨Nat.le_of_ble_eq_true rfl, Nat.le_of_ble_eq_true rfl⟩ (fun z => z)
/-! X3_vanishes  -/
set_option maxRecDepth 100000 in
def f_X3_vanishes (v0 : Nat) (v1 : Int) (h : gi_H) : Option (Int) :=
  Option.bind (gi_is h v0 2) fun _ => Option.bind (f_X3_beginOf v0 ((16 : Int) + v1) h) fun q2 => Option.bind (gi_rg (gi_and q2 (512 : Int))) fun _ => if (gi_and q2 (512 : Int)) = 0 then (some (0 : Int)) else (some (1 : Int))
set_option maxRecDepth 100000 in
theorem z_X3_vanishes {al : Bool} {v0 : Nat} {v1 : Int} {h : gi_H} {res : Int} (e : f_X3_vanishes v0 v1 h = some res) : gx_Cw mX3_vanishes al [.ref v0, .int (gI v1)] (gi_cv h) (.inl (some (.int (gI res)))) (gi_cv h) := by
  refine gx_enter (by decide +kernel) rfl (Nat.le_of_ble_eq_true rfl) ?_
  show gx_Z mX3_vanishes al al 0 0 0 [(0, .ref v0), (1, .int (gI v1))] [] (gi_cv h) (.inl (some (.int (gI res)))) (gi_cv h)
  refine gx_aload_n dX3_vanishes_0 rfl 0 rfl ?_
  refine gy_bipush dX3_vanishes_1 gcb_16 ?_
  refine gx_iload_n dX3_vanishes_3 rfl 1 rfl ?_
  refine gy_iadd dX3_vanishes_4 ?_
  refine gx_bE e (fun _ hu1 e => ?_)
  refine gx_bE e (fun q2 hq2 e => ?_)
  refine gx_callV (n := 1) (st := []) (As := [.int (gI ((16 : Int) + v1))]) (b := v0) dX3_vanishes_5 (z_X3_beginOf hq2) rfl ⟨rfl, gw_cw_X3_beginOf, gw_6, gp_X3_beginOf, ⟨Nat.le_of_ble_eq_true rfl, Nat.le_of_ble_eq_true rfl⟩⟩ (gi_isS hu1) (by decide) gw_431 gw_433 gs_3 rfl ⟨Nat.le_of_ble_eq_true rfl, Nat.le_of_ble_eq_true rfl⟩ (Nat.le_of_ble_eq_true rfl) (gy_k1 (x := .int (gI q2)) (kc2 := 0) (ks2 := 0) ⟨rfl, rfl⟩ ?_) gy_kn
  refine gy_sipush dX3_vanishes_8 gcs_512 ?_
  refine gy_iand dX3_vanishes_11 ?_
  refine gx_bE e (fun _ g3 e => ?_)
  refine gx_iE e (fun c4 e => ?_) (fun c4 e => ?_)
  · refine gy_if_eq (tgt := 19) (gi_rgS g3) dX3_vanishes_12 (by decide) (fun _ => ?_) (fun z => absurd c4 z)
    refine gy_iconst dX3_vanishes_19 ?_
    cases e
    exact gx_zret (by decide +kernel) dX3_vanishes_20 rfl ⟨Nat.le_of_ble_eq_true rfl, Nat.le_of_ble_eq_true rfl⟩ (fun z => z)
  · refine gy_if_eq (tgt := 19) (gi_rgS g3) dX3_vanishes_12 (by decide) (fun z => absurd z c4) (fun _ => ?_)
    refine gy_iconst dX3_vanishes_15 ?_
    refine gx_goto (tgt := 20) dX3_vanishes_16 (by decide) ?_
    cases e
    exact gx_zret (by decide +kernel) dX3_vanishes_20 rfl ⟨Nat.le_of_ble_eq_true rfl, Nat.le_of_ble_eq_true rfl⟩ (fun z => z)
/-! X11_isNullable  -/
set_option maxRecDepth 100000 in
def f_X11_isNullable (n : Nat) (v0 : Nat) (v1 : Int) (h : gi_H) : Option ((Int ⊕ String) × gi_H) :=
  Option.bind (f_X11_requireNonterminal v1 h) fun q1 => gx_sm q1.1 (fun t2 => Option.bind (gi_gR q1.2 v0 9 8) fun t3 => Option.bind (gi_is q1.2 t3 2) fun _ => Option.bind (f_X3_learn n t3 q1.2) fun q5 => Option.bind (gi_gR q5 v0 9 8) fun t6 => Option.bind (gi_is q5 t6 2) fun _ => Option.bind (f_X3_vanishes t6 v1 q5) fun q8 => Option.bind (gi_zo q8) fun _ => some (.inl q8, q5)) (fun t2 => some (.inr t2, q1.2))
set_option maxRecDepth 100000 in
theorem z_X11_isNullable {n : Nat} {v0 : Nat} {v1 : Int} {h : gi_H} {res : Int ⊕ String} {h1 : gi_H} (e : f_X11_isNullable n v0 v1 h = some (res, h1)) : gx_Cw mX11_isNullable false [.ref v0, .int (gI v1)] (gi_cv h) (gx_oI res) (gi_cv h1) := by
  refine gx_enter (by decide +kernel) rfl (Nat.le_of_ble_eq_true rfl) ?_
  show gx_Z mX11_isNullable false false 0 0 0 [(0, .ref v0), (1, .int (gI v1))] [] (gi_cv h) (gx_oI res) (gi_cv h1)
  refine gx_iload_n dX11_isNullable_0 rfl 1 rfl ?_
  refine gx_bE e (fun q1 hq1 e => ?_)
  refine gx_smE e (fun t2 ht2 e => ?_) (fun t2 ht2 e => ?_)
  · have zq1 := z_X11_requireNonterminal hq1
    rw [ht2] at zq1
    refine gx_callS (n := 1) (st := []) (As := [.int (gI v1)]) dX11_isNullable_1 zq1 rfl ⟨rfl, gw_cw_X11_requireNonterminal, gw_1, gp_X11_requireNonterminal, ⟨Nat.le_of_ble_eq_true rfl, Nat.le_of_ble_eq_true rfl⟩⟩ gw_1114 gw_1115 ⟨Nat.le_of_ble_eq_true rfl, Nat.le_of_ble_eq_true rfl⟩ (Nat.le_of_ble_eq_true rfl) (gy_k0 (kc2 := 1) (ks2 := 6) ⟨rfl, rfl⟩ ?_) gy_kn
    refine gx_aload_n dX11_isNullable_4 rfl 0 rfl ?_
    refine gx_bE e (fun t3 ht3 e => ?_)
    refine gy_fR ht3 dX11_isNullable_5 gf_RX11_52_9_8 (by decide) gkN_9_8 gkR_9_8 ?_
    refine gx_bE e (fun _ hu4 e => ?_)
    refine gx_bE e (fun q5 hq5 e => ?_)
    refine gx_callV (n := 0) (st := []) (As := []) (b := t3) dX11_isNullable_8 (z_X3_learn hq5) rfl ⟨rfl, gw_cw_X3_learn, gw_6, gp_X3_learn, ⟨Nat.le_of_ble_eq_true rfl, Nat.le_of_ble_eq_true rfl⟩⟩ (gi_isS hu4) (by decide) gw_404 gw_405 gw_406 rfl ⟨Nat.le_of_ble_eq_true rfl, Nat.le_of_ble_eq_true rfl⟩ (Nat.le_of_ble_eq_true rfl) (gy_k0 (kc2 := 1) (ks2 := 6) ⟨rfl, rfl⟩ ?_) gy_kn
    refine gx_aload_n dX11_isNullable_11 rfl 0 rfl ?_
    refine gx_bE e (fun t6 ht6 e => ?_)
    refine gy_fR ht6 dX11_isNullable_12 gf_RX11_52_9_8 (by decide) gkN_9_8 gkR_9_8 ?_
    refine gx_iload_n dX11_isNullable_15 rfl 1 rfl ?_
    refine gx_bE e (fun _ hu7 e => ?_)
    refine gx_bE e (fun q8 hq8 e => ?_)
    refine gx_callV (n := 1) (st := []) (As := [.int (gI v1)]) (b := t6) dX11_isNullable_16 (z_X3_vanishes hq8) rfl ⟨rfl, gw_cw_X3_vanishes, gw_6, gp_X3_vanishes, ⟨Nat.le_of_ble_eq_true rfl, Nat.le_of_ble_eq_true rfl⟩⟩ (gi_isS hu7) (by decide) gw_1117 gw_1118 gw_1119 rfl ⟨Nat.le_of_ble_eq_true rfl, Nat.le_of_ble_eq_true rfl⟩ (Nat.le_of_ble_eq_true rfl) (gy_k1 (x := .int (gI q8)) (kc2 := 1) (ks2 := 6) ⟨rfl, rfl⟩ ?_) gy_kn
    refine gx_bE e (fun _ hu9 e => ?_)
    cases e
    exact gx_zret (gi_zoS hu9) dX11_isNullable_19 rfl ⟨Nat.le_of_ble_eq_true rfl, Nat.le_of_ble_eq_true rfl⟩ (fun z => z)
  · have zq1 := z_X11_requireNonterminal hq1
    rw [ht2] at zq1
    refine gx_callS (n := 1) (st := []) (As := [.int (gI v1)]) dX11_isNullable_1 zq1 rfl ⟨rfl, gw_cw_X11_requireNonterminal, gw_1, gp_X11_requireNonterminal, ⟨Nat.le_of_ble_eq_true rfl, Nat.le_of_ble_eq_true rfl⟩⟩ gw_1114 gw_1115 ⟨Nat.le_of_ble_eq_true rfl, Nat.le_of_ble_eq_true rfl⟩ (Nat.le_of_ble_eq_true rfl) gy_kN (gy_kE (kc2 := 1) (ks2 := 6) ⟨rfl, rfl⟩ ?_)
    cases e
    exact gx_out rfl ⟨Nat.le_of_ble_eq_true rfl, Nat.le_of_ble_eq_true rfl⟩ (fun z => z)
/-! L_isNullable  -/
set_option maxRecDepth 100000 in
def b_L_isNullable_15 (n : Nat)   (s0 : Nat) (s1 : Int) (s2 : Int) (h : gi_H) : Option (Int × gi_H) :=
  Option.bind (gi_s2 h s0 s1 s2) fun h6 => some ((0 : Int), h6)
set_option maxRecDepth 100000 in
theorem zb_L_isNullable_15 {n : Nat}  {res : Int} {h1 : gi_H}   {s0 : Nat} {s1 : Int} {s2 : Int} {h : gi_H} (e : b_L_isNullable_15 n s0 s1 s2 h = some (res, h1)) : gx_Z mL_isNullable false false 1 6 15 [] [.long (gL s2), .int (gI s1), .ref s0] (gi_cv h) (.inl (some (.int (gI res)))) (gi_cv h1) := by
  refine gx_bE e (fun h6 hh6 e => ?_)
  refine gy_t2 hh6 dL_isNullable_15 ?_
  refine gx_goto (tgt := 22) dL_isNullable_16 (by decide) ?_
  refine gy_iconst dL_isNullable_22 ?_
  cases e
  exact gx_iret dL_isNullable_23 rfl ⟨Nat.le_of_ble_eq_true rfl, Nat.le_of_ble_eq_true rfl⟩ (fun z => z)
set_option maxRecDepth 100000 in
def f_L_isNullable (n : Nat) (v0 : Nat) (v1 : Int) (v2 : Nat) (h : gi_H) : Option (Int × gi_H) :=
  Option.bind (gi_is h v0 9) fun _ => Option.bind (f_X11_isNullable n v0 v1 h) fun q2 => gx_sm q2.1 (fun t3 => Option.bind (gi_rg t3) fun _ => if t3 = 0 then (b_L_isNullable_15 n  v2 (0 : Int) (0 : Int) q2.2) else (b_L_isNullable_15 n  v2 (0 : Int) (1 : Int) q2.2)) (fun t3 => if t3 = gx_IOB then (some ((1 : Int), q2.2)) else (none))
set_option maxRecDepth 100000 in
theorem z_L_isNullable {n : Nat} {v0 : Nat} {v1 : Int} {v2 : Nat} {h : gi_H} {res : Int} {h1 : gi_H} (e : f_L_isNullable n v0 v1 v2 h = some (res, h1)) : gx_Cw mL_isNullable false [.ref v0, .int (gI v1), .ref v2] (gi_cv h) (.inl (some (.int (gI res)))) (gi_cv h1) := by
  refine gx_enter (by decide +kernel) rfl (Nat.le_of_ble_eq_true rfl) ?_
  show gx_Z mL_isNullable false false 0 0 0 [(0, .ref v0), (1, .int (gI v1)), (2, .ref v2)] [] (gi_cv h) (.inl (some (.int (gI res)))) (gi_cv h1)
  refine gx_aload_n dL_isNullable_0 rfl 2 rfl ?_
  refine gy_iconst dL_isNullable_1 ?_
  refine gx_aload_n dL_isNullable_2 rfl 0 rfl ?_
  refine gx_iload_n dL_isNullable_3 rfl 1 rfl ?_
  refine gx_bE e (fun _ hu1 e => ?_)
  refine gx_bE e (fun q2 hq2 e => ?_)
  refine gx_smE e (fun t3 ht3 e => ?_) (fun t3 ht3 e => ?_)
  · have zq2 := z_X11_isNullable hq2
    rw [ht3] at zq2
    refine gx_callV (n := 1) (st := [.int (gI (0 : Int)), .ref v2]) (As := [.int (gI v1)]) (b := v0) dL_isNullable_4 zq2 rfl ⟨rfl, gw_cw_X11_isNullable, gw_1, gp_X11_isNullable, ⟨Nat.le_of_ble_eq_true rfl, Nat.le_of_ble_eq_true rfl⟩⟩ (gi_isS hu1) (by decide) gw_1110 gw_1111 gw_1112 rfl ⟨Nat.le_of_ble_eq_true rfl, Nat.le_of_ble_eq_true rfl⟩ (Nat.le_of_ble_eq_true rfl) (gy_k1 (x := .int (gI t3)) (kc2 := 1) (ks2 := 6) ⟨rfl, rfl⟩ ?_) gy_kn
    refine gx_bE e (fun _ g4 e => ?_)
    refine gx_iE e (fun c5 e => ?_) (fun c5 e => ?_)
    · refine gy_if_eq (tgt := 14) (gi_rgS g4) dL_isNullable_7 (by decide) (fun _ => ?_) (fun z => absurd c5 z)
      refine gy_lconst (v := 0) dL_isNullable_14 (by decide +kernel) ?_
      refine gx_sub (ls2 := []) [] rfl ?_
      exact zb_L_isNullable_15  e
    · refine gy_if_eq (tgt := 14) (gi_rgS g4) dL_isNullable_7 (by decide) (fun z => absurd z c5) (fun _ => ?_)
      refine gy_lconst (v := 1) dL_isNullable_10 (by decide +kernel) ?_
      refine gx_goto (tgt := 15) dL_isNullable_11 (by decide) ?_
      refine gx_sub (ls2 := []) [] rfl ?_
      exact zb_L_isNullable_15  e
  · have zq2 := z_X11_isNullable hq2
    rw [ht3] at zq2
    refine gx_callV (n := 1) (st := [.int (gI (0 : Int)), .ref v2]) (As := [.int (gI v1)]) (b := v0) dL_isNullable_4 zq2 rfl ⟨rfl, gw_cw_X11_isNullable, gw_1, gp_X11_isNullable, ⟨Nat.le_of_ble_eq_true rfl, Nat.le_of_ble_eq_true rfl⟩⟩ (gi_isS hu1) (by decide) gw_1110 gw_1111 gw_1112 rfl ⟨Nat.le_of_ble_eq_true rfl, Nat.le_of_ble_eq_true rfl⟩ (Nat.le_of_ble_eq_true rfl) gy_kN (gy_kE (kc2 := 1) (ks2 := 6) ⟨rfl, rfl⟩ ?_)
    refine gx_iE e (fun c7 e => ?_) (fun c7 e => ?_)
    · rw [c7]
      refine gx_catch (ls2 := [(0, .ref v0), (1, .int (gI v1)), (2, .ref v2)]) [] (x := (0, 16, 19, 28)) rfl (fun z hz => by cases hz) (by decide +kernel) (by decide) gw_1028 (by decide +kernel) (Nat.le_of_ble_eq_true rfl) (Or.inl ⟨3, rfl, rfl, dL_isNullable_19⟩) rfl ?_
      refine gy_iconst dL_isNullable_20 ?_
      cases e
      exact gx_iret dL_isNullable_21 rfl ⟨Nat.le_of_ble_eq_true rfl, Nat.le_of_ble_eq_true rfl⟩ (fun z => z)
    cases e
/-! X12_lead  -/
set_option maxRecDepth 100000 in
def f_X12_lead (v0 : Nat) (v1 : Int) (h : gi_H) : Option (Int) :=
  Option.bind (gi_gR h v0 10 0) fun t1 => Option.bind (gi_gI h v0 10 9) fun t2 => Option.bind (gi_aI h 1 t1 (((24 : Int) * t2) + v1)) fun t3 => some t3
set_option maxRecDepth 100000 in
theorem z_X12_lead {al : Bool} {v0 : Nat} {v1 : Int} {h : gi_H} {res : Int} (e : f_X12_lead v0 v1 h = some res) : gx_Cw mX12_lead al [.ref v0, .int (gI v1)] (gi_cv h) (.inl (some (.int (gI res)))) (gi_cv h) := by
  refine gx_enter (by decide +kernel) rfl (Nat.le_of_ble_eq_true rfl) ?_
  show gx_Z mX12_lead al al 0 0 0 [(0, .ref v0), (1, .int (gI v1))] [] (gi_cv h) (.inl (some (.int (gI res)))) (gi_cv h)
  refine gx_aload_n dX12_lead_0 rfl 0 rfl ?_
  refine gx_bE e (fun t1 ht1 e => ?_)
  refine gy_fR ht1 dX12_lead_1 gf_RX12_7_10_0 (by decide) gkN_10_0 gkR_10_0 ?_
  refine gy_bipush dX12_lead_4 gcb_24 ?_
  refine gx_aload_n dX12_lead_6 rfl 0 rfl ?_
  refine gx_bE e (fun t2 ht2 e => ?_)
  refine gy_fI ht2 dX12_lead_7 gf_RX12_139_10_9 (by decide) gkN_10_9 gkR_10_9 ?_
  refine gy_imul dX12_lead_10 ?_
  refine gx_iload_n dX12_lead_11 rfl 1 rfl ?_
  refine gy_iadd dX12_lead_12 ?_
  refine gx_bE e (fun t3 ht3 e => ?_)
  refine gy_l1 ht3 dX12_lead_13 ?_
  cases e
  exact gx_iret dX12_lead_14 rfl ⟨Nat.le_of_ble_eq_true rfl, Nat.le_of_ble_eq_true rfl⟩ (fun z => z)
/-! X12_firstFrom  -/
set_option maxRecDepth 100000 in
def b_X12_firstFrom_87 (n : Nat) (r8 : Nat → Int → Int → Int → Int → gi_H → Option (Int)) (v0 : Nat) (v1 : Int) (v3 : Int) (v5 : Int) (s0 : Int) (h : gi_H) : Option (Int) :=
  gx_nm (v5 + (1 : Int)) fun t17 => r8 v0 v1 v3 s0 t17 h
set_option maxRecDepth 100000 in
theorem zb_X12_firstFrom_87 {al : Bool} {n : Nat} {r8 : Nat → Int → Int → Int → Int → gi_H → Option (Int)} {res : Int} (hr8 : ∀ (x0 : Nat) (x1 : Int) (x3 : Int) (x4 : Int) (x5 : Int) (hh : gi_H), r8 x0 x1 x3 x4 x5 hh = some res → gx_Z mX12_firstFrom al al 0 0 8 [(0, .ref x0), (1, .int (gI x1)), (3, .int (gI x3)), (4, .int (gI x4)), (5, .int (gI x5))] [] (gi_cv hh) (.inl (some (.int (gI res)))) (gi_cv hh)) {v0 : Nat} {v1 : Int} {v3 : Int} {v5 : Int} {s0 : Int} {h : gi_H} (e : b_X12_firstFrom_87 n r8 v0 v1 v3 v5 s0 h = some res) : gx_Z mX12_firstFrom al al 0 0 87 [(0, .ref v0), (1, .int (gI v1)), (3, .int (gI v3)), (5, .int (gI v5))] [.int (gI s0)] (gi_cv h) (.inl (some (.int (gI res)))) (gi_cv h) := by
  refine gx_istore (ls2 := [(4, .int (gI s0)), (0, .ref v0), (1, .int (gI v1)), (3, .int (gI v3)), (5, .int (gI v5))]) dX12_firstFrom_87 (Nat.le_of_ble_eq_true rfl) rfl ?_
  refine gx_nE e (fun t17 ht17 e => ?_)
  refine gy_iinc (v := t17) (ls2 := [(5, .int (gI t17)), (4, .int (gI s0)), (0, .ref v0), (1, .int (gI v1)), (3, .int (gI v3))]) dX12_firstFrom_89 4 rfl ht17 (Nat.le_of_ble_eq_true rfl) rfl ?_
  refine gx_goto (tgt := 8) dX12_firstFrom_92 (by decide) ?_
  refine gx_sub (ls2 := [(0, .ref v0), (1, .int (gI v1)), (3, .int (gI v3)), (4, .int (gI s0)), (5, .int (gI t17))]) [2, 3, 4, 1, 0] rfl ?_
  exact hr8 _ _ _ _ _ _ e
set_option maxRecDepth 100000 in
def b_X12_firstFrom_86 (n : Nat) (r8 : Nat → Int → Int → Int → Int → gi_H → Option (Int)) (v0 : Nat) (v1 : Int) (v3 : Int) (v5 : Int)  (h : gi_H) : Option (Int) :=
  b_X12_firstFrom_87 n r8 v0 v1 v3 v5 (0 : Int) h
set_option maxRecDepth 100000 in
theorem zb_X12_firstFrom_86 {al : Bool} {n : Nat} {r8 : Nat → Int → Int → Int → Int → gi_H → Option (Int)} {res : Int} (hr8 : ∀ (x0 : Nat) (x1 : Int) (x3 : Int) (x4 : Int) (x5 : Int) (hh : gi_H), r8 x0 x1 x3 x4 x5 hh = some res → gx_Z mX12_firstFrom al al 0 0 8 [(0, .ref x0), (1, .int (gI x1)), (3, .int (gI x3)), (4, .int (gI x4)), (5, .int (gI x5))] [] (gi_cv hh) (.inl (some (.int (gI res)))) (gi_cv hh)) {v0 : Nat} {v1 : Int} {v3 : Int} {v5 : Int}  {h : gi_H} (e : b_X12_firstFrom_86 n r8 v0 v1 v3 v5 h = some res) : gx_Z mX12_firstFrom al al 0 0 86 [(0, .ref v0), (1, .int (gI v1)), (3, .int (gI v3)), (5, .int (gI v5))] [] (gi_cv h) (.inl (some (.int (gI res)))) (gi_cv h) := by
  refine gy_iconst dX12_firstFrom_86 ?_
  exact zb_X12_firstFrom_87 hr8 e
set_option maxRecDepth 100000 in
def b_X12_firstFrom_57 (n : Nat) (r8 : Nat → Int → Int → Int → Int → gi_H → Option (Int)) (v0 : Nat) (v1 : Int) (v5 : Int) (v6 : Int) (s0 : Int) (s1 : Int) (h : gi_H) : Option (Int) :=
  gx_nm (gi_or s0 s1) fun t14 => Option.bind (gi_rg v6) fun _ => if v6 < (16 : Int) then (b_X12_firstFrom_86 n r8 v0 v1 t14 v5 h) else (Option.bind (gi_gI h v0 10 18) fun t18 => Option.bind (gi_rg (gi_and (gi_shr t18 (v6 - (16 : Int))) (1 : Int))) fun _ => if (gi_and (gi_shr t18 (v6 - (16 : Int))) (1 : Int)) = (1 : Int) then (b_X12_firstFrom_87 n r8 v0 v1 t14 v5 (1 : Int) h) else (b_X12_firstFrom_86 n r8 v0 v1 t14 v5 h))
set_option maxRecDepth 100000 in
theorem zb_X12_firstFrom_57 {al : Bool} {n : Nat} {r8 : Nat → Int → Int → Int → Int → gi_H → Option (Int)} {res : Int} (hr8 : ∀ (x0 : Nat) (x1 : Int) (x3 : Int) (x4 : Int) (x5 : Int) (hh : gi_H), r8 x0 x1 x3 x4 x5 hh = some res → gx_Z mX12_firstFrom al al 0 0 8 [(0, .ref x0), (1, .int (gI x1)), (3, .int (gI x3)), (4, .int (gI x4)), (5, .int (gI x5))] [] (gi_cv hh) (.inl (some (.int (gI res)))) (gi_cv hh)) {v0 : Nat} {v1 : Int} {v5 : Int} {v6 : Int} {s0 : Int} {s1 : Int} {h : gi_H} (e : b_X12_firstFrom_57 n r8 v0 v1 v5 v6 s0 s1 h = some res) : gx_Z mX12_firstFrom al al 0 0 57 [(0, .ref v0), (1, .int (gI v1)), (5, .int (gI v5)), (6, .int (gI v6))] [.int (gI s1), .int (gI s0)] (gi_cv h) (.inl (some (.int (gI res)))) (gi_cv h) := by
  refine gy_ior dX12_firstFrom_57 ?_
  refine gx_nE e (fun t14 ht14 e => ?_)
  rw [ht14]
  refine gx_istore_n (ls2 := [(3, .int (gI t14)), (0, .ref v0), (1, .int (gI v1)), (5, .int (gI v5)), (6, .int (gI v6))]) dX12_firstFrom_58 rfl (Nat.le_of_ble_eq_true rfl) rfl ?_
  refine gx_iload dX12_firstFrom_59 4 rfl ?_
  refine gy_bipush dX12_firstFrom_61 gcb_16 ?_
  refine gx_bE e (fun _ g15 e => ?_)
  refine gx_iE e (fun c16 e => ?_) (fun c16 e => ?_)
  · refine gy_icmp_lt (tgt := 86) (gi_rgS g15) (by decide) dX12_firstFrom_63 (by decide) (fun _ => ?_) (fun z => absurd c16 z)
    refine gx_sub (ls2 := [(0, .ref v0), (1, .int (gI v1)), (3, .int (gI t14)), (5, .int (gI v5))]) [1, 2, 0, 3] rfl ?_
    exact zb_X12_firstFrom_86 hr8 e
  · refine gy_icmp_lt (tgt := 86) (gi_rgS g15) (by decide) dX12_firstFrom_63 (by decide) (fun z => absurd z c16) (fun _ => ?_)
    refine gx_aload_n dX12_firstFrom_66 rfl 1 rfl ?_
    refine gx_bE e (fun t18 ht18 e => ?_)
    refine gy_fI ht18 dX12_firstFrom_67 gf_RX12_190_10_18 (by decide) gkN_10_18 gkR_10_18 ?_
    refine gx_iload dX12_firstFrom_70 4 rfl ?_
    refine gy_bipush dX12_firstFrom_72 gcb_16 ?_
    refine gy_isub dX12_firstFrom_74 ?_
    refine gy_ishr dX12_firstFrom_75 ?_
    refine gy_iconst dX12_firstFrom_76 ?_
    refine gy_iand dX12_firstFrom_77 ?_
    refine gy_iconst dX12_firstFrom_78 ?_
    refine gx_bE e (fun _ g19 e => ?_)
    refine gx_iE e (fun c20 e => ?_) (fun c20 e => ?_)
    · refine gy_icmp_ne (tgt := 86) (gi_rgS g19) (by decide) dX12_firstFrom_79 (by decide) (fun z => absurd c20 z) (fun _ => ?_)
      refine gy_iconst dX12_firstFrom_82 ?_
      refine gx_goto (tgt := 87) dX12_firstFrom_83 (by decide) ?_
      refine gx_sub (ls2 := [(0, .ref v0), (1, .int (gI v1)), (3, .int (gI t14)), (5, .int (gI v5))]) [1, 2, 0, 3] rfl ?_
      exact zb_X12_firstFrom_87 hr8 e
    · refine gy_icmp_ne (tgt := 86) (gi_rgS g19) (by decide) dX12_firstFrom_79 (by decide) (fun _ => ?_) (fun z => absurd z c20)
      refine gx_sub (ls2 := [(0, .ref v0), (1, .int (gI v1)), (3, .int (gI t14)), (5, .int (gI v5))]) [1, 2, 0, 3] rfl ?_
      exact zb_X12_firstFrom_86 hr8 e
set_option maxRecDepth 100000 in
def b_X12_firstFrom_8 (n : Nat) (r8 : Nat → Int → Int → Int → Int → gi_H → Option (Int)) (v0 : Nat) (v1 : Int) (v3 : Int) (v4 : Int) (v5 : Int)  (h : gi_H) : Option (Int) :=
  Option.bind (gi_is h v0 10) fun _ => Option.bind (f_X12_sizeOf v0 v1 h) fun q2 => Option.bind (gi_rg v5) fun _ => Option.bind (gi_rg q2) fun _ => if q2 ≤ v5 then (some v3) else (Option.bind (gi_rg v4) fun _ => if v4 = 0 then (some v3) else (Option.bind (gi_is h v0 10) fun _ => Option.bind (f_X12_symbol v0 v1 v5 h) fun q9 => Option.bind (gi_rg q9) fun _ => if (16 : Int) ≤ q9 then (Option.bind (gi_gR h v0 10 19) fun t12 => Option.bind (gi_aI h 1 t12 (q9 - (16 : Int))) fun t13 => b_X12_firstFrom_57 n r8 v0 v1 v5 q9 v3 t13 h) else (b_X12_firstFrom_57 n r8 v0 v1 v5 q9 v3 (gi_shl (1 : Int) q9) h)))
set_option maxRecDepth 100000 in
theorem zb_X12_firstFrom_8 {al : Bool} {n : Nat} {r8 : Nat → Int → Int → Int → Int → gi_H → Option (Int)} {res : Int} (hr8 : ∀ (x0 : Nat) (x1 : Int) (x3 : Int) (x4 : Int) (x5 : Int) (hh : gi_H), r8 x0 x1 x3 x4 x5 hh = some res → gx_Z mX12_firstFrom al al 0 0 8 [(0, .ref x0), (1, .int (gI x1)), (3, .int (gI x3)), (4, .int (gI x4)), (5, .int (gI x5))] [] (gi_cv hh) (.inl (some (.int (gI res)))) (gi_cv hh)) {v0 : Nat} {v1 : Int} {v3 : Int} {v4 : Int} {v5 : Int}  {h : gi_H} (e : b_X12_firstFrom_8 n r8 v0 v1 v3 v4 v5 h = some res) : gx_Z mX12_firstFrom al al 0 0 8 [(0, .ref v0), (1, .int (gI v1)), (3, .int (gI v3)), (4, .int (gI v4)), (5, .int (gI v5))] [] (gi_cv h) (.inl (some (.int (gI res)))) (gi_cv h) := by
  refine gx_iload dX12_firstFrom_8 4 rfl ?_
  refine gx_aload_n dX12_firstFrom_10 rfl 0 rfl ?_
  refine gx_iload_n dX12_firstFrom_11 rfl 1 rfl ?_
  refine gx_bE e (fun _ hu1 e => ?_)
  refine gx_bE e (fun q2 hq2 e => ?_)
  refine gx_callV (n := 1) (st := [.int (gI v5)]) (As := [.int (gI v1)]) (b := v0) dX12_firstFrom_12 (z_X12_sizeOf hq2) rfl ⟨rfl, gw_cw_X12_sizeOf, gw_14, gp_X12_sizeOf, ⟨Nat.le_of_ble_eq_true rfl, Nat.le_of_ble_eq_true rfl⟩⟩ (gi_isS hu1) (by decide) gw_1579 gw_1581 gs_71 rfl ⟨Nat.le_of_ble_eq_true rfl, Nat.le_of_ble_eq_true rfl⟩ (Nat.le_of_ble_eq_true rfl) (gy_k1 (x := .int (gI q2)) (kc2 := 0) (ks2 := 0) ⟨rfl, rfl⟩ ?_) gy_kn
  refine gx_bE e (fun _ g3 e => ?_)
  refine gx_bE e (fun _ g4 e => ?_)
  refine gx_iE e (fun c5 e => ?_) (fun c5 e => ?_)
  · refine gy_icmp_ge (tgt := 95) (gi_rgS g3) (gi_rgS g4) dX12_firstFrom_15 (by decide) (fun _ => ?_) (fun z => absurd c5 z)
    refine gx_iload_n dX12_firstFrom_95 rfl 2 rfl ?_
    cases e
    exact gx_iret dX12_firstFrom_96 rfl ⟨Nat.le_of_ble_eq_true rfl, Nat.le_of_ble_eq_true rfl⟩ (fun z => z)
  · refine gy_icmp_ge (tgt := 95) (gi_rgS g3) (gi_rgS g4) dX12_firstFrom_15 (by decide) (fun z => absurd z c5) (fun _ => ?_)
    refine gx_iload dX12_firstFrom_18 3 rfl ?_
    refine gx_bE e (fun _ g6 e => ?_)
    refine gx_iE e (fun c7 e => ?_) (fun c7 e => ?_)
    · refine gy_if_eq (tgt := 95) (gi_rgS g6) dX12_firstFrom_20 (by decide) (fun _ => ?_) (fun z => absurd c7 z)
      refine gx_iload_n dX12_firstFrom_95 rfl 2 rfl ?_
      cases e
      exact gx_iret dX12_firstFrom_96 rfl ⟨Nat.le_of_ble_eq_true rfl, Nat.le_of_ble_eq_true rfl⟩ (fun z => z)
    · refine gy_if_eq (tgt := 95) (gi_rgS g6) dX12_firstFrom_20 (by decide) (fun z => absurd z c7) (fun _ => ?_)
      refine gx_aload_n dX12_firstFrom_23 rfl 0 rfl ?_
      refine gx_iload_n dX12_firstFrom_24 rfl 1 rfl ?_
      refine gx_iload dX12_firstFrom_25 4 rfl ?_
      refine gx_bE e (fun _ hu8 e => ?_)
      refine gx_bE e (fun q9 hq9 e => ?_)
      refine gx_callV (n := 2) (st := []) (As := [.int (gI v1), .int (gI v5)]) (b := v0) dX12_firstFrom_27 (z_X12_symbol hq9) rfl ⟨rfl, gw_cw_X12_symbol, gw_14, gp_X12_symbol, ⟨Nat.le_of_ble_eq_true rfl, Nat.le_of_ble_eq_true rfl⟩⟩ (gi_isS hu8) (by decide) gw_1575 gw_1577 gs_70 rfl ⟨Nat.le_of_ble_eq_true rfl, Nat.le_of_ble_eq_true rfl⟩ (Nat.le_of_ble_eq_true rfl) (gy_k1 (x := .int (gI q9)) (kc2 := 0) (ks2 := 0) ⟨rfl, rfl⟩ ?_) gy_kn
      refine gx_istore (ls2 := [(6, .int (gI q9)), (0, .ref v0), (1, .int (gI v1)), (3, .int (gI v3)), (4, .int (gI v4)), (5, .int (gI v5))]) dX12_firstFrom_30 (Nat.le_of_ble_eq_true rfl) rfl ?_
      refine gx_iload_n dX12_firstFrom_32 rfl 3 rfl ?_
      refine gx_iload dX12_firstFrom_33 0 rfl ?_
      refine gy_bipush dX12_firstFrom_35 gcb_16 ?_
      refine gx_bE e (fun _ g10 e => ?_)
      refine gx_iE e (fun c11 e => ?_) (fun c11 e => ?_)
      · refine gy_icmp_ge (tgt := 47) (gi_rgS g10) (by decide) dX12_firstFrom_37 (by decide) (fun _ => ?_) (fun z => absurd c11 z)
        refine gx_aload_n dX12_firstFrom_47 rfl 1 rfl ?_
        refine gx_bE e (fun t12 ht12 e => ?_)
        refine gy_fR ht12 dX12_firstFrom_48 gf_RX12_52_10_19 (by decide) gkN_10_19 gkR_10_19 ?_
        refine gx_iload dX12_firstFrom_51 0 rfl ?_
        refine gy_bipush dX12_firstFrom_53 gcb_16 ?_
        refine gy_isub dX12_firstFrom_55 ?_
        refine gx_bE e (fun t13 ht13 e => ?_)
        refine gy_l1 ht13 dX12_firstFrom_56 ?_
        refine gx_sub (ls2 := [(0, .ref v0), (1, .int (gI v1)), (5, .int (gI v5)), (6, .int (gI q9))]) [1, 2, 5, 0] rfl ?_
        exact zb_X12_firstFrom_57 hr8 e
      · refine gy_icmp_ge (tgt := 47) (gi_rgS g10) (by decide) dX12_firstFrom_37 (by decide) (fun z => absurd z c11) (fun _ => ?_)
        refine gy_iconst dX12_firstFrom_40 ?_
        refine gx_iload dX12_firstFrom_41 0 rfl ?_
        refine gy_ishl dX12_firstFrom_43 ?_
        refine gx_goto (tgt := 57) dX12_firstFrom_44 (by decide) ?_
        refine gx_sub (ls2 := [(0, .ref v0), (1, .int (gI v1)), (5, .int (gI v5)), (6, .int (gI q9))]) [1, 2, 5, 0] rfl ?_
        exact zb_X12_firstFrom_57 hr8 e
def l_X12_firstFrom_8 (n : Nat)  : Nat → Nat → Int → Int → Int → Int → gi_H → Option (Int)
  | 0, _, _, _, _, _, _ => none
  | k + 1, v0, v1, v3, v4, v5, h => b_X12_firstFrom_8 n  (l_X12_firstFrom_8 n  k) v0 v1 v3 v4 v5 h
theorem zl_X12_firstFrom_8 {al : Bool} {n : Nat}  {res : Int}  : ∀ (k : Nat) (v0 : Nat) (v1 : Int) (v3 : Int) (v4 : Int) (v5 : Int) (h : gi_H), l_X12_firstFrom_8 n  k v0 v1 v3 v4 v5 h = some res → gx_Z mX12_firstFrom al al 0 0 8 [(0, .ref v0), (1, .int (gI v1)), (3, .int (gI v3)), (4, .int (gI v4)), (5, .int (gI v5))] [] (gi_cv h) (.inl (some (.int (gI res)))) (gi_cv h)
  | 0, _, _, _, _, _, _, e => gx_0E e
  | k + 1, _, _, _, _, _, _, e => zb_X12_firstFrom_8 (n := n)  (zl_X12_firstFrom_8  k) e
set_option maxRecDepth 100000 in
def f_X12_firstFrom (n : Nat) (v0 : Nat) (v1 : Int) (v2 : Int) (h : gi_H) : Option (Int) :=
  l_X12_firstFrom_8 n  n v0 v1 (0 : Int) (1 : Int) v2 h
set_option maxRecDepth 100000 in
theorem z_X12_firstFrom {al : Bool} {n : Nat} {v0 : Nat} {v1 : Int} {v2 : Int} {h : gi_H} {res : Int} (e : f_X12_firstFrom n v0 v1 v2 h = some res) : gx_Cw mX12_firstFrom al [.ref v0, .int (gI v1), .int (gI v2)] (gi_cv h) (.inl (some (.int (gI res)))) (gi_cv h) := by
  refine gx_enter (by decide +kernel) rfl (Nat.le_of_ble_eq_true rfl) ?_
  show gx_Z mX12_firstFrom al al 0 0 0 [(0, .ref v0), (1, .int (gI v1)), (2, .int (gI v2))] [] (gi_cv h) (.inl (some (.int (gI res)))) (gi_cv h)
  refine gy_iconst dX12_firstFrom_0 ?_
  refine gx_istore_n (ls2 := [(3, .int (gI (0 : Int))), (0, .ref v0), (1, .int (gI v1)), (2, .int (gI v2))]) dX12_firstFrom_1 rfl (Nat.le_of_ble_eq_true rfl) rfl ?_
  refine gy_iconst dX12_firstFrom_2 ?_
  refine gx_istore (ls2 := [(4, .int (gI (1 : Int))), (3, .int (gI (0 : Int))), (0, .ref v0), (1, .int (gI v1)), (2, .int (gI v2))]) dX12_firstFrom_3 (Nat.le_of_ble_eq_true rfl) rfl ?_
  refine gx_iload_n dX12_firstFrom_5 rfl 4 rfl ?_
  refine gx_istore (ls2 := [(5, .int (gI v2)), (4, .int (gI (1 : Int))), (3, .int (gI (0 : Int))), (0, .ref v0), (1, .int (gI v1)), (2, .int (gI v2))]) dX12_firstFrom_6 (Nat.le_of_ble_eq_true rfl) rfl ?_
  refine gx_sub (ls2 := [(0, .ref v0), (1, .int (gI v1)), (3, .int (gI (0 : Int))), (4, .int (gI (1 : Int))), (5, .int (gI v2))]) [3, 4, 2, 1, 0] rfl ?_
  exact zl_X12_firstFrom_8  n _ _ _ _ _ _ e
/-! X12_isEmptyFrom  -/
set_option maxRecDepth 100000 in
def b_X12_isEmptyFrom_56 (n : Nat) (r5 : Nat → Int → Int → Int → gi_H → Option (Int)) (v0 : Nat) (v1 : Int) (v4 : Int) (s0 : Int) (h : gi_H) : Option (Int) :=
  gx_nm (v4 + (1 : Int)) fun t11 => r5 v0 v1 s0 t11 h
set_option maxRecDepth 100000 in
theorem zb_X12_isEmptyFrom_56 {al : Bool} {n : Nat} {r5 : Nat → Int → Int → Int → gi_H → Option (Int)} {res : Int} (hr5 : ∀ (x0 : Nat) (x1 : Int) (x3 : Int) (x4 : Int) (hh : gi_H), r5 x0 x1 x3 x4 hh = some res → gx_Z mX12_isEmptyFrom al al 0 0 5 [(0, .ref x0), (1, .int (gI x1)), (3, .int (gI x3)), (4, .int (gI x4))] [] (gi_cv hh) (.inl (some (.int (gI res)))) (gi_cv hh)) {v0 : Nat} {v1 : Int} {v4 : Int} {s0 : Int} {h : gi_H} (e : b_X12_isEmptyFrom_56 n r5 v0 v1 v4 s0 h = some res) : gx_Z mX12_isEmptyFrom al al 0 0 56 [(0, .ref v0), (1, .int (gI v1)), (4, .int (gI v4))] [.int (gI s0)] (gi_cv h) (.inl (some (.int (gI res)))) (gi_cv h) := by
  refine gx_istore_n (ls2 := [(3, .int (gI s0)), (0, .ref v0), (1, .int (gI v1)), (4, .int (gI v4))]) dX12_isEmptyFrom_56 rfl (Nat.le_of_ble_eq_true rfl) rfl ?_
  refine gx_nE e (fun t11 ht11 e => ?_)
  refine gy_iinc (v := t11) (ls2 := [(4, .int (gI t11)), (3, .int (gI s0)), (0, .ref v0), (1, .int (gI v1))]) dX12_isEmptyFrom_57 3 rfl ht11 (Nat.le_of_ble_eq_true rfl) rfl ?_
  refine gx_goto (tgt := 5) dX12_isEmptyFrom_60 (by decide) ?_
  refine gx_sub (ls2 := [(0, .ref v0), (1, .int (gI v1)), (3, .int (gI s0)), (4, .int (gI t11))]) [2, 3, 1, 0] rfl ?_
  exact hr5 _ _ _ _ _ e
set_option maxRecDepth 100000 in
def b_X12_isEmptyFrom_55 (n : Nat) (r5 : Nat → Int → Int → Int → gi_H → Option (Int)) (v0 : Nat) (v1 : Int) (v4 : Int)  (h : gi_H) : Option (Int) :=
  b_X12_isEmptyFrom_56 n r5 v0 v1 v4 (0 : Int) h
set_option maxRecDepth 100000 in
theorem zb_X12_isEmptyFrom_55 {al : Bool} {n : Nat} {r5 : Nat → Int → Int → Int → gi_H → Option (Int)} {res : Int} (hr5 : ∀ (x0 : Nat) (x1 : Int) (x3 : Int) (x4 : Int) (hh : gi_H), r5 x0 x1 x3 x4 hh = some res → gx_Z mX12_isEmptyFrom al al 0 0 5 [(0, .ref x0), (1, .int (gI x1)), (3, .int (gI x3)), (4, .int (gI x4))] [] (gi_cv hh) (.inl (some (.int (gI res)))) (gi_cv hh)) {v0 : Nat} {v1 : Int} {v4 : Int}  {h : gi_H} (e : b_X12_isEmptyFrom_55 n r5 v0 v1 v4 h = some res) : gx_Z mX12_isEmptyFrom al al 0 0 55 [(0, .ref v0), (1, .int (gI v1)), (4, .int (gI v4))] [] (gi_cv h) (.inl (some (.int (gI res)))) (gi_cv h) := by
  refine gy_iconst dX12_isEmptyFrom_55 ?_
  exact zb_X12_isEmptyFrom_56 hr5 e
set_option maxRecDepth 100000 in
def b_X12_isEmptyFrom_5 (n : Nat) (r5 : Nat → Int → Int → Int → gi_H → Option (Int)) (v0 : Nat) (v1 : Int) (v3 : Int) (v4 : Int)  (h : gi_H) : Option (Int) :=
  Option.bind (gi_is h v0 10) fun _ => Option.bind (f_X12_sizeOf v0 v1 h) fun q2 => Option.bind (gi_rg v4) fun _ => Option.bind (gi_rg q2) fun _ => if q2 ≤ v4 then (Option.bind (gi_zo v3) fun _ => some v3) else (Option.bind (gi_is h v0 10) fun _ => Option.bind (f_X12_symbol v0 v1 v4 h) fun q8 => Option.bind (gi_rg v3) fun _ => if v3 = 0 then (b_X12_isEmptyFrom_55 n r5 v0 v1 v4 h) else (Option.bind (gi_rg q8) fun _ => if q8 < (16 : Int) then (b_X12_isEmptyFrom_55 n r5 v0 v1 v4 h) else (Option.bind (gi_gI h v0 10 18) fun t14 => Option.bind (gi_rg (gi_and (gi_shr t14 (q8 - (16 : Int))) (1 : Int))) fun _ => if (gi_and (gi_shr t14 (q8 - (16 : Int))) (1 : Int)) = (1 : Int) then (b_X12_isEmptyFrom_56 n r5 v0 v1 v4 (1 : Int) h) else (b_X12_isEmptyFrom_55 n r5 v0 v1 v4 h))))
set_option maxRecDepth 100000 in
theorem zb_X12_isEmptyFrom_5 {al : Bool} {n : Nat} {r5 : Nat → Int → Int → Int → gi_H → Option (Int)} {res : Int} (hr5 : ∀ (x0 : Nat) (x1 : Int) (x3 : Int) (x4 : Int) (hh : gi_H), r5 x0 x1 x3 x4 hh = some res → gx_Z mX12_isEmptyFrom al al 0 0 5 [(0, .ref x0), (1, .int (gI x1)), (3, .int (gI x3)), (4, .int (gI x4))] [] (gi_cv hh) (.inl (some (.int (gI res)))) (gi_cv hh)) {v0 : Nat} {v1 : Int} {v3 : Int} {v4 : Int}  {h : gi_H} (e : b_X12_isEmptyFrom_5 n r5 v0 v1 v3 v4 h = some res) : gx_Z mX12_isEmptyFrom al al 0 0 5 [(0, .ref v0), (1, .int (gI v1)), (3, .int (gI v3)), (4, .int (gI v4))] [] (gi_cv h) (.inl (some (.int (gI res)))) (gi_cv h) := by
  refine gx_iload dX12_isEmptyFrom_5 3 rfl ?_
  refine gx_aload_n dX12_isEmptyFrom_7 rfl 0 rfl ?_
  refine gx_iload_n dX12_isEmptyFrom_8 rfl 1 rfl ?_
  refine gx_bE e (fun _ hu1 e => ?_)
  refine gx_bE e (fun q2 hq2 e => ?_)
  refine gx_callV (n := 1) (st := [.int (gI v4)]) (As := [.int (gI v1)]) (b := v0) dX12_isEmptyFrom_9 (z_X12_sizeOf hq2) rfl ⟨rfl, gw_cw_X12_sizeOf, gw_14, gp_X12_sizeOf, ⟨Nat.le_of_ble_eq_true rfl, Nat.le_of_ble_eq_true rfl⟩⟩ (gi_isS hu1) (by decide) gw_1579 gw_1581 gs_71 rfl ⟨Nat.le_of_ble_eq_true rfl, Nat.le_of_ble_eq_true rfl⟩ (Nat.le_of_ble_eq_true rfl) (gy_k1 (x := .int (gI q2)) (kc2 := 0) (ks2 := 0) ⟨rfl, rfl⟩ ?_) gy_kn
  refine gx_bE e (fun _ g3 e => ?_)
  refine gx_bE e (fun _ g4 e => ?_)
  refine gx_iE e (fun c5 e => ?_) (fun c5 e => ?_)
  · refine gy_icmp_ge (tgt := 63) (gi_rgS g3) (gi_rgS g4) dX12_isEmptyFrom_12 (by decide) (fun _ => ?_) (fun z => absurd c5 z)
    refine gx_iload_n dX12_isEmptyFrom_63 rfl 2 rfl ?_
    refine gx_bE e (fun _ hu6 e => ?_)
    cases e
    exact gx_zret (gi_zoS hu6) dX12_isEmptyFrom_64 rfl ⟨Nat.le_of_ble_eq_true rfl, Nat.le_of_ble_eq_true rfl⟩ (fun z => z)
  · refine gy_icmp_ge (tgt := 63) (gi_rgS g3) (gi_rgS g4) dX12_isEmptyFrom_12 (by decide) (fun z => absurd z c5) (fun _ => ?_)
    refine gx_aload_n dX12_isEmptyFrom_15 rfl 0 rfl ?_
    refine gx_iload_n dX12_isEmptyFrom_16 rfl 1 rfl ?_
    refine gx_iload dX12_isEmptyFrom_17 3 rfl ?_
    refine gx_bE e (fun _ hu7 e => ?_)
    refine gx_bE e (fun q8 hq8 e => ?_)
    refine gx_callV (n := 2) (st := []) (As := [.int (gI v1), .int (gI v4)]) (b := v0) dX12_isEmptyFrom_19 (z_X12_symbol hq8) rfl ⟨rfl, gw_cw_X12_symbol, gw_14, gp_X12_symbol, ⟨Nat.le_of_ble_eq_true rfl, Nat.le_of_ble_eq_true rfl⟩⟩ (gi_isS hu7) (by decide) gw_1575 gw_1577 gs_70 rfl ⟨Nat.le_of_ble_eq_true rfl, Nat.le_of_ble_eq_true rfl⟩ (Nat.le_of_ble_eq_true rfl) (gy_k1 (x := .int (gI q8)) (kc2 := 0) (ks2 := 0) ⟨rfl, rfl⟩ ?_) gy_kn
    refine gx_istore (ls2 := [(5, .int (gI q8)), (0, .ref v0), (1, .int (gI v1)), (3, .int (gI v3)), (4, .int (gI v4))]) dX12_isEmptyFrom_22 (Nat.le_of_ble_eq_true rfl) rfl ?_
    refine gx_iload_n dX12_isEmptyFrom_24 rfl 3 rfl ?_
    refine gx_bE e (fun _ g9 e => ?_)
    refine gx_iE e (fun c10 e => ?_) (fun c10 e => ?_)
    · refine gy_if_eq (tgt := 55) (gi_rgS g9) dX12_isEmptyFrom_25 (by decide) (fun _ => ?_) (fun z => absurd c10 z)
      refine gx_sub (ls2 := [(0, .ref v0), (1, .int (gI v1)), (4, .int (gI v4))]) [1, 2, 4] rfl ?_
      exact zb_X12_isEmptyFrom_55 hr5 e
    · refine gy_if_eq (tgt := 55) (gi_rgS g9) dX12_isEmptyFrom_25 (by decide) (fun z => absurd z c10) (fun _ => ?_)
      refine gx_iload dX12_isEmptyFrom_28 0 rfl ?_
      refine gy_bipush dX12_isEmptyFrom_30 gcb_16 ?_
      refine gx_bE e (fun _ g12 e => ?_)
      refine gx_iE e (fun c13 e => ?_) (fun c13 e => ?_)
      · refine gy_icmp_lt (tgt := 55) (gi_rgS g12) (by decide) dX12_isEmptyFrom_32 (by decide) (fun _ => ?_) (fun z => absurd c13 z)
        refine gx_sub (ls2 := [(0, .ref v0), (1, .int (gI v1)), (4, .int (gI v4))]) [1, 2, 4] rfl ?_
        exact zb_X12_isEmptyFrom_55 hr5 e
      · refine gy_icmp_lt (tgt := 55) (gi_rgS g12) (by decide) dX12_isEmptyFrom_32 (by decide) (fun z => absurd z c13) (fun _ => ?_)
        refine gx_aload_n dX12_isEmptyFrom_35 rfl 1 rfl ?_
        refine gx_bE e (fun t14 ht14 e => ?_)
        refine gy_fI ht14 dX12_isEmptyFrom_36 gf_RX12_190_10_18 (by decide) gkN_10_18 gkR_10_18 ?_
        refine gx_iload dX12_isEmptyFrom_39 0 rfl ?_
        refine gy_bipush dX12_isEmptyFrom_41 gcb_16 ?_
        refine gy_isub dX12_isEmptyFrom_43 ?_
        refine gy_ishr dX12_isEmptyFrom_44 ?_
        refine gy_iconst dX12_isEmptyFrom_45 ?_
        refine gy_iand dX12_isEmptyFrom_46 ?_
        refine gy_iconst dX12_isEmptyFrom_47 ?_
        refine gx_bE e (fun _ g15 e => ?_)
        refine gx_iE e (fun c16 e => ?_) (fun c16 e => ?_)
        · refine gy_icmp_ne (tgt := 55) (gi_rgS g15) (by decide) dX12_isEmptyFrom_48 (by decide) (fun z => absurd c16 z) (fun _ => ?_)
          refine gy_iconst dX12_isEmptyFrom_51 ?_
          refine gx_goto (tgt := 56) dX12_isEmptyFrom_52 (by decide) ?_
          refine gx_sub (ls2 := [(0, .ref v0), (1, .int (gI v1)), (4, .int (gI v4))]) [1, 2, 4] rfl ?_
          exact zb_X12_isEmptyFrom_56 hr5 e
        · refine gy_icmp_ne (tgt := 55) (gi_rgS g15) (by decide) dX12_isEmptyFrom_48 (by decide) (fun _ => ?_) (fun z => absurd z c16)
          refine gx_sub (ls2 := [(0, .ref v0), (1, .int (gI v1)), (4, .int (gI v4))]) [1, 2, 4] rfl ?_
          exact zb_X12_isEmptyFrom_55 hr5 e
def l_X12_isEmptyFrom_5 (n : Nat)  : Nat → Nat → Int → Int → Int → gi_H → Option (Int)
  | 0, _, _, _, _, _ => none
  | k + 1, v0, v1, v3, v4, h => b_X12_isEmptyFrom_5 n  (l_X12_isEmptyFrom_5 n  k) v0 v1 v3 v4 h
theorem zl_X12_isEmptyFrom_5 {al : Bool} {n : Nat}  {res : Int}  : ∀ (k : Nat) (v0 : Nat) (v1 : Int) (v3 : Int) (v4 : Int) (h : gi_H), l_X12_isEmptyFrom_5 n  k v0 v1 v3 v4 h = some res → gx_Z mX12_isEmptyFrom al al 0 0 5 [(0, .ref v0), (1, .int (gI v1)), (3, .int (gI v3)), (4, .int (gI v4))] [] (gi_cv h) (.inl (some (.int (gI res)))) (gi_cv h)
  | 0, _, _, _, _, _, e => gx_0E e
  | k + 1, _, _, _, _, _, e => zb_X12_isEmptyFrom_5 (n := n)  (zl_X12_isEmptyFrom_5  k) e
set_option maxRecDepth 100000 in
def f_X12_isEmptyFrom (n : Nat) (v0 : Nat) (v1 : Int) (v2 : Int) (h : gi_H) : Option (Int) :=
  l_X12_isEmptyFrom_5 n  n v0 v1 (1 : Int) v2 h
set_option maxRecDepth 100000 in
theorem z_X12_isEmptyFrom {al : Bool} {n : Nat} {v0 : Nat} {v1 : Int} {v2 : Int} {h : gi_H} {res : Int} (e : f_X12_isEmptyFrom n v0 v1 v2 h = some res) : gx_Cw mX12_isEmptyFrom al [.ref v0, .int (gI v1), .int (gI v2)] (gi_cv h) (.inl (some (.int (gI res)))) (gi_cv h) := by
  refine gx_enter (by decide +kernel) rfl (Nat.le_of_ble_eq_true rfl) ?_
  show gx_Z mX12_isEmptyFrom al al 0 0 0 [(0, .ref v0), (1, .int (gI v1)), (2, .int (gI v2))] [] (gi_cv h) (.inl (some (.int (gI res)))) (gi_cv h)
  refine gy_iconst dX12_isEmptyFrom_0 ?_
  refine gx_istore_n (ls2 := [(3, .int (gI (1 : Int))), (0, .ref v0), (1, .int (gI v1)), (2, .int (gI v2))]) dX12_isEmptyFrom_1 rfl (Nat.le_of_ble_eq_true rfl) rfl ?_
  refine gx_iload_n dX12_isEmptyFrom_2 rfl 3 rfl ?_
  refine gx_istore (ls2 := [(4, .int (gI v2)), (3, .int (gI (1 : Int))), (0, .ref v0), (1, .int (gI v1)), (2, .int (gI v2))]) dX12_isEmptyFrom_3 (Nat.le_of_ble_eq_true rfl) rfl ?_
  refine gx_sub (ls2 := [(0, .ref v0), (1, .int (gI v1)), (3, .int (gI (1 : Int))), (4, .int (gI v2))]) [2, 3, 1, 0] rfl ?_
  exact zl_X12_isEmptyFrom_5  n _ _ _ _ _ e
/-! X12_findsMore  -/
set_option maxRecDepth 100000 in
def b_X12_findsMore_93 (n : Nat) (r4 : Nat → Int → Int → gi_H → Option (Int × gi_H)) (v0 : Nat) (v2 : Int) (v3 : Int) (v4 : Int) (v5 : Int) (s0 : Int) (h : gi_H) : Option (Int × gi_H) :=
  Option.bind (gi_gR h v0 10 19) fun t31 => Option.bind (gi_s1 h t31 v3 v4) fun h32 => Option.bind (gi_pI h32 v0 10 18 v5) fun h33 => gx_nm (v2 + (1 : Int)) fun t34 => r4 v0 s0 t34 h33
set_option maxRecDepth 100000 in
theorem zb_X12_findsMore_93 {al : Bool} {n : Nat} {r4 : Nat → Int → Int → gi_H → Option (Int × gi_H)} {res : Int} {h1 : gi_H} (hr4 : ∀ (x0 : Nat) (x1 : Int) (x2 : Int) (hh : gi_H), r4 x0 x1 x2 hh = some (res, h1) → gx_Z mX12_findsMore al al 0 0 4 [(0, .ref x0), (1, .int (gI x1)), (2, .int (gI x2))] [] (gi_cv hh) (.inl (some (.int (gI res)))) (gi_cv h1)) {v0 : Nat} {v2 : Int} {v3 : Int} {v4 : Int} {v5 : Int} {s0 : Int} {h : gi_H} (e : b_X12_findsMore_93 n r4 v0 v2 v3 v4 v5 s0 h = some (res, h1)) : gx_Z mX12_findsMore al al 0 0 93 [(0, .ref v0), (2, .int (gI v2)), (3, .int (gI v3)), (4, .int (gI v4)), (5, .int (gI v5))] [.int (gI s0)] (gi_cv h) (.inl (some (.int (gI res)))) (gi_cv h1) := by
  refine gx_istore_n (ls2 := [(1, .int (gI s0)), (0, .ref v0), (2, .int (gI v2)), (3, .int (gI v3)), (4, .int (gI v4)), (5, .int (gI v5))]) dX12_findsMore_93 rfl (Nat.le_of_ble_eq_true rfl) rfl ?_
  refine gx_aload_n dX12_findsMore_94 rfl 1 rfl ?_
  refine gx_bE e (fun t31 ht31 e => ?_)
  refine gy_fR ht31 dX12_findsMore_95 gf_RX12_52_10_19 (by decide) gkN_10_19 gkR_10_19 ?_
  refine gx_iload_n dX12_findsMore_98 rfl 3 rfl ?_
  refine gx_iload dX12_findsMore_99 4 rfl ?_
  refine gx_bE e (fun h32 hh32 e => ?_)
  refine gy_t1 hh32 dX12_findsMore_101 ?_
  refine gx_aload_n dX12_findsMore_102 rfl 1 rfl ?_
  refine gx_iload dX12_findsMore_103 5 rfl ?_
  refine gx_bE e (fun h33 hh33 e => ?_)
  refine gy_qI hh33 dX12_findsMore_105 gf_RX12_190_10_18 (by decide) gkN_10_18 rfl (Or.inl rfl) ?_
  refine gx_nE e (fun t34 ht34 e => ?_)
  refine gy_iinc (v := t34) (ls2 := [(2, .int (gI t34)), (1, .int (gI s0)), (0, .ref v0), (3, .int (gI v3)), (4, .int (gI v4)), (5, .int (gI v5))]) dX12_findsMore_108 2 rfl ht34 (Nat.le_of_ble_eq_true rfl) rfl ?_
  refine gx_goto (tgt := 4) dX12_findsMore_111 (by decide) ?_
  refine gx_sub (ls2 := [(0, .ref v0), (1, .int (gI s0)), (2, .int (gI t34))]) [2, 1, 0] rfl ?_
  exact hr4 _ _ _ _ e
set_option maxRecDepth 100000 in
def b_X12_findsMore_88 (n : Nat) (r4 : Nat → Int → Int → gi_H → Option (Int × gi_H)) (v0 : Nat) (v2 : Int) (v3 : Int) (v4 : Int) (v5 : Int)  (h : gi_H) : Option (Int × gi_H) :=
  b_X12_findsMore_93 n r4 v0 v2 v3 v4 v5 (1 : Int) h
set_option maxRecDepth 100000 in
theorem zb_X12_findsMore_88 {al : Bool} {n : Nat} {r4 : Nat → Int → Int → gi_H → Option (Int × gi_H)} {res : Int} {h1 : gi_H} (hr4 : ∀ (x0 : Nat) (x1 : Int) (x2 : Int) (hh : gi_H), r4 x0 x1 x2 hh = some (res, h1) → gx_Z mX12_findsMore al al 0 0 4 [(0, .ref x0), (1, .int (gI x1)), (2, .int (gI x2))] [] (gi_cv hh) (.inl (some (.int (gI res)))) (gi_cv h1)) {v0 : Nat} {v2 : Int} {v3 : Int} {v4 : Int} {v5 : Int}  {h : gi_H} (e : b_X12_findsMore_88 n r4 v0 v2 v3 v4 v5 h = some (res, h1)) : gx_Z mX12_findsMore al al 0 0 88 [(0, .ref v0), (2, .int (gI v2)), (3, .int (gI v3)), (4, .int (gI v4)), (5, .int (gI v5))] [] (gi_cv h) (.inl (some (.int (gI res)))) (gi_cv h1) := by
  refine gy_iconst dX12_findsMore_88 ?_
  refine gx_goto (tgt := 93) dX12_findsMore_89 (by decide) ?_
  exact zb_X12_findsMore_93 hr4 e
set_option maxRecDepth 100000 in
def b_X12_findsMore_62 (n : Nat) (r4 : Nat → Int → Int → gi_H → Option (Int × gi_H)) (v0 : Nat) (v1 : Int) (v2 : Int) (v3 : Int) (v4 : Int) (s0 : Int) (h : gi_H) : Option (Int × gi_H) :=
  Option.bind (gi_rg v1) fun _ => if v1 = 0 then (Option.bind (gi_gR h v0 10 19) fun t22 => Option.bind (gi_aI h 1 t22 v3) fun t23 => Option.bind (gi_rg v4) fun _ => Option.bind (gi_rg t23) fun _ => if v4 = t23 then (Option.bind (gi_gI h v0 10 18) fun t27 => Option.bind (gi_rg s0) fun _ => Option.bind (gi_rg t27) fun _ => if s0 = t27 then (b_X12_findsMore_93 n r4 v0 v2 v3 v4 s0 (0 : Int) h) else (b_X12_findsMore_88 n r4 v0 v2 v3 v4 s0 h)) else (b_X12_findsMore_88 n r4 v0 v2 v3 v4 s0 h)) else (b_X12_findsMore_88 n r4 v0 v2 v3 v4 s0 h)
set_option maxRecDepth 100000 in
theorem zb_X12_findsMore_62 {al : Bool} {n : Nat} {r4 : Nat → Int → Int → gi_H → Option (Int × gi_H)} {res : Int} {h1 : gi_H} (hr4 : ∀ (x0 : Nat) (x1 : Int) (x2 : Int) (hh : gi_H), r4 x0 x1 x2 hh = some (res, h1) → gx_Z mX12_findsMore al al 0 0 4 [(0, .ref x0), (1, .int (gI x1)), (2, .int (gI x2))] [] (gi_cv hh) (.inl (some (.int (gI res)))) (gi_cv h1)) {v0 : Nat} {v1 : Int} {v2 : Int} {v3 : Int} {v4 : Int} {s0 : Int} {h : gi_H} (e : b_X12_findsMore_62 n r4 v0 v1 v2 v3 v4 s0 h = some (res, h1)) : gx_Z mX12_findsMore al al 0 0 62 [(0, .ref v0), (1, .int (gI v1)), (2, .int (gI v2)), (3, .int (gI v3)), (4, .int (gI v4))] [.int (gI s0)] (gi_cv h) (.inl (some (.int (gI res)))) (gi_cv h1) := by
  refine gx_istore (ls2 := [(5, .int (gI s0)), (0, .ref v0), (1, .int (gI v1)), (2, .int (gI v2)), (3, .int (gI v3)), (4, .int (gI v4))]) dX12_findsMore_62 (Nat.le_of_ble_eq_true rfl) rfl ?_
  refine gx_iload_n dX12_findsMore_64 rfl 2 rfl ?_
  refine gx_bE e (fun _ g20 e => ?_)
  refine gx_iE e (fun c21 e => ?_) (fun c21 e => ?_)
  · refine gy_if_ne (tgt := 88) (gi_rgS g20) dX12_findsMore_65 (by decide) (fun z => absurd c21 z) (fun _ => ?_)
    refine gx_iload dX12_findsMore_68 5 rfl ?_
    refine gx_aload_n dX12_findsMore_70 rfl 1 rfl ?_
    refine gx_bE e (fun t22 ht22 e => ?_)
    refine gy_fR ht22 dX12_findsMore_71 gf_RX12_52_10_19 (by decide) gkN_10_19 gkR_10_19 ?_
    refine gx_iload_n dX12_findsMore_74 rfl 4 rfl ?_
    refine gx_bE e (fun t23 ht23 e => ?_)
    refine gy_l1 ht23 dX12_findsMore_75 ?_
    refine gx_bE e (fun _ g24 e => ?_)
    refine gx_bE e (fun _ g25 e => ?_)
    refine gx_iE e (fun c26 e => ?_) (fun c26 e => ?_)
    · refine gy_icmp_ne (tgt := 88) (gi_rgS g24) (gi_rgS g25) dX12_findsMore_76 (by decide) (fun z => absurd c26 z) (fun _ => ?_)
      refine gx_iload dX12_findsMore_79 0 rfl ?_
      refine gx_aload_n dX12_findsMore_81 rfl 1 rfl ?_
      refine gx_bE e (fun t27 ht27 e => ?_)
      refine gy_fI ht27 dX12_findsMore_82 gf_RX12_190_10_18 (by decide) gkN_10_18 gkR_10_18 ?_
      refine gx_bE e (fun _ g28 e => ?_)
      refine gx_bE e (fun _ g29 e => ?_)
      refine gx_iE e (fun c30 e => ?_) (fun c30 e => ?_)
      · refine gy_icmp_eq (tgt := 92) (gi_rgS g28) (gi_rgS g29) dX12_findsMore_85 (by decide) (fun _ => ?_) (fun z => absurd c30 z)
        refine gy_iconst dX12_findsMore_92 ?_
        refine gx_sub (ls2 := [(0, .ref v0), (2, .int (gI v2)), (3, .int (gI v3)), (4, .int (gI v4)), (5, .int (gI s0))]) [1, 3, 4, 5, 0] rfl ?_
        exact zb_X12_findsMore_93 hr4 e
      · refine gy_icmp_eq (tgt := 92) (gi_rgS g28) (gi_rgS g29) dX12_findsMore_85 (by decide) (fun z => absurd z c30) (fun _ => ?_)
        refine gx_sub (ls2 := [(0, .ref v0), (2, .int (gI v2)), (3, .int (gI v3)), (4, .int (gI v4)), (5, .int (gI s0))]) [1, 3, 4, 5, 0] rfl ?_
        exact zb_X12_findsMore_88 hr4 e
    · refine gy_icmp_ne (tgt := 88) (gi_rgS g24) (gi_rgS g25) dX12_findsMore_76 (by decide) (fun _ => ?_) (fun z => absurd z c26)
      refine gx_sub (ls2 := [(0, .ref v0), (2, .int (gI v2)), (3, .int (gI v3)), (4, .int (gI v4)), (5, .int (gI s0))]) [1, 3, 4, 5, 0] rfl ?_
      exact zb_X12_findsMore_88 hr4 e
  · refine gy_if_ne (tgt := 88) (gi_rgS g20) dX12_findsMore_65 (by decide) (fun _ => ?_) (fun z => absurd z c21)
    refine gx_sub (ls2 := [(0, .ref v0), (2, .int (gI v2)), (3, .int (gI v3)), (4, .int (gI v4)), (5, .int (gI s0))]) [1, 3, 4, 5, 0] rfl ?_
    exact zb_X12_findsMore_88 hr4 e
set_option maxRecDepth 100000 in
def b_X12_findsMore_4 (n : Nat) (r4 : Nat → Int → Int → gi_H → Option (Int × gi_H)) (v0 : Nat) (v1 : Int) (v2 : Int)  (h : gi_H) : Option (Int × gi_H) :=
  Option.bind (gi_gR h v0 10 3) fun t1 => Option.bind (gi_gI h v0 10 9) fun t2 => Option.bind (gi_aI h 1 t1 t2) fun t3 => Option.bind (gi_rg v2) fun _ => Option.bind (gi_rg t3) fun _ => if t3 ≤ v2 then (Option.bind (gi_zo v1) fun _ => some (v1, h)) else (Option.bind (gi_is h v0 10) fun _ => Option.bind (f_X12_lead v0 v2 h) fun q9 => Option.bind (gi_gR h v0 10 19) fun t10 => Option.bind (gi_aI h 1 t10 q9) fun t11 => Option.bind (gi_is h v0 10) fun _ => Option.bind (f_X12_firstFrom n v0 v2 (0 : Int) h) fun q13 => gx_nm (gi_or t11 q13) fun t14 => Option.bind (gi_is h v0 10) fun _ => Option.bind (f_X12_isEmptyFrom n v0 v2 (0 : Int) h) fun q16 => Option.bind (gi_rg q16) fun _ => if q16 = 0 then (Option.bind (gi_gI h v0 10 18) fun t19 => b_X12_findsMore_62 n r4 v0 v1 v2 q9 t14 t19 h) else (Option.bind (gi_gI h v0 10 18) fun t35 => b_X12_findsMore_62 n r4 v0 v1 v2 q9 t14 (gi_or t35 (gi_shl (1 : Int) q9)) h))
set_option maxRecDepth 100000 in
theorem zb_X12_findsMore_4 {al : Bool} {n : Nat} {r4 : Nat → Int → Int → gi_H → Option (Int × gi_H)} {res : Int} {h1 : gi_H} (hr4 : ∀ (x0 : Nat) (x1 : Int) (x2 : Int) (hh : gi_H), r4 x0 x1 x2 hh = some (res, h1) → gx_Z mX12_findsMore al al 0 0 4 [(0, .ref x0), (1, .int (gI x1)), (2, .int (gI x2))] [] (gi_cv hh) (.inl (some (.int (gI res)))) (gi_cv h1)) {v0 : Nat} {v1 : Int} {v2 : Int}  {h : gi_H} (e : b_X12_findsMore_4 n r4 v0 v1 v2 h = some (res, h1)) : gx_Z mX12_findsMore al al 0 0 4 [(0, .ref v0), (1, .int (gI v1)), (2, .int (gI v2))] [] (gi_cv h) (.inl (some (.int (gI res)))) (gi_cv h1) := by
  refine gx_iload_n dX12_findsMore_4 rfl 2 rfl ?_
  refine gx_aload_n dX12_findsMore_5 rfl 0 rfl ?_
  refine gx_bE e (fun t1 ht1 e => ?_)
  refine gy_fR ht1 dX12_findsMore_6 gf_RX12_19_10_3 (by decide) gkN_10_3 gkR_10_3 ?_
  refine gx_aload_n dX12_findsMore_9 rfl 0 rfl ?_
  refine gx_bE e (fun t2 ht2 e => ?_)
  refine gy_fI ht2 dX12_findsMore_10 gf_RX12_139_10_9 (by decide) gkN_10_9 gkR_10_9 ?_
  refine gx_bE e (fun t3 ht3 e => ?_)
  refine gy_l1 ht3 dX12_findsMore_13 ?_
  refine gx_bE e (fun _ g4 e => ?_)
  refine gx_bE e (fun _ g5 e => ?_)
  refine gx_iE e (fun c6 e => ?_) (fun c6 e => ?_)
  · refine gy_icmp_ge (tgt := 114) (gi_rgS g4) (gi_rgS g5) dX12_findsMore_14 (by decide) (fun _ => ?_) (fun z => absurd c6 z)
    refine gx_iload_n dX12_findsMore_114 rfl 1 rfl ?_
    refine gx_bE e (fun _ hu7 e => ?_)
    cases e
    exact gx_zret (gi_zoS hu7) dX12_findsMore_115 rfl ⟨Nat.le_of_ble_eq_true rfl, Nat.le_of_ble_eq_true rfl⟩ (fun z => z)
  · refine gy_icmp_ge (tgt := 114) (gi_rgS g4) (gi_rgS g5) dX12_findsMore_14 (by decide) (fun z => absurd z c6) (fun _ => ?_)
    refine gx_aload_n dX12_findsMore_17 rfl 0 rfl ?_
    refine gx_iload_n dX12_findsMore_18 rfl 2 rfl ?_
    refine gx_bE e (fun _ hu8 e => ?_)
    refine gx_bE e (fun q9 hq9 e => ?_)
    refine gx_callV (n := 1) (st := []) (As := [.int (gI v2)]) (b := v0) dX12_findsMore_19 (z_X12_lead hq9) rfl ⟨rfl, gw_cw_X12_lead, gw_14, gp_X12_lead, ⟨Nat.le_of_ble_eq_true rfl, Nat.le_of_ble_eq_true rfl⟩⟩ (gi_isS hu8) (by decide) gw_1595 gw_1597 gs_74 rfl ⟨Nat.le_of_ble_eq_true rfl, Nat.le_of_ble_eq_true rfl⟩ (Nat.le_of_ble_eq_true rfl) (gy_k1 (x := .int (gI q9)) (kc2 := 0) (ks2 := 0) ⟨rfl, rfl⟩ ?_) gy_kn
    refine gx_istore_n (ls2 := [(3, .int (gI q9)), (0, .ref v0), (1, .int (gI v1)), (2, .int (gI v2))]) dX12_findsMore_22 rfl (Nat.le_of_ble_eq_true rfl) rfl ?_
    refine gx_aload_n dX12_findsMore_23 rfl 1 rfl ?_
    refine gx_bE e (fun t10 ht10 e => ?_)
    refine gy_fR ht10 dX12_findsMore_24 gf_RX12_52_10_19 (by decide) gkN_10_19 gkR_10_19 ?_
    refine gx_iload_n dX12_findsMore_27 rfl 0 rfl ?_
    refine gx_bE e (fun t11 ht11 e => ?_)
    refine gy_l1 ht11 dX12_findsMore_28 ?_
    refine gx_aload_n dX12_findsMore_29 rfl 1 rfl ?_
    refine gx_iload_n dX12_findsMore_30 rfl 3 rfl ?_
    refine gy_iconst dX12_findsMore_31 ?_
    refine gx_bE e (fun _ hu12 e => ?_)
    refine gx_bE e (fun q13 hq13 e => ?_)
    refine gx_callV (n := 2) (st := [.int (gI t11)]) (As := [.int (gI v2), .int (gI (0 : Int))]) (b := v0) dX12_findsMore_32 (z_X12_firstFrom hq13) rfl ⟨rfl, gw_cw_X12_firstFrom, gw_14, gp_X12_firstFrom, ⟨Nat.le_of_ble_eq_true rfl, Nat.le_of_ble_eq_true rfl⟩⟩ (gi_isS hu12) (by decide) gw_1599 gw_1601 gs_75 rfl ⟨Nat.le_of_ble_eq_true rfl, Nat.le_of_ble_eq_true rfl⟩ (Nat.le_of_ble_eq_true rfl) (gy_k1 (x := .int (gI q13)) (kc2 := 0) (ks2 := 0) ⟨rfl, rfl⟩ ?_) gy_kn
    refine gy_ior dX12_findsMore_35 ?_
    refine gx_nE e (fun t14 ht14 e => ?_)
    rw [ht14]
    refine gx_istore (ls2 := [(4, .int (gI t14)), (3, .int (gI q9)), (0, .ref v0), (1, .int (gI v1)), (2, .int (gI v2))]) dX12_findsMore_36 (Nat.le_of_ble_eq_true rfl) rfl ?_
    refine gx_aload_n dX12_findsMore_38 rfl 2 rfl ?_
    refine gx_iload_n dX12_findsMore_39 rfl 4 rfl ?_
    refine gy_iconst dX12_findsMore_40 ?_
    refine gx_bE e (fun _ hu15 e => ?_)
    refine gx_bE e (fun q16 hq16 e => ?_)
    refine gx_callV (n := 2) (st := []) (As := [.int (gI v2), .int (gI (0 : Int))]) (b := v0) dX12_findsMore_41 (z_X12_isEmptyFrom hq16) rfl ⟨rfl, gw_cw_X12_isEmptyFrom, gw_14, gp_X12_isEmptyFrom, ⟨Nat.le_of_ble_eq_true rfl, Nat.le_of_ble_eq_true rfl⟩⟩ (gi_isS hu15) (by decide) gw_1603 gw_1605 gs_76 rfl ⟨Nat.le_of_ble_eq_true rfl, Nat.le_of_ble_eq_true rfl⟩ (Nat.le_of_ble_eq_true rfl) (gy_k1 (x := .int (gI q16)) (kc2 := 0) (ks2 := 0) ⟨rfl, rfl⟩ ?_) gy_kn
    refine gx_bE e (fun _ g17 e => ?_)
    refine gx_iE e (fun c18 e => ?_) (fun c18 e => ?_)
    · refine gy_if_eq (tgt := 58) (gi_rgS g17) dX12_findsMore_44 (by decide) (fun _ => ?_) (fun z => absurd c18 z)
      refine gx_aload_n dX12_findsMore_58 rfl 2 rfl ?_
      refine gx_bE e (fun t19 ht19 e => ?_)
      refine gy_fI ht19 dX12_findsMore_59 gf_RX12_190_10_18 (by decide) gkN_10_18 gkR_10_18 ?_
      refine gx_sub (ls2 := [(0, .ref v0), (1, .int (gI v1)), (2, .int (gI v2)), (3, .int (gI q9)), (4, .int (gI t14))]) [2, 3, 4, 1, 0] rfl ?_
      exact zb_X12_findsMore_62 hr4 e
    · refine gy_if_eq (tgt := 58) (gi_rgS g17) dX12_findsMore_44 (by decide) (fun z => absurd z c18) (fun _ => ?_)
      refine gx_aload_n dX12_findsMore_47 rfl 2 rfl ?_
      refine gx_bE e (fun t35 ht35 e => ?_)
      refine gy_fI ht35 dX12_findsMore_48 gf_RX12_190_10_18 (by decide) gkN_10_18 gkR_10_18 ?_
      refine gy_iconst dX12_findsMore_51 ?_
      refine gx_iload_n dX12_findsMore_52 rfl 1 rfl ?_
      refine gy_ishl dX12_findsMore_53 ?_
      refine gy_ior dX12_findsMore_54 ?_
      refine gx_goto (tgt := 62) dX12_findsMore_55 (by decide) ?_
      refine gx_sub (ls2 := [(0, .ref v0), (1, .int (gI v1)), (2, .int (gI v2)), (3, .int (gI q9)), (4, .int (gI t14))]) [2, 3, 4, 1, 0] rfl ?_
      exact zb_X12_findsMore_62 hr4 e
def l_X12_findsMore_4 (n : Nat)  : Nat → Nat → Int → Int → gi_H → Option (Int × gi_H)
  | 0, _, _, _, _ => none
  | k + 1, v0, v1, v2, h => b_X12_findsMore_4 n  (l_X12_findsMore_4 n  k) v0 v1 v2 h
theorem zl_X12_findsMore_4 {al : Bool} {n : Nat}  {res : Int} {h1 : gi_H}  : ∀ (k : Nat) (v0 : Nat) (v1 : Int) (v2 : Int) (h : gi_H), l_X12_findsMore_4 n  k v0 v1 v2 h = some (res, h1) → gx_Z mX12_findsMore al al 0 0 4 [(0, .ref v0), (1, .int (gI v1)), (2, .int (gI v2))] [] (gi_cv h) (.inl (some (.int (gI res)))) (gi_cv h1)
  | 0, _, _, _, _, e => gx_0E e
  | k + 1, _, _, _, _, e => zb_X12_findsMore_4 (n := n)  (zl_X12_findsMore_4  k) e
set_option maxRecDepth 100000 in
def f_X12_findsMore (n : Nat) (v0 : Nat) (h : gi_H) : Option (Int × gi_H) :=
  l_X12_findsMore_4 n  n v0 (0 : Int) (0 : Int) h
set_option maxRecDepth 100000 in
theorem z_X12_findsMore {al : Bool} {n : Nat} {v0 : Nat} {h : gi_H} {res : Int} {h1 : gi_H} (e : f_X12_findsMore n v0 h = some (res, h1)) : gx_Cw mX12_findsMore al [.ref v0] (gi_cv h) (.inl (some (.int (gI res)))) (gi_cv h1) := by
  refine gx_enter (by decide +kernel) rfl (Nat.le_of_ble_eq_true rfl) ?_
  show gx_Z mX12_findsMore al al 0 0 0 [(0, .ref v0)] [] (gi_cv h) (.inl (some (.int (gI res)))) (gi_cv h1)
  refine gy_iconst dX12_findsMore_0 ?_
  refine gx_istore_n (ls2 := [(1, .int (gI (0 : Int))), (0, .ref v0)]) dX12_findsMore_1 rfl (Nat.le_of_ble_eq_true rfl) rfl ?_
  refine gy_iconst dX12_findsMore_2 ?_
  refine gx_istore_n (ls2 := [(2, .int (gI (0 : Int))), (1, .int (gI (0 : Int))), (0, .ref v0)]) dX12_findsMore_3 rfl (Nat.le_of_ble_eq_true rfl) rfl ?_
  refine gx_sub (ls2 := [(0, .ref v0), (1, .int (gI (0 : Int))), (2, .int (gI (0 : Int)))]) [2, 1, 0] rfl ?_
  exact zl_X12_findsMore_4  n _ _ _ _ e
/-! X12_findsBehind  -/
set_option maxRecDepth 100000 in
def b_X12_findsBehind_120 (n : Nat) (r4 : Nat → Int → Int → gi_H → Option (Int × gi_H)) (v0 : Nat) (v1 : Int) (v2 : Int)  (h : gi_H) : Option (Int × gi_H) :=
  gx_nm (v2 + (1 : Int)) fun t13 => r4 v0 v1 t13 h
set_option maxRecDepth 100000 in
theorem zb_X12_findsBehind_120 {al : Bool} {n : Nat} {r4 : Nat → Int → Int → gi_H → Option (Int × gi_H)} {res : Int} {h1 : gi_H} (hr4 : ∀ (x0 : Nat) (x1 : Int) (x2 : Int) (hh : gi_H), r4 x0 x1 x2 hh = some (res, h1) → gx_Z mX12_findsBehind al al 0 0 4 [(0, .ref x0), (1, .int (gI x1)), (2, .int (gI x2))] [] (gi_cv hh) (.inl (some (.int (gI res)))) (gi_cv h1)) {v0 : Nat} {v1 : Int} {v2 : Int}  {h : gi_H} (e : b_X12_findsBehind_120 n r4 v0 v1 v2 h = some (res, h1)) : gx_Z mX12_findsBehind al al 0 0 120 [(0, .ref v0), (1, .int (gI v1)), (2, .int (gI v2))] [] (gi_cv h) (.inl (some (.int (gI res)))) (gi_cv h1) := by
  refine gx_nE e (fun t13 ht13 e => ?_)
  refine gy_iinc (v := t13) (ls2 := [(2, .int (gI t13)), (0, .ref v0), (1, .int (gI v1))]) dX12_findsBehind_120 2 rfl ht13 (Nat.le_of_ble_eq_true rfl) rfl ?_
  refine gx_goto (tgt := 4) dX12_findsBehind_123 (by decide) ?_
  refine gx_sub (ls2 := [(0, .ref v0), (1, .int (gI v1)), (2, .int (gI t13))]) [1, 2, 0] rfl ?_
  exact hr4 _ _ _ _ e
set_option maxRecDepth 100000 in
def b_X12_findsBehind_114 (n : Nat) (r4 : Nat → Int → Int → gi_H → Option (Int × gi_H)) (r19 : Nat → Int → Int → Int → gi_H → Option (Int × gi_H)) (v0 : Nat) (v1 : Int) (v2 : Int) (v3 : Int)  (h : gi_H) : Option (Int × gi_H) :=
  gx_nm (v3 + (1 : Int)) fun t26 => r19 v0 v1 v2 t26 h
set_option maxRecDepth 100000 in
theorem zb_X12_findsBehind_114 {al : Bool} {n : Nat} {r4 : Nat → Int → Int → gi_H → Option (Int × gi_H)} {r19 : Nat → Int → Int → Int → gi_H → Option (Int × gi_H)} {res : Int} {h1 : gi_H} (hr4 : ∀ (x0 : Nat) (x1 : Int) (x2 : Int) (hh : gi_H), r4 x0 x1 x2 hh = some (res, h1) → gx_Z mX12_findsBehind al al 0 0 4 [(0, .ref x0), (1, .int (gI x1)), (2, .int (gI x2))] [] (gi_cv hh) (.inl (some (.int (gI res)))) (gi_cv h1)) (hr19 : ∀ (x0 : Nat) (x1 : Int) (x2 : Int) (x3 : Int) (hh : gi_H), r19 x0 x1 x2 x3 hh = some (res, h1) → gx_Z mX12_findsBehind al al 0 0 19 [(0, .ref x0), (1, .int (gI x1)), (2, .int (gI x2)), (3, .int (gI x3))] [] (gi_cv hh) (.inl (some (.int (gI res)))) (gi_cv h1)) {v0 : Nat} {v1 : Int} {v2 : Int} {v3 : Int}  {h : gi_H} (e : b_X12_findsBehind_114 n r4 r19 v0 v1 v2 v3 h = some (res, h1)) : gx_Z mX12_findsBehind al al 0 0 114 [(0, .ref v0), (1, .int (gI v1)), (2, .int (gI v2)), (3, .int (gI v3))] [] (gi_cv h) (.inl (some (.int (gI res)))) (gi_cv h1) := by
  refine gx_nE e (fun t26 ht26 e => ?_)
  refine gy_iinc (v := t26) (ls2 := [(3, .int (gI t26)), (0, .ref v0), (1, .int (gI v1)), (2, .int (gI v2))]) dX12_findsBehind_114 3 rfl ht26 (Nat.le_of_ble_eq_true rfl) rfl ?_
  refine gx_goto (tgt := 19) dX12_findsBehind_117 (by decide) ?_
  refine gx_sub (ls2 := [(0, .ref v0), (1, .int (gI v1)), (2, .int (gI v2)), (3, .int (gI t26))]) [1, 2, 3, 0] rfl ?_
  exact hr19 _ _ _ _ _ e
set_option maxRecDepth 100000 in
def b_X12_findsBehind_72 (n : Nat) (r4 : Nat → Int → Int → gi_H → Option (Int × gi_H)) (r19 : Nat → Int → Int → Int → gi_H → Option (Int × gi_H)) (v0 : Nat) (v1 : Int) (v2 : Int) (v3 : Int) (v4 : Int) (s0 : Int) (s1 : Int) (h : gi_H) : Option (Int × gi_H) :=
  gx_nm (gi_or s0 s1) fun t23 => Option.bind (gi_rg v4) fun _ => if v4 < 0 then (b_X12_findsBehind_114 n r4 r19 v0 v1 v2 v3 h) else (Option.bind (gi_gR h v0 10 20) fun t27 => Option.bind (gi_aI h 1 t27 v4) fun t28 => Option.bind (gi_gR h v0 10 20) fun t29 => Option.bind (gi_aI h 1 t29 v4) fun t30 => Option.bind (gi_rg (gi_or t28 t23)) fun _ => Option.bind (gi_rg t30) fun _ => if (gi_or t28 t23) = t30 then (b_X12_findsBehind_114 n r4 r19 v0 v1 v2 v3 h) else (Option.bind (gi_gR h v0 10 20) fun t34 => Option.bind (gi_aI h 1 t34 v4) fun t35 => Option.bind (gi_s1 h t34 v4 (gi_or t35 t23)) fun h36 => b_X12_findsBehind_114 n r4 r19 v0 (1 : Int) v2 v3 h36))
set_option maxRecDepth 100000 in
theorem zb_X12_findsBehind_72 {al : Bool} {n : Nat} {r4 : Nat → Int → Int → gi_H → Option (Int × gi_H)} {r19 : Nat → Int → Int → Int → gi_H → Option (Int × gi_H)} {res : Int} {h1 : gi_H} (hr4 : ∀ (x0 : Nat) (x1 : Int) (x2 : Int) (hh : gi_H), r4 x0 x1 x2 hh = some (res, h1) → gx_Z mX12_findsBehind al al 0 0 4 [(0, .ref x0), (1, .int (gI x1)), (2, .int (gI x2))] [] (gi_cv hh) (.inl (some (.int (gI res)))) (gi_cv h1)) (hr19 : ∀ (x0 : Nat) (x1 : Int) (x2 : Int) (x3 : Int) (hh : gi_H), r19 x0 x1 x2 x3 hh = some (res, h1) → gx_Z mX12_findsBehind al al 0 0 19 [(0, .ref x0), (1, .int (gI x1)), (2, .int (gI x2)), (3, .int (gI x3))] [] (gi_cv hh) (.inl (some (.int (gI res)))) (gi_cv h1)) {v0 : Nat} {v1 : Int} {v2 : Int} {v3 : Int} {v4 : Int} {s0 : Int} {s1 : Int} {h : gi_H} (e : b_X12_findsBehind_72 n r4 r19 v0 v1 v2 v3 v4 s0 s1 h = some (res, h1)) : gx_Z mX12_findsBehind al al 0 0 72 [(0, .ref v0), (1, .int (gI v1)), (2, .int (gI v2)), (3, .int (gI v3)), (4, .int (gI v4))] [.int (gI s1), .int (gI s0)] (gi_cv h) (.inl (some (.int (gI res)))) (gi_cv h1) := by
  refine gy_ior dX12_findsBehind_72 ?_
  refine gx_nE e (fun t23 ht23 e => ?_)
  rw [ht23]
  refine gx_istore (ls2 := [(5, .int (gI t23)), (0, .ref v0), (1, .int (gI v1)), (2, .int (gI v2)), (3, .int (gI v3)), (4, .int (gI v4))]) dX12_findsBehind_73 (Nat.le_of_ble_eq_true rfl) rfl ?_
  refine gx_iload dX12_findsBehind_75 5 rfl ?_
  refine gx_bE e (fun _ g24 e => ?_)
  refine gx_iE e (fun c25 e => ?_) (fun c25 e => ?_)
  · refine gy_if_lt (tgt := 114) (gi_rgS g24) dX12_findsBehind_77 (by decide) (fun _ => ?_) (fun z => absurd c25 z)
    refine gx_sub (ls2 := [(0, .ref v0), (1, .int (gI v1)), (2, .int (gI v2)), (3, .int (gI v3))]) [1, 2, 3, 4] rfl ?_
    exact zb_X12_findsBehind_114 hr4 hr19 e
  · refine gy_if_lt (tgt := 114) (gi_rgS g24) dX12_findsBehind_77 (by decide) (fun z => absurd z c25) (fun _ => ?_)
    refine gx_aload_n dX12_findsBehind_80 rfl 1 rfl ?_
    refine gx_bE e (fun t27 ht27 e => ?_)
    refine gy_fR ht27 dX12_findsBehind_81 gf_RX12_55_10_20 (by decide) gkN_10_20 gkR_10_20 ?_
    refine gx_iload dX12_findsBehind_84 5 rfl ?_
    refine gx_bE e (fun t28 ht28 e => ?_)
    refine gy_l1 ht28 dX12_findsBehind_86 ?_
    refine gx_iload dX12_findsBehind_87 0 rfl ?_
    refine gy_ior dX12_findsBehind_89 ?_
    refine gx_aload_n dX12_findsBehind_90 rfl 1 rfl ?_
    refine gx_bE e (fun t29 ht29 e => ?_)
    refine gy_fR ht29 dX12_findsBehind_91 gf_RX12_55_10_20 (by decide) gkN_10_20 gkR_10_20 ?_
    refine gx_iload dX12_findsBehind_94 5 rfl ?_
    refine gx_bE e (fun t30 ht30 e => ?_)
    refine gy_l1 ht30 dX12_findsBehind_96 ?_
    refine gx_bE e (fun _ g31 e => ?_)
    refine gx_bE e (fun _ g32 e => ?_)
    refine gx_iE e (fun c33 e => ?_) (fun c33 e => ?_)
    · refine gy_icmp_eq (tgt := 114) (gi_rgS g31) (gi_rgS g32) dX12_findsBehind_97 (by decide) (fun _ => ?_) (fun z => absurd c33 z)
      refine gx_sub (ls2 := [(0, .ref v0), (1, .int (gI v1)), (2, .int (gI v2)), (3, .int (gI v3))]) [1, 2, 3, 4] rfl ?_
      exact zb_X12_findsBehind_114 hr4 hr19 e
    · refine gy_icmp_eq (tgt := 114) (gi_rgS g31) (gi_rgS g32) dX12_findsBehind_97 (by decide) (fun z => absurd z c33) (fun _ => ?_)
      refine gx_aload_n dX12_findsBehind_100 rfl 1 rfl ?_
      refine gx_bE e (fun t34 ht34 e => ?_)
      refine gy_fR ht34 dX12_findsBehind_101 gf_RX12_55_10_20 (by decide) gkN_10_20 gkR_10_20 ?_
      refine gx_iload dX12_findsBehind_104 5 rfl ?_
      refine gx_dup2 dX12_findsBehind_106 rfl rfl ?_
      refine gx_bE e (fun t35 ht35 e => ?_)
      refine gy_l1 ht35 dX12_findsBehind_107 ?_
      refine gx_iload dX12_findsBehind_108 0 rfl ?_
      refine gy_ior dX12_findsBehind_110 ?_
      refine gx_bE e (fun h36 hh36 e => ?_)
      refine gy_t1 hh36 dX12_findsBehind_111 ?_
      refine gy_iconst dX12_findsBehind_112 ?_
      refine gx_istore_n (ls2 := [(1, .int (gI (1 : Int))), (5, .int (gI t23)), (0, .ref v0), (2, .int (gI v2)), (3, .int (gI v3)), (4, .int (gI v4))]) dX12_findsBehind_113 rfl (Nat.le_of_ble_eq_true rfl) rfl ?_
      refine gx_sub (ls2 := [(0, .ref v0), (1, .int (gI (1 : Int))), (2, .int (gI v2)), (3, .int (gI v3))]) [2, 0, 3, 4] rfl ?_
      exact zb_X12_findsBehind_114 hr4 hr19 e
set_option maxRecDepth 100000 in
def b_X12_findsBehind_19 (n : Nat) (r4 : Nat → Int → Int → gi_H → Option (Int × gi_H)) (r19 : Nat → Int → Int → Int → gi_H → Option (Int × gi_H)) (v0 : Nat) (v1 : Int) (v2 : Int) (v3 : Int)  (h : gi_H) : Option (Int × gi_H) :=
  Option.bind (gi_is h v0 10) fun _ => Option.bind (f_X12_sizeOf v0 v2 h) fun q9 => Option.bind (gi_rg v3) fun _ => Option.bind (gi_rg q9) fun _ => if q9 ≤ v3 then (b_X12_findsBehind_120 n r4 v0 v1 v2 h) else (Option.bind (gi_is h v0 10) fun _ => Option.bind (f_X12_symbol v0 v2 v3 h) fun q15 => gx_nm (q15 - (16 : Int)) fun t16 => Option.bind (gi_is h v0 10) fun _ => Option.bind (f_X12_firstFrom n v0 v2 (v3 + (1 : Int)) h) fun q18 => Option.bind (gi_is h v0 10) fun _ => Option.bind (f_X12_isEmptyFrom n v0 v2 (v3 + (1 : Int)) h) fun q20 => Option.bind (gi_rg q20) fun _ => if q20 = 0 then (b_X12_findsBehind_72 n r4 r19 v0 v1 v2 v3 t16 q18 (0 : Int) h) else (Option.bind (gi_gR h v0 10 20) fun t37 => Option.bind (gi_is h v0 10) fun _ => Option.bind (f_X12_lead v0 v2 h) fun q39 => Option.bind (gi_aI h 1 t37 q39) fun t40 => b_X12_findsBehind_72 n r4 r19 v0 v1 v2 v3 t16 q18 t40 h))
set_option maxRecDepth 100000 in
theorem zb_X12_findsBehind_19 {al : Bool} {n : Nat} {r4 : Nat → Int → Int → gi_H → Option (Int × gi_H)} {r19 : Nat → Int → Int → Int → gi_H → Option (Int × gi_H)} {res : Int} {h1 : gi_H} (hr4 : ∀ (x0 : Nat) (x1 : Int) (x2 : Int) (hh : gi_H), r4 x0 x1 x2 hh = some (res, h1) → gx_Z mX12_findsBehind al al 0 0 4 [(0, .ref x0), (1, .int (gI x1)), (2, .int (gI x2))] [] (gi_cv hh) (.inl (some (.int (gI res)))) (gi_cv h1)) (hr19 : ∀ (x0 : Nat) (x1 : Int) (x2 : Int) (x3 : Int) (hh : gi_H), r19 x0 x1 x2 x3 hh = some (res, h1) → gx_Z mX12_findsBehind al al 0 0 19 [(0, .ref x0), (1, .int (gI x1)), (2, .int (gI x2)), (3, .int (gI x3))] [] (gi_cv hh) (.inl (some (.int (gI res)))) (gi_cv h1)) {v0 : Nat} {v1 : Int} {v2 : Int} {v3 : Int}  {h : gi_H} (e : b_X12_findsBehind_19 n r4 r19 v0 v1 v2 v3 h = some (res, h1)) : gx_Z mX12_findsBehind al al 0 0 19 [(0, .ref v0), (1, .int (gI v1)), (2, .int (gI v2)), (3, .int (gI v3))] [] (gi_cv h) (.inl (some (.int (gI res)))) (gi_cv h1) := by
  refine gx_iload_n dX12_findsBehind_19 rfl 3 rfl ?_
  refine gx_aload_n dX12_findsBehind_20 rfl 0 rfl ?_
  refine gx_iload_n dX12_findsBehind_21 rfl 2 rfl ?_
  refine gx_bE e (fun _ hu8 e => ?_)
  refine gx_bE e (fun q9 hq9 e => ?_)
  refine gx_callV (n := 1) (st := [.int (gI v3)]) (As := [.int (gI v2)]) (b := v0) dX12_findsBehind_22 (z_X12_sizeOf hq9) rfl ⟨rfl, gw_cw_X12_sizeOf, gw_14, gp_X12_sizeOf, ⟨Nat.le_of_ble_eq_true rfl, Nat.le_of_ble_eq_true rfl⟩⟩ (gi_isS hu8) (by decide) gw_1579 gw_1581 gs_71 rfl ⟨Nat.le_of_ble_eq_true rfl, Nat.le_of_ble_eq_true rfl⟩ (Nat.le_of_ble_eq_true rfl) (gy_k1 (x := .int (gI q9)) (kc2 := 0) (ks2 := 0) ⟨rfl, rfl⟩ ?_) gy_kn
  refine gx_bE e (fun _ g10 e => ?_)
  refine gx_bE e (fun _ g11 e => ?_)
  refine gx_iE e (fun c12 e => ?_) (fun c12 e => ?_)
  · refine gy_icmp_ge (tgt := 120) (gi_rgS g10) (gi_rgS g11) dX12_findsBehind_25 (by decide) (fun _ => ?_) (fun z => absurd c12 z)
    refine gx_sub (ls2 := [(0, .ref v0), (1, .int (gI v1)), (2, .int (gI v2))]) [0, 1, 2] rfl ?_
    exact zb_X12_findsBehind_120 hr4 e
  · refine gy_icmp_ge (tgt := 120) (gi_rgS g10) (gi_rgS g11) dX12_findsBehind_25 (by decide) (fun z => absurd z c12) (fun _ => ?_)
    refine gx_aload_n dX12_findsBehind_28 rfl 0 rfl ?_
    refine gx_iload_n dX12_findsBehind_29 rfl 2 rfl ?_
    refine gx_iload_n dX12_findsBehind_30 rfl 3 rfl ?_
    refine gx_bE e (fun _ hu14 e => ?_)
    refine gx_bE e (fun q15 hq15 e => ?_)
    refine gx_callV (n := 2) (st := []) (As := [.int (gI v2), .int (gI v3)]) (b := v0) dX12_findsBehind_31 (z_X12_symbol hq15) rfl ⟨rfl, gw_cw_X12_symbol, gw_14, gp_X12_symbol, ⟨Nat.le_of_ble_eq_true rfl, Nat.le_of_ble_eq_true rfl⟩⟩ (gi_isS hu14) (by decide) gw_1575 gw_1577 gs_70 rfl ⟨Nat.le_of_ble_eq_true rfl, Nat.le_of_ble_eq_true rfl⟩ (Nat.le_of_ble_eq_true rfl) (gy_k1 (x := .int (gI q15)) (kc2 := 0) (ks2 := 0) ⟨rfl, rfl⟩ ?_) gy_kn
    refine gy_bipush dX12_findsBehind_34 gcb_16 ?_
    refine gy_isub dX12_findsBehind_36 ?_
    refine gx_nE e (fun t16 ht16 e => ?_)
    rw [ht16]
    refine gx_istore (ls2 := [(4, .int (gI t16)), (0, .ref v0), (1, .int (gI v1)), (2, .int (gI v2)), (3, .int (gI v3))]) dX12_findsBehind_37 (Nat.le_of_ble_eq_true rfl) rfl ?_
    refine gx_aload_n dX12_findsBehind_39 rfl 1 rfl ?_
    refine gx_iload_n dX12_findsBehind_40 rfl 3 rfl ?_
    refine gx_iload_n dX12_findsBehind_41 rfl 4 rfl ?_
    refine gy_iconst dX12_findsBehind_42 ?_
    refine gy_iadd dX12_findsBehind_43 ?_
    refine gx_bE e (fun _ hu17 e => ?_)
    refine gx_bE e (fun q18 hq18 e => ?_)
    refine gx_callV (n := 2) (st := []) (As := [.int (gI v2), .int (gI (v3 + (1 : Int)))]) (b := v0) dX12_findsBehind_44 (z_X12_firstFrom hq18) rfl ⟨rfl, gw_cw_X12_firstFrom, gw_14, gp_X12_firstFrom, ⟨Nat.le_of_ble_eq_true rfl, Nat.le_of_ble_eq_true rfl⟩⟩ (gi_isS hu17) (by decide) gw_1599 gw_1601 gs_75 rfl ⟨Nat.le_of_ble_eq_true rfl, Nat.le_of_ble_eq_true rfl⟩ (Nat.le_of_ble_eq_true rfl) (gy_k1 (x := .int (gI q18)) (kc2 := 0) (ks2 := 0) ⟨rfl, rfl⟩ ?_) gy_kn
    refine gx_aload_n dX12_findsBehind_47 rfl 1 rfl ?_
    refine gx_iload_n dX12_findsBehind_48 rfl 3 rfl ?_
    refine gx_iload_n dX12_findsBehind_49 rfl 4 rfl ?_
    refine gy_iconst dX12_findsBehind_50 ?_
    refine gy_iadd dX12_findsBehind_51 ?_
    refine gx_bE e (fun _ hu19 e => ?_)
    refine gx_bE e (fun q20 hq20 e => ?_)
    refine gx_callV (n := 2) (st := [.int (gI q18)]) (As := [.int (gI v2), .int (gI (v3 + (1 : Int)))]) (b := v0) dX12_findsBehind_52 (z_X12_isEmptyFrom hq20) rfl ⟨rfl, gw_cw_X12_isEmptyFrom, gw_14, gp_X12_isEmptyFrom, ⟨Nat.le_of_ble_eq_true rfl, Nat.le_of_ble_eq_true rfl⟩⟩ (gi_isS hu19) (by decide) gw_1603 gw_1605 gs_76 rfl ⟨Nat.le_of_ble_eq_true rfl, Nat.le_of_ble_eq_true rfl⟩ (Nat.le_of_ble_eq_true rfl) (gy_k1 (x := .int (gI q20)) (kc2 := 0) (ks2 := 0) ⟨rfl, rfl⟩ ?_) gy_kn
    refine gx_bE e (fun _ g21 e => ?_)
    refine gx_iE e (fun c22 e => ?_) (fun c22 e => ?_)
    · refine gy_if_eq (tgt := 71) (gi_rgS g21) dX12_findsBehind_55 (by decide) (fun _ => ?_) (fun z => absurd c22 z)
      refine gy_iconst dX12_findsBehind_71 ?_
      refine gx_sub (ls2 := [(0, .ref v0), (1, .int (gI v1)), (2, .int (gI v2)), (3, .int (gI v3)), (4, .int (gI t16))]) [1, 2, 3, 4, 0] rfl ?_
      exact zb_X12_findsBehind_72 hr4 hr19 e
    · refine gy_if_eq (tgt := 71) (gi_rgS g21) dX12_findsBehind_55 (by decide) (fun z => absurd z c22) (fun _ => ?_)
      refine gx_aload_n dX12_findsBehind_58 rfl 1 rfl ?_
      refine gx_bE e (fun t37 ht37 e => ?_)
      refine gy_fR ht37 dX12_findsBehind_59 gf_RX12_55_10_20 (by decide) gkN_10_20 gkR_10_20 ?_
      refine gx_aload_n dX12_findsBehind_62 rfl 1 rfl ?_
      refine gx_iload_n dX12_findsBehind_63 rfl 3 rfl ?_
      refine gx_bE e (fun _ hu38 e => ?_)
      refine gx_bE e (fun q39 hq39 e => ?_)
      refine gx_callV (n := 1) (st := [.ref t37, .int (gI q18)]) (As := [.int (gI v2)]) (b := v0) dX12_findsBehind_64 (z_X12_lead hq39) rfl ⟨rfl, gw_cw_X12_lead, gw_14, gp_X12_lead, ⟨Nat.le_of_ble_eq_true rfl, Nat.le_of_ble_eq_true rfl⟩⟩ (gi_isS hu38) (by decide) gw_1595 gw_1597 gs_74 rfl ⟨Nat.le_of_ble_eq_true rfl, Nat.le_of_ble_eq_true rfl⟩ (Nat.le_of_ble_eq_true rfl) (gy_k1 (x := .int (gI q39)) (kc2 := 0) (ks2 := 0) ⟨rfl, rfl⟩ ?_) gy_kn
      refine gx_bE e (fun t40 ht40 e => ?_)
      refine gy_l1 ht40 dX12_findsBehind_67 ?_
      refine gx_goto (tgt := 72) dX12_findsBehind_68 (by decide) ?_
      refine gx_sub (ls2 := [(0, .ref v0), (1, .int (gI v1)), (2, .int (gI v2)), (3, .int (gI v3)), (4, .int (gI t16))]) [1, 2, 3, 4, 0] rfl ?_
      exact zb_X12_findsBehind_72 hr4 hr19 e
def l_X12_findsBehind_19 (n : Nat) (r4 : Nat → Int → Int → gi_H → Option (Int × gi_H)) : Nat → Nat → Int → Int → Int → gi_H → Option (Int × gi_H)
  | 0, _, _, _, _, _ => none
  | k + 1, v0, v1, v2, v3, h => b_X12_findsBehind_19 n r4 (l_X12_findsBehind_19 n r4 k) v0 v1 v2 v3 h
theorem zl_X12_findsBehind_19 {al : Bool} {n : Nat} {r4 : Nat → Int → Int → gi_H → Option (Int × gi_H)} {res : Int} {h1 : gi_H} (hr4 : ∀ (x0 : Nat) (x1 : Int) (x2 : Int) (hh : gi_H), r4 x0 x1 x2 hh = some (res, h1) → gx_Z mX12_findsBehind al al 0 0 4 [(0, .ref x0), (1, .int (gI x1)), (2, .int (gI x2))] [] (gi_cv hh) (.inl (some (.int (gI res)))) (gi_cv h1)) : ∀ (k : Nat) (v0 : Nat) (v1 : Int) (v2 : Int) (v3 : Int) (h : gi_H), l_X12_findsBehind_19 n r4 k v0 v1 v2 v3 h = some (res, h1) → gx_Z mX12_findsBehind al al 0 0 19 [(0, .ref v0), (1, .int (gI v1)), (2, .int (gI v2)), (3, .int (gI v3))] [] (gi_cv h) (.inl (some (.int (gI res)))) (gi_cv h1)
  | 0, _, _, _, _, _, e => gx_0E e
  | k + 1, _, _, _, _, _, e => zb_X12_findsBehind_19 (n := n) hr4 (zl_X12_findsBehind_19 hr4 k) e
set_option maxRecDepth 100000 in
def b_X12_findsBehind_4 (n : Nat) (r4 : Nat → Int → Int → gi_H → Option (Int × gi_H)) (v0 : Nat) (v1 : Int) (v2 : Int)  (h : gi_H) : Option (Int × gi_H) :=
  Option.bind (gi_gR h v0 10 3) fun t1 => Option.bind (gi_gI h v0 10 9) fun t2 => Option.bind (gi_aI h 1 t1 t2) fun t3 => Option.bind (gi_rg v2) fun _ => Option.bind (gi_rg t3) fun _ => if t3 ≤ v2 then (Option.bind (gi_zo v1) fun _ => some (v1, h)) else (l_X12_findsBehind_19 n r4 n v0 v1 v2 (0 : Int) h)
set_option maxRecDepth 100000 in
theorem zb_X12_findsBehind_4 {al : Bool} {n : Nat} {r4 : Nat → Int → Int → gi_H → Option (Int × gi_H)} {res : Int} {h1 : gi_H} (hr4 : ∀ (x0 : Nat) (x1 : Int) (x2 : Int) (hh : gi_H), r4 x0 x1 x2 hh = some (res, h1) → gx_Z mX12_findsBehind al al 0 0 4 [(0, .ref x0), (1, .int (gI x1)), (2, .int (gI x2))] [] (gi_cv hh) (.inl (some (.int (gI res)))) (gi_cv h1)) {v0 : Nat} {v1 : Int} {v2 : Int}  {h : gi_H} (e : b_X12_findsBehind_4 n r4 v0 v1 v2 h = some (res, h1)) : gx_Z mX12_findsBehind al al 0 0 4 [(0, .ref v0), (1, .int (gI v1)), (2, .int (gI v2))] [] (gi_cv h) (.inl (some (.int (gI res)))) (gi_cv h1) := by
  refine gx_iload_n dX12_findsBehind_4 rfl 2 rfl ?_
  refine gx_aload_n dX12_findsBehind_5 rfl 0 rfl ?_
  refine gx_bE e (fun t1 ht1 e => ?_)
  refine gy_fR ht1 dX12_findsBehind_6 gf_RX12_19_10_3 (by decide) gkN_10_3 gkR_10_3 ?_
  refine gx_aload_n dX12_findsBehind_9 rfl 0 rfl ?_
  refine gx_bE e (fun t2 ht2 e => ?_)
  refine gy_fI ht2 dX12_findsBehind_10 gf_RX12_139_10_9 (by decide) gkN_10_9 gkR_10_9 ?_
  refine gx_bE e (fun t3 ht3 e => ?_)
  refine gy_l1 ht3 dX12_findsBehind_13 ?_
  refine gx_bE e (fun _ g4 e => ?_)
  refine gx_bE e (fun _ g5 e => ?_)
  refine gx_iE e (fun c6 e => ?_) (fun c6 e => ?_)
  · refine gy_icmp_ge (tgt := 126) (gi_rgS g4) (gi_rgS g5) dX12_findsBehind_14 (by decide) (fun _ => ?_) (fun z => absurd c6 z)
    refine gx_iload_n dX12_findsBehind_126 rfl 1 rfl ?_
    refine gx_bE e (fun _ hu7 e => ?_)
    cases e
    exact gx_zret (gi_zoS hu7) dX12_findsBehind_127 rfl ⟨Nat.le_of_ble_eq_true rfl, Nat.le_of_ble_eq_true rfl⟩ (fun z => z)
  · refine gy_icmp_ge (tgt := 126) (gi_rgS g4) (gi_rgS g5) dX12_findsBehind_14 (by decide) (fun z => absurd z c6) (fun _ => ?_)
    refine gy_iconst dX12_findsBehind_17 ?_
    refine gx_istore_n (ls2 := [(3, .int (gI (0 : Int))), (0, .ref v0), (1, .int (gI v1)), (2, .int (gI v2))]) dX12_findsBehind_18 rfl (Nat.le_of_ble_eq_true rfl) rfl ?_
    refine gx_sub (ls2 := [(0, .ref v0), (1, .int (gI v1)), (2, .int (gI v2)), (3, .int (gI (0 : Int)))]) [1, 2, 3, 0] rfl ?_
    exact zl_X12_findsBehind_19 hr4 n _ _ _ _ _ e
def l_X12_findsBehind_4 (n : Nat)  : Nat → Nat → Int → Int → gi_H → Option (Int × gi_H)
  | 0, _, _, _, _ => none
  | k + 1, v0, v1, v2, h => b_X12_findsBehind_4 n  (l_X12_findsBehind_4 n  k) v0 v1 v2 h
theorem zl_X12_findsBehind_4 {al : Bool} {n : Nat}  {res : Int} {h1 : gi_H}  : ∀ (k : Nat) (v0 : Nat) (v1 : Int) (v2 : Int) (h : gi_H), l_X12_findsBehind_4 n  k v0 v1 v2 h = some (res, h1) → gx_Z mX12_findsBehind al al 0 0 4 [(0, .ref v0), (1, .int (gI v1)), (2, .int (gI v2))] [] (gi_cv h) (.inl (some (.int (gI res)))) (gi_cv h1)
  | 0, _, _, _, _, e => gx_0E e
  | k + 1, _, _, _, _, e => zb_X12_findsBehind_4 (n := n)  (zl_X12_findsBehind_4  k) e
set_option maxRecDepth 100000 in
def f_X12_findsBehind (n : Nat) (v0 : Nat) (h : gi_H) : Option (Int × gi_H) :=
  l_X12_findsBehind_4 n  n v0 (0 : Int) (0 : Int) h
set_option maxRecDepth 100000 in
theorem z_X12_findsBehind {al : Bool} {n : Nat} {v0 : Nat} {h : gi_H} {res : Int} {h1 : gi_H} (e : f_X12_findsBehind n v0 h = some (res, h1)) : gx_Cw mX12_findsBehind al [.ref v0] (gi_cv h) (.inl (some (.int (gI res)))) (gi_cv h1) := by
  refine gx_enter (by decide +kernel) rfl (Nat.le_of_ble_eq_true rfl) ?_
  show gx_Z mX12_findsBehind al al 0 0 0 [(0, .ref v0)] [] (gi_cv h) (.inl (some (.int (gI res)))) (gi_cv h1)
  refine gy_iconst dX12_findsBehind_0 ?_
  refine gx_istore_n (ls2 := [(1, .int (gI (0 : Int))), (0, .ref v0)]) dX12_findsBehind_1 rfl (Nat.le_of_ble_eq_true rfl) rfl ?_
  refine gy_iconst dX12_findsBehind_2 ?_
  refine gx_istore_n (ls2 := [(2, .int (gI (0 : Int))), (1, .int (gI (0 : Int))), (0, .ref v0)]) dX12_findsBehind_3 rfl (Nat.le_of_ble_eq_true rfl) rfl ?_
  refine gx_sub (ls2 := [(0, .ref v0), (1, .int (gI (0 : Int))), (2, .int (gI (0 : Int)))]) [2, 1, 0] rfl ?_
  exact zl_X12_findsBehind_4  n _ _ _ _ e
