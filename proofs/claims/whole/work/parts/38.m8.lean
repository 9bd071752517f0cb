/-! X0_advance  -/
set_option maxRecDepth 100000 in
def b_X0_advance_83 (n : Nat)  (v0 : Nat) (v1 : Int) (v2 : Int) (v3 : Int)  (h : gi_H) : Option (gi_H) :=
  Option.bind (gi_rg v1) fun _ => if v1 < 0 then (some h) else (if (80 : Int) ≤ v1 then (some h) else (Option.bind (gi_rg v2) fun _ => if v2 < 0 then (some h) else (if (32 : Int) ≤ v2 then (some h) else (Option.bind (gi_gR h v0 0 6) fun t17 => Option.bind (gi_s1 h t17 ((v1 * (32 : Int)) + v2) v3) fun h18 => some h18))))
set_option maxRecDepth 100000 in
theorem zb_X0_advance_83 {al : Bool} {n : Nat}  {h1 : gi_H}  {v0 : Nat} {v1 : Int} {v2 : Int} {v3 : Int}  {h : gi_H} (e : b_X0_advance_83 n v0 v1 v2 v3 h = some h1) : gx_Z mX0_advance al al 0 0 83 [(0, .ref v0), (1, .int (gI v1)), (2, .int (gI v2)), (3, .int (gI v3))] [] (gi_cv h) (.inl none) (gi_cv h1) := by
  refine gx_iload_n dX0_advance_83 rfl 1 rfl ?_
  refine gx_bE e (fun _ g11 e => ?_)
  refine gx_iE e (fun c12 e => ?_) (fun c12 e => ?_)
  · refine gy_if_lt (tgt := 115) (gi_rgS g11) dX0_advance_84 (by decide) (fun _ => ?_) (fun z => absurd c12 z)
    cases e
    exact gx_vret dX0_advance_115 rfl ⟨Nat.le_of_ble_eq_true rfl, Nat.le_of_ble_eq_true rfl⟩ (fun z => z)
  · refine gy_if_lt (tgt := 115) (gi_rgS g11) dX0_advance_84 (by decide) (fun z => absurd z c12) (fun _ => ?_)
    refine gx_iload_n dX0_advance_87 rfl 1 rfl ?_
    refine gy_bipush dX0_advance_88 gcb_80 ?_
    refine gx_iE e (fun c13 e => ?_) (fun c13 e => ?_)
    · refine gy_icmp_ge (tgt := 115) (gi_rgS g11) (by decide) dX0_advance_90 (by decide) (fun _ => ?_) (fun z => absurd c13 z)
      cases e
      exact gx_vret dX0_advance_115 rfl ⟨Nat.le_of_ble_eq_true rfl, Nat.le_of_ble_eq_true rfl⟩ (fun z => z)
    · refine gy_icmp_ge (tgt := 115) (gi_rgS g11) (by decide) dX0_advance_90 (by decide) (fun z => absurd z c13) (fun _ => ?_)
      refine gx_iload_n dX0_advance_93 rfl 2 rfl ?_
      refine gx_bE e (fun _ g14 e => ?_)
      refine gx_iE e (fun c15 e => ?_) (fun c15 e => ?_)
      · refine gy_if_lt (tgt := 115) (gi_rgS g14) dX0_advance_94 (by decide) (fun _ => ?_) (fun z => absurd c15 z)
        cases e
        exact gx_vret dX0_advance_115 rfl ⟨Nat.le_of_ble_eq_true rfl, Nat.le_of_ble_eq_true rfl⟩ (fun z => z)
      · refine gy_if_lt (tgt := 115) (gi_rgS g14) dX0_advance_94 (by decide) (fun z => absurd z c15) (fun _ => ?_)
        refine gx_iload_n dX0_advance_97 rfl 2 rfl ?_
        refine gy_bipush dX0_advance_98 gcb_32 ?_
        refine gx_iE e (fun c16 e => ?_) (fun c16 e => ?_)
        · refine gy_icmp_ge (tgt := 115) (gi_rgS g14) (by decide) dX0_advance_100 (by decide) (fun _ => ?_) (fun z => absurd c16 z)
          cases e
          exact gx_vret dX0_advance_115 rfl ⟨Nat.le_of_ble_eq_true rfl, Nat.le_of_ble_eq_true rfl⟩ (fun z => z)
        · refine gy_icmp_ge (tgt := 115) (gi_rgS g14) (by decide) dX0_advance_100 (by decide) (fun z => absurd z c16) (fun _ => ?_)
          refine gx_aload_n dX0_advance_103 rfl 0 rfl ?_
          refine gx_bE e (fun t17 ht17 e => ?_)
          refine gy_fR ht17 dX0_advance_104 gf_RX0_15_0_6 (by decide) gkN_0_6 gkR_0_6 ?_
          refine gx_iload_n dX0_advance_107 rfl 1 rfl ?_
          refine gy_bipush dX0_advance_108 gcb_32 ?_
          refine gy_imul dX0_advance_110 ?_
          refine gx_iload_n dX0_advance_111 rfl 2 rfl ?_
          refine gy_iadd dX0_advance_112 ?_
          refine gx_iload_n dX0_advance_113 rfl 3 rfl ?_
          refine gx_bE e (fun h18 hh18 e => ?_)
          refine gy_t1 hh18 dX0_advance_114 ?_
          cases e
          exact gx_vret dX0_advance_115 rfl ⟨Nat.le_of_ble_eq_true rfl, Nat.le_of_ble_eq_true rfl⟩ (fun z => z)
set_option maxRecDepth 100000 in
def b_X0_advance_51 (n : Nat)  (v0 : Nat) (v1 : Int) (v2 : Int)  (h : gi_H) : Option (gi_H) :=
  Option.bind (gi_is h v0 0) fun _ => Option.bind (f_X0_findState n v0 v2 h) fun q6 => Option.bind (gi_rg q6) fun _ => if q6 = (-1 : Int) then (Option.bind (gi_is h v0 0) fun _ => Option.bind (f_X0_addState n v0 v2 h) fun q10 => b_X0_advance_83 n  v0 v1 v2 q10.1 q10.2) else (Option.bind (gi_gI h v0 0 1) fun t19 => Option.bind (gi_rg t19) fun _ => if t19 = 0 then (b_X0_advance_83 n  v0 v1 v2 q6 h) else (Option.bind (gi_is h v0 0) fun _ => Option.bind (f_X0_mergeInto n v0 q6 h) fun q23 => b_X0_advance_83 n  v0 v1 v2 q6 q23))
set_option maxRecDepth 100000 in
theorem zb_X0_advance_51 {al : Bool} {n : Nat}  {h1 : gi_H}  {v0 : Nat} {v1 : Int} {v2 : Int}  {h : gi_H} (e : b_X0_advance_51 n v0 v1 v2 h = some h1) : gx_Z mX0_advance al al 0 0 51 [(0, .ref v0), (1, .int (gI v1)), (2, .int (gI v2))] [] (gi_cv h) (.inl none) (gi_cv h1) := by
  refine gx_aload_n dX0_advance_51 rfl 0 rfl ?_
  refine gx_iload_n dX0_advance_52 rfl 2 rfl ?_
  refine gx_bE e (fun _ hu5 e => ?_)
  refine gx_bE e (fun q6 hq6 e => ?_)
  refine gx_callV (n := 1) (st := []) (As := [.int (gI v2)]) (b := v0) dX0_advance_53 (z_X0_findState hq6) rfl ⟨rfl, gw_cw_X0_findState, gw_7, gp_X0_findState, ⟨Nat.le_of_ble_eq_true rfl, Nat.le_of_ble_eq_true rfl⟩⟩ (gi_isS hu5) (by decide) gw_578 gw_580 gs_27 rfl ⟨Nat.le_of_ble_eq_true rfl, Nat.le_of_ble_eq_true rfl⟩ (Nat.le_of_ble_eq_true rfl) (gy_k1 (x := .int (gI q6)) (kc2 := 0) (ks2 := 0) ⟨rfl, rfl⟩ ?_) gy_kn
  refine gx_istore_n (ls2 := [(3, .int (gI q6)), (0, .ref v0), (1, .int (gI v1)), (2, .int (gI v2))]) dX0_advance_56 rfl (Nat.le_of_ble_eq_true rfl) rfl ?_
  refine gx_iload_n dX0_advance_57 rfl 0 rfl ?_
  refine gy_iconst dX0_advance_58 ?_
  refine gx_bE e (fun _ g7 e => ?_)
  refine gx_iE e (fun c8 e => ?_) (fun c8 e => ?_)
  · refine gy_icmp_ne (tgt := 71) (gi_rgS g7) (by decide) dX0_advance_59 (by decide) (fun z => absurd c8 z) (fun _ => ?_)
    refine gx_aload_n dX0_advance_62 rfl 1 rfl ?_
    refine gx_iload_n dX0_advance_63 rfl 3 rfl ?_
    refine gx_bE e (fun _ hu9 e => ?_)
    refine gx_bE e (fun q10 hq10 e => ?_)
    refine gx_callV (n := 1) (st := []) (As := [.int (gI v2)]) (b := v0) dX0_advance_64 (z_X0_addState hq10) rfl ⟨rfl, gw_cw_X0_addState, gw_7, gp_X0_addState, ⟨Nat.le_of_ble_eq_true rfl, Nat.le_of_ble_eq_true rfl⟩⟩ (gi_isS hu9) (by decide) gw_528 gw_530 gs_20 rfl ⟨Nat.le_of_ble_eq_true rfl, Nat.le_of_ble_eq_true rfl⟩ (Nat.le_of_ble_eq_true rfl) (gy_k1 (x := .int (gI q10.1)) (kc2 := 0) (ks2 := 0) ⟨rfl, rfl⟩ ?_) gy_kn
    refine gx_istore_n (ls2 := [(3, .int (gI q10.1)), (0, .ref v0), (1, .int (gI v1)), (2, .int (gI v2))]) dX0_advance_67 rfl (Nat.le_of_ble_eq_true rfl) rfl ?_
    refine gx_goto (tgt := 83) dX0_advance_68 (by decide) ?_
    refine gx_sub (ls2 := [(0, .ref v0), (1, .int (gI v1)), (2, .int (gI v2)), (3, .int (gI q10.1))]) [1, 2, 3, 0] rfl ?_
    exact zb_X0_advance_83  e
  · refine gy_icmp_ne (tgt := 71) (gi_rgS g7) (by decide) dX0_advance_59 (by decide) (fun _ => ?_) (fun z => absurd z c8)
    refine gx_aload_n dX0_advance_71 rfl 1 rfl ?_
    refine gx_bE e (fun t19 ht19 e => ?_)
    refine gy_fI ht19 dX0_advance_72 gf_RX0_32_0_1 (by decide) gkN_0_1 gkR_0_1 ?_
    refine gx_bE e (fun _ g20 e => ?_)
    refine gx_iE e (fun c21 e => ?_) (fun c21 e => ?_)
    · refine gy_if_eq (tgt := 83) (gi_rgS g20) dX0_advance_75 (by decide) (fun _ => ?_) (fun z => absurd c21 z)
      refine gx_sub (ls2 := [(0, .ref v0), (1, .int (gI v1)), (2, .int (gI v2)), (3, .int (gI q6))]) [1, 2, 3, 0] rfl ?_
      exact zb_X0_advance_83  e
    · refine gy_if_eq (tgt := 83) (gi_rgS g20) dX0_advance_75 (by decide) (fun z => absurd z c21) (fun _ => ?_)
      refine gx_aload_n dX0_advance_78 rfl 1 rfl ?_
      refine gx_iload_n dX0_advance_79 rfl 0 rfl ?_
      refine gx_bE e (fun _ hu22 e => ?_)
      refine gx_bE e (fun q23 hq23 e => ?_)
      refine gx_callV (n := 1) (st := []) (As := [.int (gI q6)]) (b := v0) dX0_advance_80 (z_X0_mergeInto hq23) rfl ⟨rfl, gw_cw_X0_mergeInto, gw_7, gp_X0_mergeInto, ⟨Nat.le_of_ble_eq_true rfl, Nat.le_of_ble_eq_true rfl⟩⟩ (gi_isS hu22) (by decide) gw_586 gw_588 gs_29 rfl ⟨Nat.le_of_ble_eq_true rfl, Nat.le_of_ble_eq_true rfl⟩ (Nat.le_of_ble_eq_true rfl) (gy_k0 (kc2 := 0) (ks2 := 0) ⟨rfl, rfl⟩ ?_) gy_kn
      refine gx_sub (ls2 := [(0, .ref v0), (1, .int (gI v1)), (2, .int (gI v2)), (3, .int (gI q6))]) [1, 2, 3, 0] rfl ?_
      exact zb_X0_advance_83  e
set_option maxRecDepth 100000 in
def b_X0_advance_45 (n : Nat) (r10 : Nat → Int → Int → Int → gi_H → Option (gi_H)) (v0 : Nat) (v1 : Int) (v2 : Int) (v3 : Int)  (h : gi_H) : Option (gi_H) :=
  gx_nm (v3 + (1 : Int)) fun t34 => r10 v0 v1 v2 t34 h
set_option maxRecDepth 100000 in
theorem zb_X0_advance_45 {al : Bool} {n : Nat} {r10 : Nat → Int → Int → Int → gi_H → Option (gi_H)} {h1 : gi_H} (hr10 : ∀ (x0 : Nat) (x1 : Int) (x2 : Int) (x3 : Int) (hh : gi_H), r10 x0 x1 x2 x3 hh = some h1 → gx_Z mX0_advance al al 0 0 10 [(0, .ref x0), (1, .int (gI x1)), (2, .int (gI x2)), (3, .int (gI x3))] [] (gi_cv hh) (.inl none) (gi_cv h1)) {v0 : Nat} {v1 : Int} {v2 : Int} {v3 : Int}  {h : gi_H} (e : b_X0_advance_45 n r10 v0 v1 v2 v3 h = some h1) : gx_Z mX0_advance al al 0 0 45 [(0, .ref v0), (1, .int (gI v1)), (2, .int (gI v2)), (3, .int (gI v3))] [] (gi_cv h) (.inl none) (gi_cv h1) := by
  refine gx_nE e (fun t34 ht34 e => ?_)
  refine gy_iinc (v := t34) (ls2 := [(3, .int (gI t34)), (0, .ref v0), (1, .int (gI v1)), (2, .int (gI v2))]) dX0_advance_45 3 rfl ht34 (Nat.le_of_ble_eq_true rfl) rfl ?_
  refine gx_goto (tgt := 10) dX0_advance_48 (by decide) ?_
  refine gx_sub (ls2 := [(0, .ref v0), (1, .int (gI v1)), (2, .int (gI v2)), (3, .int (gI t34))]) [1, 2, 3, 0] rfl ?_
  exact hr10 _ _ _ _ _ e
set_option maxRecDepth 100000 in
def b_X0_advance_10 (n : Nat) (r10 : Nat → Int → Int → Int → gi_H → Option (gi_H)) (v0 : Nat) (v1 : Int) (v2 : Int) (v3 : Int)  (h : gi_H) : Option (gi_H) :=
  Option.bind (gi_rg (v3 + (1 : Int))) fun _ => if (150 : Int) ≤ (v3 + (1 : Int)) then (b_X0_advance_51 n  v0 v1 v2 h) else (Option.bind (gi_gR h v0 0 0) fun t24 => Option.bind (gi_is h t24 2) fun _ => Option.bind (f_X3_front t24 v3 h) fun q26 => Option.bind (gi_rg q26) fun _ => Option.bind (gi_rg v2) fun _ => if q26 = v2 then (Option.bind (gi_gR h v0 0 9) fun t30 => Option.bind (gi_is h v0 0) fun _ => Option.bind (f_X0_row v0 v1 v3 h) fun q32 => Option.bind (gi_s1 h t30 (v3 + (1 : Int)) q32) fun h33 => b_X0_advance_45 n r10 v0 v1 v2 v3 h33) else (b_X0_advance_45 n r10 v0 v1 v2 v3 h))
set_option maxRecDepth 100000 in
theorem zb_X0_advance_10 {al : Bool} {n : Nat} {r10 : Nat → Int → Int → Int → gi_H → Option (gi_H)} {h1 : gi_H} (hr10 : ∀ (x0 : Nat) (x1 : Int) (x2 : Int) (x3 : Int) (hh : gi_H), r10 x0 x1 x2 x3 hh = some h1 → gx_Z mX0_advance al al 0 0 10 [(0, .ref x0), (1, .int (gI x1)), (2, .int (gI x2)), (3, .int (gI x3))] [] (gi_cv hh) (.inl none) (gi_cv h1)) {v0 : Nat} {v1 : Int} {v2 : Int} {v3 : Int}  {h : gi_H} (e : b_X0_advance_10 n r10 v0 v1 v2 v3 h = some h1) : gx_Z mX0_advance al al 0 0 10 [(0, .ref v0), (1, .int (gI v1)), (2, .int (gI v2)), (3, .int (gI v3))] [] (gi_cv h) (.inl none) (gi_cv h1) := by
  refine gx_iload_n dX0_advance_10 rfl 3 rfl ?_
  refine gy_iconst dX0_advance_11 ?_
  refine gy_iadd dX0_advance_12 ?_
  refine gy_sipush dX0_advance_13 gcs_150 ?_
  refine gx_bE e (fun _ g3 e => ?_)
  refine gx_iE e (fun c4 e => ?_) (fun c4 e => ?_)
  · refine gy_icmp_ge (tgt := 51) (gi_rgS g3) (by decide) dX0_advance_16 (by decide) (fun _ => ?_) (fun z => absurd c4 z)
    refine gx_sub (ls2 := [(0, .ref v0), (1, .int (gI v1)), (2, .int (gI v2))]) [0, 1, 2] rfl ?_
    exact zb_X0_advance_51  e
  · refine gy_icmp_ge (tgt := 51) (gi_rgS g3) (by decide) dX0_advance_16 (by decide) (fun z => absurd z c4) (fun _ => ?_)
    refine gx_aload_n dX0_advance_19 rfl 0 rfl ?_
    refine gx_bE e (fun t24 ht24 e => ?_)
    refine gy_fR ht24 dX0_advance_20 gf_RX0_28_0_0 (by decide) gkN_0_0 gkR_0_0 ?_
    refine gx_iload_n dX0_advance_23 rfl 3 rfl ?_
    refine gx_bE e (fun _ hu25 e => ?_)
    refine gx_bE e (fun q26 hq26 e => ?_)
    refine gx_callV (n := 1) (st := []) (As := [.int (gI v3)]) (b := t24) dX0_advance_24 (z_X3_front hq26) rfl ⟨rfl, gw_cw_X3_front, gw_6, gp_X3_front, ⟨Nat.le_of_ble_eq_true rfl, Nat.le_of_ble_eq_true rfl⟩⟩ (gi_isS hu25) (by decide) gw_541 gw_542 gw_543 rfl ⟨Nat.le_of_ble_eq_true rfl, Nat.le_of_ble_eq_true rfl⟩ (Nat.le_of_ble_eq_true rfl) (gy_k1 (x := .int (gI q26)) (kc2 := 0) (ks2 := 0) ⟨rfl, rfl⟩ ?_) gy_kn
    refine gx_iload_n dX0_advance_27 rfl 2 rfl ?_
    refine gx_bE e (fun _ g27 e => ?_)
    refine gx_bE e (fun _ g28 e => ?_)
    refine gx_iE e (fun c29 e => ?_) (fun c29 e => ?_)
    · refine gy_icmp_ne (tgt := 45) (gi_rgS g27) (gi_rgS g28) dX0_advance_28 (by decide) (fun z => absurd c29 z) (fun _ => ?_)
      refine gx_aload_n dX0_advance_31 rfl 0 rfl ?_
      refine gx_bE e (fun t30 ht30 e => ?_)
      refine gy_fR ht30 dX0_advance_32 gf_RX0_25_0_9 (by decide) gkN_0_9 gkR_0_9 ?_
      refine gx_iload_n dX0_advance_35 rfl 3 rfl ?_
      refine gy_iconst dX0_advance_36 ?_
      refine gy_iadd dX0_advance_37 ?_
      refine gx_aload_n dX0_advance_38 rfl 0 rfl ?_
      refine gx_iload_n dX0_advance_39 rfl 1 rfl ?_
      refine gx_iload_n dX0_advance_40 rfl 3 rfl ?_
      refine gx_bE e (fun _ hu31 e => ?_)
      refine gx_bE e (fun q32 hq32 e => ?_)
      refine gx_callV (n := 2) (st := [.int (gI (v3 + (1 : Int))), .ref t30]) (As := [.int (gI v1), .int (gI v3)]) (b := v0) dX0_advance_41 (z_X0_row hq32) rfl ⟨rfl, gw_cw_X0_row, gw_7, gp_X0_row, ⟨Nat.le_of_ble_eq_true rfl, Nat.le_of_ble_eq_true rfl⟩⟩ (gi_isS hu31) (by decide) gw_537 gw_538 gw_539 rfl ⟨Nat.le_of_ble_eq_true rfl, Nat.le_of_ble_eq_true rfl⟩ (Nat.le_of_ble_eq_true rfl) (gy_k1 (x := .int (gI q32)) (kc2 := 0) (ks2 := 0) ⟨rfl, rfl⟩ ?_) gy_kn
      refine gx_bE e (fun h33 hh33 e => ?_)
      refine gy_t1 hh33 dX0_advance_44 ?_
      exact zb_X0_advance_45 hr10 e
    · refine gy_icmp_ne (tgt := 45) (gi_rgS g27) (gi_rgS g28) dX0_advance_28 (by decide) (fun _ => ?_) (fun z => absurd z c29)
      exact zb_X0_advance_45 hr10 e
def l_X0_advance_10 (n : Nat)  : Nat → Nat → Int → Int → Int → gi_H → Option (gi_H)
  | 0, _, _, _, _, _ => none
  | k + 1, v0, v1, v2, v3, h => b_X0_advance_10 n  (l_X0_advance_10 n  k) v0 v1 v2 v3 h
theorem zl_X0_advance_10 {al : Bool} {n : Nat}  {h1 : gi_H}  : ∀ (k : Nat) (v0 : Nat) (v1 : Int) (v2 : Int) (v3 : Int) (h : gi_H), l_X0_advance_10 n  k v0 v1 v2 v3 h = some h1 → gx_Z mX0_advance al al 0 0 10 [(0, .ref v0), (1, .int (gI v1)), (2, .int (gI v2)), (3, .int (gI v3))] [] (gi_cv h) (.inl none) (gi_cv h1)
  | 0, _, _, _, _, _, e => gx_0E e
  | k + 1, _, _, _, _, _, e => zb_X0_advance_10 (n := n)  (zl_X0_advance_10  k) e
set_option maxRecDepth 100000 in
def f_X0_advance (n : Nat) (v0 : Nat) (v1 : Int) (v2 : Int) (h : gi_H) : Option (gi_H) :=
  Option.bind (gi_gR h v0 0 9) fun t1 => Option.bind (f_J7_fill_53178 n t1 (0 : Int) h) fun q2 => l_X0_advance_10 n  n v0 v1 v2 (0 : Int) q2
set_option maxRecDepth 100000 in
theorem z_X0_advance {al : Bool} {n : Nat} {v0 : Nat} {v1 : Int} {v2 : Int} {h : gi_H} {h1 : gi_H} (e : f_X0_advance n v0 v1 v2 h = some h1) : gx_Cw mX0_advance al [.ref v0, .int (gI v1), .int (gI v2)] (gi_cv h) (.inl none) (gi_cv h1) := by
  refine gx_enter (by decide +kernel) rfl (Nat.le_of_ble_eq_true rfl) ?_
  show gx_Z mX0_advance al al 0 0 0 [(0, .ref v0), (1, .int (gI v1)), (2, .int (gI v2))] [] (gi_cv h) (.inl none) (gi_cv h1)
  refine gx_aload_n dX0_advance_0 rfl 0 rfl ?_
  refine gx_bE e (fun t1 ht1 e => ?_)
  refine gy_fR ht1 dX0_advance_1 gf_RX0_25_0_9 (by decide) gkN_0_9 gkR_0_9 ?_
  refine gy_iconst dX0_advance_4 ?_
  refine gx_bE e (fun q2 hq2 e => ?_)
  refine gx_callS (n := 2) (st := []) (As := [.ref t1, .int (gI (0 : Int))]) dX0_advance_5 (z_J7_fill_53178 hq2) rfl ⟨rfl, gw_cw_J7_fill_53178, gw_5, gp_J7_fill_53178, ⟨Nat.le_of_ble_eq_true rfl, Nat.le_of_ble_eq_true rfl⟩⟩ gw_527 gw_99 ⟨Nat.le_of_ble_eq_true rfl, Nat.le_of_ble_eq_true rfl⟩ (Nat.le_of_ble_eq_true rfl) (gy_k0 (kc2 := 0) (ks2 := 0) ⟨rfl, rfl⟩ ?_) gy_kn
  refine gy_iconst dX0_advance_8 ?_
  refine gx_istore_n (ls2 := [(3, .int (gI (0 : Int))), (0, .ref v0), (1, .int (gI v1)), (2, .int (gI v2))]) dX0_advance_9 rfl (Nat.le_of_ble_eq_true rfl) rfl ?_
  refine gx_sub (ls2 := [(0, .ref v0), (1, .int (gI v1)), (2, .int (gI v2)), (3, .int (gI (0 : Int)))]) [1, 2, 3, 0] rfl ?_
  exact zl_X0_advance_10  n _ _ _ _ _ e
/-! X0_leave  -/
set_option maxRecDepth 100000 in
def b_X0_leave_35 (n : Nat) (r8 : Nat → Int → Int → Int → gi_H → Option (gi_H)) (v0 : Nat) (v1 : Int) (v2 : Int) (v3 : Int)  (h : gi_H) : Option (gi_H) :=
  gx_nm (v3 + (1 : Int)) fun t11 => r8 v0 v1 v2 t11 h
set_option maxRecDepth 100000 in
theorem zb_X0_leave_35 {al : Bool} {n : Nat} {r8 : Nat → Int → Int → Int → gi_H → Option (gi_H)} {h1 : gi_H} (hr8 : ∀ (x0 : Nat) (x1 : Int) (x2 : Int) (x3 : Int) (hh : gi_H), r8 x0 x1 x2 x3 hh = some h1 → gx_Z mX0_leave al al 0 0 8 [(0, .ref x0), (1, .int (gI x1)), (2, .int (gI x2)), (3, .int (gI x3))] [] (gi_cv hh) (.inl none) (gi_cv h1)) {v0 : Nat} {v1 : Int} {v2 : Int} {v3 : Int}  {h : gi_H} (e : b_X0_leave_35 n r8 v0 v1 v2 v3 h = some h1) : gx_Z mX0_leave al al 0 0 35 [(0, .ref v0), (1, .int (gI v1)), (2, .int (gI v2)), (3, .int (gI v3))] [] (gi_cv h) (.inl none) (gi_cv h1) := by
  refine gx_nE e (fun t11 ht11 e => ?_)
  refine gy_iinc (v := t11) (ls2 := [(3, .int (gI t11)), (0, .ref v0), (1, .int (gI v1)), (2, .int (gI v2))]) dX0_leave_35 3 rfl ht11 (Nat.le_of_ble_eq_true rfl) rfl ?_
  refine gx_goto (tgt := 8) dX0_leave_38 (by decide) ?_
  refine gx_sub (ls2 := [(0, .ref v0), (1, .int (gI v1)), (2, .int (gI v2)), (3, .int (gI t11))]) [1, 2, 3, 0] rfl ?_
  exact hr8 _ _ _ _ _ e
set_option maxRecDepth 100000 in
def b_X0_leave_8 (n : Nat) (r8 : Nat → Int → Int → Int → gi_H → Option (gi_H)) (v0 : Nat) (v1 : Int) (v2 : Int) (v3 : Int)  (h : gi_H) : Option (gi_H) :=
  Option.bind (gi_rg v3) fun _ => if (32 : Int) ≤ v3 then (some h) else (Option.bind (gi_gI h v0 0 3) fun t5 => Option.bind (gi_rg t5) fun _ => if t5 = 0 then (Option.bind (f_X11_has v2 v3 h) fun q8 => Option.bind (gi_rg q8) fun _ => if q8 = 0 then (b_X0_leave_35 n r8 v0 v1 v2 v3 h) else (Option.bind (gi_is h v0 0) fun _ => Option.bind (f_X0_advance n v0 v1 v3 h) fun q13 => b_X0_leave_35 n r8 v0 v1 v2 v3 q13)) else (some h))
set_option maxRecDepth 100000 in
theorem zb_X0_leave_8 {al : Bool} {n : Nat} {r8 : Nat → Int → Int → Int → gi_H → Option (gi_H)} {h1 : gi_H} (hr8 : ∀ (x0 : Nat) (x1 : Int) (x2 : Int) (x3 : Int) (hh : gi_H), r8 x0 x1 x2 x3 hh = some h1 → gx_Z mX0_leave al al 0 0 8 [(0, .ref x0), (1, .int (gI x1)), (2, .int (gI x2)), (3, .int (gI x3))] [] (gi_cv hh) (.inl none) (gi_cv h1)) {v0 : Nat} {v1 : Int} {v2 : Int} {v3 : Int}  {h : gi_H} (e : b_X0_leave_8 n r8 v0 v1 v2 v3 h = some h1) : gx_Z mX0_leave al al 0 0 8 [(0, .ref v0), (1, .int (gI v1)), (2, .int (gI v2)), (3, .int (gI v3))] [] (gi_cv h) (.inl none) (gi_cv h1) := by
  refine gx_iload_n dX0_leave_8 rfl 3 rfl ?_
  refine gy_bipush dX0_leave_9 gcb_32 ?_
  refine gx_bE e (fun _ g3 e => ?_)
  refine gx_iE e (fun c4 e => ?_) (fun c4 e => ?_)
  · refine gy_icmp_ge (tgt := 41) (gi_rgS g3) (by decide) dX0_leave_11 (by decide) (fun _ => ?_) (fun z => absurd c4 z)
    cases e
    exact gx_vret dX0_leave_41 rfl ⟨Nat.le_of_ble_eq_true rfl, Nat.le_of_ble_eq_true rfl⟩ (fun z => z)
  · refine gy_icmp_ge (tgt := 41) (gi_rgS g3) (by decide) dX0_leave_11 (by decide) (fun z => absurd z c4) (fun _ => ?_)
    refine gx_aload_n dX0_leave_14 rfl 0 rfl ?_
    refine gx_bE e (fun t5 ht5 e => ?_)
    refine gy_fI ht5 dX0_leave_15 gf_RX0_39_0_3 (by decide) gkN_0_3 gkR_0_3 ?_
    refine gx_bE e (fun _ g6 e => ?_)
    refine gx_iE e (fun c7 e => ?_) (fun c7 e => ?_)
    · refine gy_if_ne (tgt := 41) (gi_rgS g6) dX0_leave_18 (by decide) (fun z => absurd c7 z) (fun _ => ?_)
      refine gx_iload_n dX0_leave_21 rfl 2 rfl ?_
      refine gx_iload_n dX0_leave_22 rfl 3 rfl ?_
      refine gx_bE e (fun q8 hq8 e => ?_)
      refine gx_callSN (n := 2) (st := []) (As := [.int (gI v2), .int (gI v3)]) dX0_leave_23 (z_X11_has hq8) rfl ⟨rfl, gw_cw_X11_has, gw_1, gp_X11_has, ⟨Nat.le_of_ble_eq_true rfl, Nat.le_of_ble_eq_true rfl⟩⟩ (host := "Grammarsmith") (by decide +kernel) gw_473 ⟨Nat.le_of_ble_eq_true rfl, Nat.le_of_ble_eq_true rfl⟩ (Nat.le_of_ble_eq_true rfl) (gy_k1 (x := .int (gI q8)) (kc2 := 0) (ks2 := 0) ⟨rfl, rfl⟩ ?_) gy_kn
      refine gx_bE e (fun _ g9 e => ?_)
      refine gx_iE e (fun c10 e => ?_) (fun c10 e => ?_)
      · refine gy_if_eq (tgt := 35) (gi_rgS g9) dX0_leave_26 (by decide) (fun _ => ?_) (fun z => absurd c10 z)
        exact zb_X0_leave_35 hr8 e
      · refine gy_if_eq (tgt := 35) (gi_rgS g9) dX0_leave_26 (by decide) (fun z => absurd z c10) (fun _ => ?_)
        refine gx_aload_n dX0_leave_29 rfl 0 rfl ?_
        refine gx_iload_n dX0_leave_30 rfl 1 rfl ?_
        refine gx_iload_n dX0_leave_31 rfl 3 rfl ?_
        refine gx_bE e (fun _ hu12 e => ?_)
        refine gx_bE e (fun q13 hq13 e => ?_)
        refine gx_callV (n := 2) (st := []) (As := [.int (gI v1), .int (gI v3)]) (b := v0) dX0_leave_32 (z_X0_advance hq13) rfl ⟨rfl, gw_cw_X0_advance, gw_7, gp_X0_advance, ⟨Nat.le_of_ble_eq_true rfl, Nat.le_of_ble_eq_true rfl⟩⟩ (gi_isS hu12) (by decide) gw_574 gw_576 gs_26 rfl ⟨Nat.le_of_ble_eq_true rfl, Nat.le_of_ble_eq_true rfl⟩ (Nat.le_of_ble_eq_true rfl) (gy_k0 (kc2 := 0) (ks2 := 0) ⟨rfl, rfl⟩ ?_) gy_kn
        exact zb_X0_leave_35 hr8 e
    · refine gy_if_ne (tgt := 41) (gi_rgS g6) dX0_leave_18 (by decide) (fun _ => ?_) (fun z => absurd z c7)
      cases e
      exact gx_vret dX0_leave_41 rfl ⟨Nat.le_of_ble_eq_true rfl, Nat.le_of_ble_eq_true rfl⟩ (fun z => z)
def l_X0_leave_8 (n : Nat)  : Nat → Nat → Int → Int → Int → gi_H → Option (gi_H)
  | 0, _, _, _, _, _ => none
  | k + 1, v0, v1, v2, v3, h => b_X0_leave_8 n  (l_X0_leave_8 n  k) v0 v1 v2 v3 h
theorem zl_X0_leave_8 {al : Bool} {n : Nat}  {h1 : gi_H}  : ∀ (k : Nat) (v0 : Nat) (v1 : Int) (v2 : Int) (v3 : Int) (h : gi_H), l_X0_leave_8 n  k v0 v1 v2 v3 h = some h1 → gx_Z mX0_leave al al 0 0 8 [(0, .ref v0), (1, .int (gI v1)), (2, .int (gI v2)), (3, .int (gI v3))] [] (gi_cv h) (.inl none) (gi_cv h1)
  | 0, _, _, _, _, _, e => gx_0E e
  | k + 1, _, _, _, _, _, e => zb_X0_leave_8 (n := n)  (zl_X0_leave_8  k) e
set_option maxRecDepth 100000 in
def f_X0_leave (n : Nat) (v0 : Nat) (v1 : Int) (h : gi_H) : Option (gi_H) :=
  Option.bind (gi_is h v0 0) fun _ => Option.bind (f_X0_symbolsInFront n v0 v1 h) fun q2 => l_X0_leave_8 n  n v0 v1 q2 (0 : Int) h
set_option maxRecDepth 100000 in
theorem z_X0_leave {al : Bool} {n : Nat} {v0 : Nat} {v1 : Int} {h : gi_H} {h1 : gi_H} (e : f_X0_leave n v0 v1 h = some h1) : gx_Cw mX0_leave al [.ref v0, .int (gI v1)] (gi_cv h) (.inl none) (gi_cv h1) := by
  refine gx_enter (by decide +kernel) rfl (Nat.le_of_ble_eq_true rfl) ?_
  show gx_Z mX0_leave al al 0 0 0 [(0, .ref v0), (1, .int (gI v1))] [] (gi_cv h) (.inl none) (gi_cv h1)
  refine gx_aload_n dX0_leave_0 rfl 0 rfl ?_
  refine gx_iload_n dX0_leave_1 rfl 1 rfl ?_
  refine gx_bE e (fun _ hu1 e => ?_)
  refine gx_bE e (fun q2 hq2 e => ?_)
  refine gx_callV (n := 1) (st := []) (As := [.int (gI v1)]) (b := v0) dX0_leave_2 (z_X0_symbolsInFront hq2) rfl ⟨rfl, gw_cw_X0_symbolsInFront, gw_7, gp_X0_symbolsInFront, ⟨Nat.le_of_ble_eq_true rfl, Nat.le_of_ble_eq_true rfl⟩⟩ (gi_isS hu1) (by decide) gw_569 gw_571 gs_25 rfl ⟨Nat.le_of_ble_eq_true rfl, Nat.le_of_ble_eq_true rfl⟩ (Nat.le_of_ble_eq_true rfl) (gy_k1 (x := .int (gI q2)) (kc2 := 0) (ks2 := 0) ⟨rfl, rfl⟩ ?_) gy_kn
  refine gx_istore_n (ls2 := [(2, .int (gI q2)), (0, .ref v0), (1, .int (gI v1))]) dX0_leave_5 rfl (Nat.le_of_ble_eq_true rfl) rfl ?_
  refine gy_iconst dX0_leave_6 ?_
  refine gx_istore_n (ls2 := [(3, .int (gI (0 : Int))), (2, .int (gI q2)), (0, .ref v0), (1, .int (gI v1))]) dX0_leave_7 rfl (Nat.le_of_ble_eq_true rfl) rfl ?_
  refine gx_sub (ls2 := [(0, .ref v0), (1, .int (gI v1)), (2, .int (gI q2)), (3, .int (gI (0 : Int)))]) [2, 3, 1, 0] rfl ?_
  exact zl_X0_leave_8  n _ _ _ _ _ e
/-! X0_build  -/
set_option maxRecDepth 100000 in
def b_X0_build_129 (n : Nat)  (v0 : Nat)  (h : gi_H) : Option (gi_H) :=
  Option.bind (gi_pZ h v0 0 2 (1 : Int)) fun h14 => some h14
set_option maxRecDepth 100000 in
theorem zb_X0_build_129 {al : Bool} {n : Nat}  {h1 : gi_H}  {v0 : Nat}  {h : gi_H} (e : b_X0_build_129 n v0 h = some h1) : gx_Z mX0_build al al 0 0 129 [(0, .ref v0)] [] (gi_cv h) (.inl none) (gi_cv h1) := by
  refine gx_aload_n dX0_build_129 rfl 0 rfl ?_
  refine gy_iconst dX0_build_130 ?_
  refine gx_bE e (fun h14 hh14 e => ?_)
  refine gy_qZ hh14 dX0_build_131 gf_RX0_36_0_2 (by decide) gkN_0_2 rfl (Or.inl rfl) ?_
  cases e
  exact gx_vret dX0_build_134 rfl ⟨Nat.le_of_ble_eq_true rfl, Nat.le_of_ble_eq_true rfl⟩ (fun z => z)
set_option maxRecDepth 100000 in
def b_X0_build_123 (n : Nat) (r47 : Nat → Int → Int → gi_H → Option (gi_H)) (v0 : Nat) (v1 : Int) (v2 : Int)  (h : gi_H) : Option (gi_H) :=
  gx_nm (v2 + (1 : Int)) fun t24 => r47 v0 v1 t24 h
set_option maxRecDepth 100000 in
theorem zb_X0_build_123 {al : Bool} {n : Nat} {r47 : Nat → Int → Int → gi_H → Option (gi_H)} {h1 : gi_H} (hr47 : ∀ (x0 : Nat) (x1 : Int) (x2 : Int) (hh : gi_H), r47 x0 x1 x2 hh = some h1 → gx_Z mX0_build al al 0 0 47 [(0, .ref x0), (1, .int (gI x1)), (2, .int (gI x2))] [] (gi_cv hh) (.inl none) (gi_cv h1)) {v0 : Nat} {v1 : Int} {v2 : Int}  {h : gi_H} (e : b_X0_build_123 n r47 v0 v1 v2 h = some h1) : gx_Z mX0_build al al 0 0 123 [(0, .ref v0), (1, .int (gI v1)), (2, .int (gI v2))] [] (gi_cv h) (.inl none) (gi_cv h1) := by
  refine gx_nE e (fun t24 ht24 e => ?_)
  refine gy_iinc (v := t24) (ls2 := [(2, .int (gI t24)), (0, .ref v0), (1, .int (gI v1))]) dX0_build_123 2 rfl ht24 (Nat.le_of_ble_eq_true rfl) rfl ?_
  refine gx_goto (tgt := 47) dX0_build_126 (by decide) ?_
  refine gx_sub (ls2 := [(0, .ref v0), (1, .int (gI v1)), (2, .int (gI t24))]) [1, 2, 0] rfl ?_
  exact hr47 _ _ _ _ e
set_option maxRecDepth 100000 in
def b_X0_build_117 (n : Nat) (r47 : Nat → Int → Int → gi_H → Option (gi_H)) (r68 : Nat → Int → Int → Int → gi_H → Option (gi_H)) (v0 : Nat) (v1 : Int) (v2 : Int) (v3 : Int)  (h : gi_H) : Option (gi_H) :=
  gx_nm (v3 + (1 : Int)) fun t33 => r68 v0 v1 v2 t33 h
set_option maxRecDepth 100000 in
theorem zb_X0_build_117 {al : Bool} {n : Nat} {r47 : Nat → Int → Int → gi_H → Option (gi_H)} {r68 : Nat → Int → Int → Int → gi_H → Option (gi_H)} {h1 : gi_H} (hr47 : ∀ (x0 : Nat) (x1 : Int) (x2 : Int) (hh : gi_H), r47 x0 x1 x2 hh = some h1 → gx_Z mX0_build al al 0 0 47 [(0, .ref x0), (1, .int (gI x1)), (2, .int (gI x2))] [] (gi_cv hh) (.inl none) (gi_cv h1)) (hr68 : ∀ (x0 : Nat) (x1 : Int) (x2 : Int) (x3 : Int) (hh : gi_H), r68 x0 x1 x2 x3 hh = some h1 → gx_Z mX0_build al al 0 0 68 [(0, .ref x0), (1, .int (gI x1)), (2, .int (gI x2)), (3, .int (gI x3))] [] (gi_cv hh) (.inl none) (gi_cv h1)) {v0 : Nat} {v1 : Int} {v2 : Int} {v3 : Int}  {h : gi_H} (e : b_X0_build_117 n r47 r68 v0 v1 v2 v3 h = some h1) : gx_Z mX0_build al al 0 0 117 [(0, .ref v0), (1, .int (gI v1)), (2, .int (gI v2)), (3, .int (gI v3))] [] (gi_cv h) (.inl none) (gi_cv h1) := by
  refine gx_nE e (fun t33 ht33 e => ?_)
  refine gy_iinc (v := t33) (ls2 := [(3, .int (gI t33)), (0, .ref v0), (1, .int (gI v1)), (2, .int (gI v2))]) dX0_build_117 3 rfl ht33 (Nat.le_of_ble_eq_true rfl) rfl ?_
  refine gx_goto (tgt := 68) dX0_build_120 (by decide) ?_
  refine gx_sub (ls2 := [(0, .ref v0), (1, .int (gI v1)), (2, .int (gI v2)), (3, .int (gI t33))]) [1, 2, 3, 0] rfl ?_
  exact hr68 _ _ _ _ _ e
set_option maxRecDepth 100000 in
def b_X0_build_68 (n : Nat) (r47 : Nat → Int → Int → gi_H → Option (gi_H)) (r68 : Nat → Int → Int → Int → gi_H → Option (gi_H)) (v0 : Nat) (v1 : Int) (v2 : Int) (v3 : Int)  (h : gi_H) : Option (gi_H) :=
  Option.bind (gi_gI h v0 0 4) fun t20 => Option.bind (gi_rg v3) fun _ => Option.bind (gi_rg t20) fun _ => if t20 ≤ v3 then (b_X0_build_123 n r47 v0 v1 v2 h) else (if (80 : Int) ≤ v3 then (b_X0_build_123 n r47 v0 v1 v2 h) else (Option.bind (gi_gI h v0 0 3) fun t26 => Option.bind (gi_rg t26) fun _ => if t26 = 0 then (Option.bind (gi_gR h v0 0 8) fun t29 => Option.bind (gi_aI h 4 t29 v3) fun t30 => Option.bind (gi_rg t30) fun _ => if t30 = 0 then (b_X0_build_117 n r47 r68 v0 v1 v2 v3 h) else (Option.bind (gi_gR h v0 0 8) fun t34 => Option.bind (gi_s4 h t34 v3 (0 : Int)) fun h35 => Option.bind (gi_is h35 v0 0) fun _ => Option.bind (f_X0_complete n v0 v3 h35) fun q37 => Option.bind (gi_is q37 v0 0) fun _ => Option.bind (f_X0_leave n v0 v3 q37) fun q39 => b_X0_build_117 n r47 r68 v0 (1 : Int) v2 v3 q39)) else (b_X0_build_123 n r47 v0 v1 v2 h)))
set_option maxRecDepth 100000 in
theorem zb_X0_build_68 {al : Bool} {n : Nat} {r47 : Nat → Int → Int → gi_H → Option (gi_H)} {r68 : Nat → Int → Int → Int → gi_H → Option (gi_H)} {h1 : gi_H} (hr47 : ∀ (x0 : Nat) (x1 : Int) (x2 : Int) (hh : gi_H), r47 x0 x1 x2 hh = some h1 → gx_Z mX0_build al al 0 0 47 [(0, .ref x0), (1, .int (gI x1)), (2, .int (gI x2))] [] (gi_cv hh) (.inl none) (gi_cv h1)) (hr68 : ∀ (x0 : Nat) (x1 : Int) (x2 : Int) (x3 : Int) (hh : gi_H), r68 x0 x1 x2 x3 hh = some h1 → gx_Z mX0_build al al 0 0 68 [(0, .ref x0), (1, .int (gI x1)), (2, .int (gI x2)), (3, .int (gI x3))] [] (gi_cv hh) (.inl none) (gi_cv h1)) {v0 : Nat} {v1 : Int} {v2 : Int} {v3 : Int}  {h : gi_H} (e : b_X0_build_68 n r47 r68 v0 v1 v2 v3 h = some h1) : gx_Z mX0_build al al 0 0 68 [(0, .ref v0), (1, .int (gI v1)), (2, .int (gI v2)), (3, .int (gI v3))] [] (gi_cv h) (.inl none) (gi_cv h1) := by
  refine gx_iload_n dX0_build_68 rfl 3 rfl ?_
  refine gx_aload_n dX0_build_69 rfl 0 rfl ?_
  refine gx_bE e (fun t20 ht20 e => ?_)
  refine gy_fI ht20 dX0_build_70 gf_RX0_42_0_4 (by decide) gkN_0_4 gkR_0_4 ?_
  refine gx_bE e (fun _ g21 e => ?_)
  refine gx_bE e (fun _ g22 e => ?_)
  refine gx_iE e (fun c23 e => ?_) (fun c23 e => ?_)
  · refine gy_icmp_ge (tgt := 123) (gi_rgS g21) (gi_rgS g22) dX0_build_73 (by decide) (fun _ => ?_) (fun z => absurd c23 z)
    refine gx_sub (ls2 := [(0, .ref v0), (1, .int (gI v1)), (2, .int (gI v2))]) [0, 1, 2] rfl ?_
    exact zb_X0_build_123 hr47 e
  · refine gy_icmp_ge (tgt := 123) (gi_rgS g21) (gi_rgS g22) dX0_build_73 (by decide) (fun z => absurd z c23) (fun _ => ?_)
    refine gx_iload_n dX0_build_76 rfl 3 rfl ?_
    refine gy_bipush dX0_build_77 gcb_80 ?_
    refine gx_iE e (fun c25 e => ?_) (fun c25 e => ?_)
    · refine gy_icmp_ge (tgt := 123) (gi_rgS g21) (by decide) dX0_build_79 (by decide) (fun _ => ?_) (fun z => absurd c25 z)
      refine gx_sub (ls2 := [(0, .ref v0), (1, .int (gI v1)), (2, .int (gI v2))]) [0, 1, 2] rfl ?_
      exact zb_X0_build_123 hr47 e
    · refine gy_icmp_ge (tgt := 123) (gi_rgS g21) (by decide) dX0_build_79 (by decide) (fun z => absurd z c25) (fun _ => ?_)
      refine gx_aload_n dX0_build_82 rfl 0 rfl ?_
      refine gx_bE e (fun t26 ht26 e => ?_)
      refine gy_fI ht26 dX0_build_83 gf_RX0_39_0_3 (by decide) gkN_0_3 gkR_0_3 ?_
      refine gx_bE e (fun _ g27 e => ?_)
      refine gx_iE e (fun c28 e => ?_) (fun c28 e => ?_)
      · refine gy_if_ne (tgt := 123) (gi_rgS g27) dX0_build_86 (by decide) (fun z => absurd c28 z) (fun _ => ?_)
        refine gx_aload_n dX0_build_89 rfl 0 rfl ?_
        refine gx_bE e (fun t29 ht29 e => ?_)
        refine gy_fR ht29 dX0_build_90 gf_RX0_21_0_8 (by decide) gkN_0_8 gkR_0_8 ?_
        refine gx_iload_n dX0_build_93 rfl 3 rfl ?_
        refine gx_bE e (fun t30 ht30 e => ?_)
        refine gy_l4 ht30 dX0_build_94 ?_
        refine gx_bE e (fun _ g31 e => ?_)
        refine gx_iE e (fun c32 e => ?_) (fun c32 e => ?_)
        · refine gy_if_eq (tgt := 117) (gi_rgS g31) dX0_build_95 (by decide) (fun _ => ?_) (fun z => absurd c32 z)
          exact zb_X0_build_117 hr47 hr68 e
        · refine gy_if_eq (tgt := 117) (gi_rgS g31) dX0_build_95 (by decide) (fun z => absurd z c32) (fun _ => ?_)
          refine gx_aload_n dX0_build_98 rfl 0 rfl ?_
          refine gx_bE e (fun t34 ht34 e => ?_)
          refine gy_fR ht34 dX0_build_99 gf_RX0_21_0_8 (by decide) gkN_0_8 gkR_0_8 ?_
          refine gx_iload_n dX0_build_102 rfl 3 rfl ?_
          refine gy_iconst dX0_build_103 ?_
          refine gx_bE e (fun h35 hh35 e => ?_)
          refine gy_t4 hh35 dX0_build_104 ?_
          refine gx_aload_n dX0_build_105 rfl 0 rfl ?_
          refine gx_iload_n dX0_build_106 rfl 3 rfl ?_
          refine gx_bE e (fun _ hu36 e => ?_)
          refine gx_bE e (fun q37 hq37 e => ?_)
          refine gx_callV (n := 1) (st := []) (As := [.int (gI v3)]) (b := v0) dX0_build_107 (z_X0_complete hq37) rfl ⟨rfl, gw_cw_X0_complete, gw_7, gp_X0_complete, ⟨Nat.le_of_ble_eq_true rfl, Nat.le_of_ble_eq_true rfl⟩⟩ (gi_isS hu36) (by decide) gw_533 gw_535 gs_21 rfl ⟨Nat.le_of_ble_eq_true rfl, Nat.le_of_ble_eq_true rfl⟩ (Nat.le_of_ble_eq_true rfl) (gy_k0 (kc2 := 0) (ks2 := 0) ⟨rfl, rfl⟩ ?_) gy_kn
          refine gx_aload_n dX0_build_110 rfl 0 rfl ?_
          refine gx_iload_n dX0_build_111 rfl 3 rfl ?_
          refine gx_bE e (fun _ hu38 e => ?_)
          refine gx_bE e (fun q39 hq39 e => ?_)
          refine gx_callV (n := 1) (st := []) (As := [.int (gI v3)]) (b := v0) dX0_build_112 (z_X0_leave hq39) rfl ⟨rfl, gw_cw_X0_leave, gw_7, gp_X0_leave, ⟨Nat.le_of_ble_eq_true rfl, Nat.le_of_ble_eq_true rfl⟩⟩ (gi_isS hu38) (by decide) gw_565 gw_567 gs_24 rfl ⟨Nat.le_of_ble_eq_true rfl, Nat.le_of_ble_eq_true rfl⟩ (Nat.le_of_ble_eq_true rfl) (gy_k0 (kc2 := 0) (ks2 := 0) ⟨rfl, rfl⟩ ?_) gy_kn
          refine gy_iconst dX0_build_115 ?_
          refine gx_istore_n (ls2 := [(1, .int (gI (1 : Int))), (0, .ref v0), (2, .int (gI v2)), (3, .int (gI v3))]) dX0_build_116 rfl (Nat.le_of_ble_eq_true rfl) rfl ?_
          refine gx_sub (ls2 := [(0, .ref v0), (1, .int (gI (1 : Int))), (2, .int (gI v2)), (3, .int (gI v3))]) [1, 0, 2, 3] rfl ?_
          exact zb_X0_build_117 hr47 hr68 e
      · refine gy_if_ne (tgt := 123) (gi_rgS g27) dX0_build_86 (by decide) (fun _ => ?_) (fun z => absurd z c28)
        refine gx_sub (ls2 := [(0, .ref v0), (1, .int (gI v1)), (2, .int (gI v2))]) [0, 1, 2] rfl ?_
        exact zb_X0_build_123 hr47 e
def l_X0_build_68 (n : Nat) (r47 : Nat → Int → Int → gi_H → Option (gi_H)) : Nat → Nat → Int → Int → Int → gi_H → Option (gi_H)
  | 0, _, _, _, _, _ => none
  | k + 1, v0, v1, v2, v3, h => b_X0_build_68 n r47 (l_X0_build_68 n r47 k) v0 v1 v2 v3 h
theorem zl_X0_build_68 {al : Bool} {n : Nat} {r47 : Nat → Int → Int → gi_H → Option (gi_H)} {h1 : gi_H} (hr47 : ∀ (x0 : Nat) (x1 : Int) (x2 : Int) (hh : gi_H), r47 x0 x1 x2 hh = some h1 → gx_Z mX0_build al al 0 0 47 [(0, .ref x0), (1, .int (gI x1)), (2, .int (gI x2))] [] (gi_cv hh) (.inl none) (gi_cv h1)) : ∀ (k : Nat) (v0 : Nat) (v1 : Int) (v2 : Int) (v3 : Int) (h : gi_H), l_X0_build_68 n r47 k v0 v1 v2 v3 h = some h1 → gx_Z mX0_build al al 0 0 68 [(0, .ref v0), (1, .int (gI v1)), (2, .int (gI v2)), (3, .int (gI v3))] [] (gi_cv h) (.inl none) (gi_cv h1)
  | 0, _, _, _, _, _, e => gx_0E e
  | k + 1, _, _, _, _, _, e => zb_X0_build_68 (n := n) hr47 (zl_X0_build_68 hr47 k) e
set_option maxRecDepth 100000 in
def b_X0_build_47 (n : Nat) (r47 : Nat → Int → Int → gi_H → Option (gi_H)) (v0 : Nat) (v1 : Int) (v2 : Int)  (h : gi_H) : Option (gi_H) :=
  Option.bind (gi_rg v2) fun _ => if (1000000 : Int) ≤ v2 then (b_X0_build_129 n  v0 h) else (Option.bind (gi_rg v1) fun _ => if v1 = 0 then (b_X0_build_129 n  v0 h) else (Option.bind (gi_gI h v0 0 3) fun t17 => Option.bind (gi_rg t17) fun _ => if t17 = 0 then (l_X0_build_68 n r47 n v0 (0 : Int) v2 (0 : Int) h) else (b_X0_build_129 n  v0 h)))
set_option maxRecDepth 100000 in
theorem zb_X0_build_47 {al : Bool} {n : Nat} {r47 : Nat → Int → Int → gi_H → Option (gi_H)} {h1 : gi_H} (hr47 : ∀ (x0 : Nat) (x1 : Int) (x2 : Int) (hh : gi_H), r47 x0 x1 x2 hh = some h1 → gx_Z mX0_build al al 0 0 47 [(0, .ref x0), (1, .int (gI x1)), (2, .int (gI x2))] [] (gi_cv hh) (.inl none) (gi_cv h1)) {v0 : Nat} {v1 : Int} {v2 : Int}  {h : gi_H} (e : b_X0_build_47 n r47 v0 v1 v2 h = some h1) : gx_Z mX0_build al al 0 0 47 [(0, .ref v0), (1, .int (gI v1)), (2, .int (gI v2))] [] (gi_cv h) (.inl none) (gi_cv h1) := by
  refine gx_iload_n dX0_build_47 rfl 2 rfl ?_
  refine gy_ldc (n := 1000000) dX0_build_48 gw_532 (by decide +kernel) ?_
  refine gx_bE e (fun _ g12 e => ?_)
  refine gx_iE e (fun c13 e => ?_) (fun c13 e => ?_)
  · refine gy_icmp_ge (tgt := 129) (gi_rgS g12) (by decide) dX0_build_50 (by decide) (fun _ => ?_) (fun z => absurd c13 z)
    refine gx_sub (ls2 := [(0, .ref v0)]) [0] rfl ?_
    exact zb_X0_build_129  e
  · refine gy_icmp_ge (tgt := 129) (gi_rgS g12) (by decide) dX0_build_50 (by decide) (fun z => absurd z c13) (fun _ => ?_)
    refine gx_iload_n dX0_build_53 rfl 1 rfl ?_
    refine gx_bE e (fun _ g15 e => ?_)
    refine gx_iE e (fun c16 e => ?_) (fun c16 e => ?_)
    · refine gy_if_eq (tgt := 129) (gi_rgS g15) dX0_build_54 (by decide) (fun _ => ?_) (fun z => absurd c16 z)
      refine gx_sub (ls2 := [(0, .ref v0)]) [0] rfl ?_
      exact zb_X0_build_129  e
    · refine gy_if_eq (tgt := 129) (gi_rgS g15) dX0_build_54 (by decide) (fun z => absurd z c16) (fun _ => ?_)
      refine gx_aload_n dX0_build_57 rfl 0 rfl ?_
      refine gx_bE e (fun t17 ht17 e => ?_)
      refine gy_fI ht17 dX0_build_58 gf_RX0_39_0_3 (by decide) gkN_0_3 gkR_0_3 ?_
      refine gx_bE e (fun _ g18 e => ?_)
      refine gx_iE e (fun c19 e => ?_) (fun c19 e => ?_)
      · refine gy_if_ne (tgt := 129) (gi_rgS g18) dX0_build_61 (by decide) (fun z => absurd c19 z) (fun _ => ?_)
        refine gy_iconst dX0_build_64 ?_
        refine gx_istore_n (ls2 := [(1, .int (gI (0 : Int))), (0, .ref v0), (2, .int (gI v2))]) dX0_build_65 rfl (Nat.le_of_ble_eq_true rfl) rfl ?_
        refine gy_iconst dX0_build_66 ?_
        refine gx_istore_n (ls2 := [(3, .int (gI (0 : Int))), (1, .int (gI (0 : Int))), (0, .ref v0), (2, .int (gI v2))]) dX0_build_67 rfl (Nat.le_of_ble_eq_true rfl) rfl ?_
        refine gx_sub (ls2 := [(0, .ref v0), (1, .int (gI (0 : Int))), (2, .int (gI v2)), (3, .int (gI (0 : Int)))]) [2, 1, 3, 0] rfl ?_
        exact zl_X0_build_68 hr47 n _ _ _ _ _ e
      · refine gy_if_ne (tgt := 129) (gi_rgS g18) dX0_build_61 (by decide) (fun _ => ?_) (fun z => absurd z c19)
        refine gx_sub (ls2 := [(0, .ref v0)]) [0] rfl ?_
        exact zb_X0_build_129  e
def l_X0_build_47 (n : Nat)  : Nat → Nat → Int → Int → gi_H → Option (gi_H)
  | 0, _, _, _, _ => none
  | k + 1, v0, v1, v2, h => b_X0_build_47 n  (l_X0_build_47 n  k) v0 v1 v2 h
theorem zl_X0_build_47 {al : Bool} {n : Nat}  {h1 : gi_H}  : ∀ (k : Nat) (v0 : Nat) (v1 : Int) (v2 : Int) (h : gi_H), l_X0_build_47 n  k v0 v1 v2 h = some h1 → gx_Z mX0_build al al 0 0 47 [(0, .ref v0), (1, .int (gI v1)), (2, .int (gI v2))] [] (gi_cv h) (.inl none) (gi_cv h1)
  | 0, _, _, _, _, e => gx_0E e
  | k + 1, _, _, _, _, e => zb_X0_build_47 (n := n)  (zl_X0_build_47  k) e
set_option maxRecDepth 100000 in
def f_X0_build (n : Nat) (v0 : Nat) (h : gi_H) : Option (gi_H) :=
  Option.bind (gi_gI h v0 0 2) fun t1 => Option.bind (gi_rg t1) fun _ => if t1 = 0 then (Option.bind (gi_pI h v0 0 4 (0 : Int)) fun h4 => Option.bind (gi_pZ h4 v0 0 3 (0 : Int)) fun h5 => Option.bind (gi_gR h5 v0 0 9) fun t6 => Option.bind (f_J7_fill_53178 n t6 (0 : Int) h5) fun q7 => Option.bind (gi_gR q7 v0 0 9) fun t8 => Option.bind (gi_s1 q7 t8 (144 : Int) (768 : Int)) fun h9 => Option.bind (gi_is h9 v0 0) fun _ => Option.bind (f_X0_addState n v0 (-1 : Int) h9) fun q11 => l_X0_build_47 n  n v0 (1 : Int) (0 : Int) q11.2) else (some h)
set_option maxRecDepth 100000 in
theorem z_X0_build {al : Bool} {n : Nat} {v0 : Nat} {h : gi_H} {h1 : gi_H} (e : f_X0_build n v0 h = some h1) : gx_Cw mX0_build al [.ref v0] (gi_cv h) (.inl none) (gi_cv h1) := by
  refine gx_enter (by decide +kernel) rfl (Nat.le_of_ble_eq_true rfl) ?_
  show gx_Z mX0_build al al 0 0 0 [(0, .ref v0)] [] (gi_cv h) (.inl none) (gi_cv h1)
  refine gx_aload_n dX0_build_0 rfl 0 rfl ?_
  refine gx_bE e (fun t1 ht1 e => ?_)
  refine gy_fI ht1 dX0_build_1 gf_RX0_36_0_2 (by decide) gkN_0_2 gkR_0_2 ?_
  refine gx_bE e (fun _ g2 e => ?_)
  refine gx_iE e (fun c3 e => ?_) (fun c3 e => ?_)
  · refine gy_if_eq (tgt := 8) (gi_rgS g2) dX0_build_4 (by decide) (fun _ => ?_) (fun z => absurd c3 z)
    refine gx_aload_n dX0_build_8 rfl 0 rfl ?_
    refine gy_iconst dX0_build_9 ?_
    refine gx_bE e (fun h4 hh4 e => ?_)
    refine gy_qI hh4 dX0_build_10 gf_RX0_42_0_4 (by decide) gkN_0_4 rfl (Or.inl rfl) ?_
    refine gx_aload_n dX0_build_13 rfl 0 rfl ?_
    refine gy_iconst dX0_build_14 ?_
    refine gx_bE e (fun h5 hh5 e => ?_)
    refine gy_qZ hh5 dX0_build_15 gf_RX0_39_0_3 (by decide) gkN_0_3 rfl (Or.inl rfl) ?_
    refine gx_aload_n dX0_build_18 rfl 0 rfl ?_
    refine gx_bE e (fun t6 ht6 e => ?_)
    refine gy_fR ht6 dX0_build_19 gf_RX0_25_0_9 (by decide) gkN_0_9 gkR_0_9 ?_
    refine gy_iconst dX0_build_22 ?_
    refine gx_bE e (fun q7 hq7 e => ?_)
    refine gx_callS (n := 2) (st := []) (As := [.ref t6, .int (gI (0 : Int))]) dX0_build_23 (z_J7_fill_53178 hq7) rfl ⟨rfl, gw_cw_J7_fill_53178, gw_5, gp_J7_fill_53178, ⟨Nat.le_of_ble_eq_true rfl, Nat.le_of_ble_eq_true rfl⟩⟩ gw_527 gw_99 ⟨Nat.le_of_ble_eq_true rfl, Nat.le_of_ble_eq_true rfl⟩ (Nat.le_of_ble_eq_true rfl) (gy_k0 (kc2 := 0) (ks2 := 0) ⟨rfl, rfl⟩ ?_) gy_kn
    refine gx_aload_n dX0_build_26 rfl 0 rfl ?_
    refine gx_bE e (fun t8 ht8 e => ?_)
    refine gy_fR ht8 dX0_build_27 gf_RX0_25_0_9 (by decide) gkN_0_9 gkR_0_9 ?_
    refine gy_sipush dX0_build_30 gcs_144 ?_
    refine gy_sipush dX0_build_33 gcs_768 ?_
    refine gx_bE e (fun h9 hh9 e => ?_)
    refine gy_t1 hh9 dX0_build_36 ?_
    refine gx_aload_n dX0_build_37 rfl 0 rfl ?_
    refine gy_iconst dX0_build_38 ?_
    refine gx_bE e (fun _ hu10 e => ?_)
    refine gx_bE e (fun q11 hq11 e => ?_)
    refine gx_callV (n := 1) (st := []) (As := [.int (gI (-1 : Int))]) (b := v0) dX0_build_39 (z_X0_addState hq11) rfl ⟨rfl, gw_cw_X0_addState, gw_7, gp_X0_addState, ⟨Nat.le_of_ble_eq_true rfl, Nat.le_of_ble_eq_true rfl⟩⟩ (gi_isS hu10) (by decide) gw_528 gw_530 gs_20 rfl ⟨Nat.le_of_ble_eq_true rfl, Nat.le_of_ble_eq_true rfl⟩ (Nat.le_of_ble_eq_true rfl) (gy_k1 (x := .int (gI q11.1)) (kc2 := 0) (ks2 := 0) ⟨rfl, rfl⟩ ?_) gy_kn
    refine gx_pop dX0_build_42 rfl ?_
    refine gy_iconst dX0_build_43 ?_
    refine gx_istore_n (ls2 := [(1, .int (gI (1 : Int))), (0, .ref v0)]) dX0_build_44 rfl (Nat.le_of_ble_eq_true rfl) rfl ?_
    refine gy_iconst dX0_build_45 ?_
    refine gx_istore_n (ls2 := [(2, .int (gI (0 : Int))), (1, .int (gI (1 : Int))), (0, .ref v0)]) dX0_build_46 rfl (Nat.le_of_ble_eq_true rfl) rfl ?_
    refine gx_sub (ls2 := [(0, .ref v0), (1, .int (gI (1 : Int))), (2, .int (gI (0 : Int)))]) [2, 1, 0] rfl ?_
    exact zl_X0_build_47  n _ _ _ _ e
  · refine gy_if_eq (tgt := 8) (gi_rgS g2) dX0_build_4 (by decide) (fun z => absurd z c3) (fun _ => ?_)
    cases e
    exact gx_vret dX0_build_7 rfl ⟨Nat.le_of_ble_eq_true rfl, Nat.le_of_ble_eq_true rfl⟩ (fun z => z)
/-! X11_table  -/
set_option maxRecDepth 100000 in
def f_X11_table (n : Nat) (v0 : Nat) (v1 : Int) (h : gi_H) : Option (Nat × gi_H) :=
  Option.bind (gi_gR h v0 9 8) fun t1 => Option.bind (gi_is h t1 2) fun _ => Option.bind (f_X3_learn n t1 h) fun q3 => Option.bind (gi_rg v1) fun _ => if v1 = 0 then (Option.bind (gi_gR q3 v0 9 11) fun t6 => some (t6, q3)) else (if v1 = (3 : Int) then (Option.bind (gi_gR q3 v0 9 10) fun t8 => Option.bind (gi_is q3 t8 0) fun _ => Option.bind (f_X0_build n t8 q3) fun q10 => Option.bind (gi_gR q10 v0 9 14) fun t11 => some (t11, q10)) else (Option.bind (gi_gR q3 v0 9 9) fun t12 => Option.bind (gi_is q3 t12 0) fun _ => Option.bind (f_X0_build n t12 q3) fun q14 => if v1 = (1 : Int) then (Option.bind (gi_gR q14 v0 9 12) fun t16 => some (t16, q14)) else (Option.bind (gi_gR q14 v0 9 13) fun t17 => some (t17, q14))))
set_option maxRecDepth 100000 in
theorem z_X11_table {al : Bool} {n : Nat} {v0 : Nat} {v1 : Int} {h : gi_H} {res : Nat} {h1 : gi_H} (e : f_X11_table n v0 v1 h = some (res, h1)) : gx_Cw mX11_table al [.ref v0, .int (gI v1)] (gi_cv h) (.inl (some (.ref res))) (gi_cv h1) := by
  refine gx_enter (by decide +kernel) rfl (Nat.le_of_ble_eq_true rfl) ?_
  show gx_Z mX11_table al al 0 0 0 [(0, .ref v0), (1, .int (gI v1))] [] (gi_cv h) (.inl (some (.ref res))) (gi_cv h1)
  refine gx_aload_n dX11_table_0 rfl 0 rfl ?_
  refine gx_bE e (fun t1 ht1 e => ?_)
  refine gy_fR ht1 dX11_table_1 gf_RX11_52_9_8 (by decide) gkN_9_8 gkR_9_8 ?_
  refine gx_bE e (fun _ hu2 e => ?_)
  refine gx_bE e (fun q3 hq3 e => ?_)
  refine gx_callV (n := 0) (st := []) (As := []) (b := t1) dX11_table_4 (z_X3_learn hq3) rfl ⟨rfl, gw_cw_X3_learn, gw_6, gp_X3_learn, ⟨Nat.le_of_ble_eq_true rfl, Nat.le_of_ble_eq_true rfl⟩⟩ (gi_isS hu2) (by decide) gw_404 gw_405 gw_406 rfl ⟨Nat.le_of_ble_eq_true rfl, Nat.le_of_ble_eq_true rfl⟩ (Nat.le_of_ble_eq_true rfl) (gy_k0 (kc2 := 0) (ks2 := 0) ⟨rfl, rfl⟩ ?_) gy_kn
  refine gx_iload_n dX11_table_7 rfl 1 rfl ?_
  refine gx_bE e (fun _ g4 e => ?_)
  refine gx_iE e (fun c5 e => ?_) (fun c5 e => ?_)
  · refine gy_if_ne (tgt := 16) (gi_rgS g4) dX11_table_8 (by decide) (fun z => absurd c5 z) (fun _ => ?_)
    refine gx_aload_n dX11_table_11 rfl 0 rfl ?_
    refine gx_bE e (fun t6 ht6 e => ?_)
    refine gy_fR ht6 dX11_table_12 gf_RX11_68_9_11 (by decide) gkN_9_11 gkR_9_11 ?_
    cases e
    exact gx_aret dX11_table_15 rfl ⟨Nat.le_of_ble_eq_true rfl, Nat.le_of_ble_eq_true rfl⟩ (fun z => z)
  · refine gy_if_ne (tgt := 16) (gi_rgS g4) dX11_table_8 (by decide) (fun _ => ?_) (fun z => absurd z c5)
    refine gx_iload_n dX11_table_16 rfl 1 rfl ?_
    refine gy_iconst dX11_table_17 ?_
    refine gx_iE e (fun c7 e => ?_) (fun c7 e => ?_)
    · refine gy_icmp_ne (tgt := 33) (gi_rgS g4) (by decide) dX11_table_18 (by decide) (fun z => absurd c7 z) (fun _ => ?_)
      refine gx_aload_n dX11_table_21 rfl 0 rfl ?_
      refine gx_bE e (fun t8 ht8 e => ?_)
      refine gy_fR ht8 dX11_table_22 gf_RX11_60_9_10 (by decide) gkN_9_10 gkR_9_10 ?_
      refine gx_bE e (fun _ hu9 e => ?_)
      refine gx_bE e (fun q10 hq10 e => ?_)
      refine gx_callV (n := 0) (st := []) (As := []) (b := t8) dX11_table_25 (z_X0_build hq10) rfl ⟨rfl, gw_cw_X0_build, gw_7, gp_X0_build, ⟨Nat.le_of_ble_eq_true rfl, Nat.le_of_ble_eq_true rfl⟩⟩ (gi_isS hu9) (by decide) gw_523 gw_524 gw_525 rfl ⟨Nat.le_of_ble_eq_true rfl, Nat.le_of_ble_eq_true rfl⟩ (Nat.le_of_ble_eq_true rfl) (gy_k0 (kc2 := 0) (ks2 := 0) ⟨rfl, rfl⟩ ?_) gy_kn
      refine gx_aload_n dX11_table_28 rfl 0 rfl ?_
      refine gx_bE e (fun t11 ht11 e => ?_)
      refine gy_fR ht11 dX11_table_29 gf_RX11_83_9_14 (by decide) gkN_9_14 gkR_9_14 ?_
      cases e
      exact gx_aret dX11_table_32 rfl ⟨Nat.le_of_ble_eq_true rfl, Nat.le_of_ble_eq_true rfl⟩ (fun z => z)
    · refine gy_icmp_ne (tgt := 33) (gi_rgS g4) (by decide) dX11_table_18 (by decide) (fun _ => ?_) (fun z => absurd z c7)
      refine gx_aload_n dX11_table_33 rfl 0 rfl ?_
      refine gx_bE e (fun t12 ht12 e => ?_)
      refine gy_fR ht12 dX11_table_34 gf_RX11_56_9_9 (by decide) gkN_9_9 gkR_9_9 ?_
      refine gx_bE e (fun _ hu13 e => ?_)
      refine gx_bE e (fun q14 hq14 e => ?_)
      refine gx_callV (n := 0) (st := []) (As := []) (b := t12) dX11_table_37 (z_X0_build hq14) rfl ⟨rfl, gw_cw_X0_build, gw_7, gp_X0_build, ⟨Nat.le_of_ble_eq_true rfl, Nat.le_of_ble_eq_true rfl⟩⟩ (gi_isS hu13) (by decide) gw_523 gw_524 gw_525 rfl ⟨Nat.le_of_ble_eq_true rfl, Nat.le_of_ble_eq_true rfl⟩ (Nat.le_of_ble_eq_true rfl) (gy_k0 (kc2 := 0) (ks2 := 0) ⟨rfl, rfl⟩ ?_) gy_kn
      refine gx_iload_n dX11_table_40 rfl 1 rfl ?_
      refine gy_iconst dX11_table_41 ?_
      refine gx_iE e (fun c15 e => ?_) (fun c15 e => ?_)
      · refine gy_icmp_ne (tgt := 52) (gi_rgS g4) (by decide) dX11_table_42 (by decide) (fun z => absurd c15 z) (fun _ => ?_)
        refine gx_aload_n dX11_table_45 rfl 0 rfl ?_
        refine gx_bE e (fun t16 ht16 e => ?_)
        refine gy_fR ht16 dX11_table_46 gf_RX11_77_9_12 (by decide) gkN_9_12 gkR_9_12 ?_
        refine gx_goto (tgt := 56) dX11_table_49 (by decide) ?_
        cases e
        exact gx_aret dX11_table_56 rfl ⟨Nat.le_of_ble_eq_true rfl, Nat.le_of_ble_eq_true rfl⟩ (fun z => z)
      · refine gy_icmp_ne (tgt := 52) (gi_rgS g4) (by decide) dX11_table_42 (by decide) (fun _ => ?_) (fun z => absurd z c15)
        refine gx_aload_n dX11_table_52 rfl 0 rfl ?_
        refine gx_bE e (fun t17 ht17 e => ?_)
        refine gy_fR ht17 dX11_table_53 gf_RX11_80_9_13 (by decide) gkN_9_13 gkR_9_13 ?_
        cases e
        exact gx_aret dX11_table_56 rfl ⟨Nat.le_of_ble_eq_true rfl, Nat.le_of_ble_eq_true rfl⟩ (fun z => z)
/-! X3_prediction  -/
set_option maxRecDepth 100000 in
def b_X3_prediction_19    (h : gi_H) : Option (Int) :=
  some (0 : Int)
set_option maxRecDepth 100000 in
theorem zb_X3_prediction_19 {al : Bool}  {res : Int}    {h : gi_H} (e : b_X3_prediction_19  h = some res) : gx_Z mX3_prediction al al 0 0 19 [] [] (gi_cv h) (.inl (some (.int (gI res)))) (gi_cv h) := by
  refine gy_iconst dX3_prediction_19 ?_
  cases e
  exact gx_iret dX3_prediction_20 rfl ⟨Nat.le_of_ble_eq_true rfl, Nat.le_of_ble_eq_true rfl⟩ (fun z => z)
set_option maxRecDepth 100000 in
def f_X3_prediction (v0 : Nat) (v1 : Int) (h : gi_H) : Option (Int) :=
  Option.bind (gi_rg v1) fun _ => if v1 < 0 then (b_X3_prediction_19   h) else (if (24 : Int) ≤ v1 then (b_X3_prediction_19   h) else (Option.bind (gi_gR h v0 2 7) fun t4 => Option.bind (gi_aI h 1 t4 v1) fun t5 => some t5))
set_option maxRecDepth 100000 in
theorem z_X3_prediction {al : Bool} {v0 : Nat} {v1 : Int} {h : gi_H} {res : Int} (e : f_X3_prediction v0 v1 h = some res) : gx_Cw mX3_prediction al [.ref v0, .int (gI v1)] (gi_cv h) (.inl (some (.int (gI res)))) (gi_cv h) := by
  refine gx_enter (by decide +kernel) rfl (Nat.le_of_ble_eq_true rfl) ?_
  show gx_Z mX3_prediction al al 0 0 0 [(0, .ref v0), (1, .int (gI v1))] [] (gi_cv h) (.inl (some (.int (gI res)))) (gi_cv h)
  refine gx_iload_n dX3_prediction_0 rfl 1 rfl ?_
  refine gx_bE e (fun _ g1 e => ?_)
  refine gx_iE e (fun c2 e => ?_) (fun c2 e => ?_)
  · refine gy_if_lt (tgt := 19) (gi_rgS g1) dX3_prediction_1 (by decide) (fun _ => ?_) (fun z => absurd c2 z)
    refine gx_sub (ls2 := []) [] rfl ?_
    exact zb_X3_prediction_19  e
  · refine gy_if_lt (tgt := 19) (gi_rgS g1) dX3_prediction_1 (by decide) (fun z => absurd z c2) (fun _ => ?_)
    refine gx_iload_n dX3_prediction_4 rfl 1 rfl ?_
    refine gy_bipush dX3_prediction_5 gcb_24 ?_
    refine gx_iE e (fun c3 e => ?_) (fun c3 e => ?_)
    · refine gy_icmp_ge (tgt := 19) (gi_rgS g1) (by decide) dX3_prediction_7 (by decide) (fun _ => ?_) (fun z => absurd c3 z)
      refine gx_sub (ls2 := []) [] rfl ?_
      exact zb_X3_prediction_19  e
    · refine gy_icmp_ge (tgt := 19) (gi_rgS g1) (by decide) dX3_prediction_7 (by decide) (fun z => absurd z c3) (fun _ => ?_)
      refine gx_aload_n dX3_prediction_10 rfl 0 rfl ?_
      refine gx_bE e (fun t4 ht4 e => ?_)
      refine gy_fR ht4 dX3_prediction_11 gf_RX3_18_2_7 (by decide) gkN_2_7 gkR_2_7 ?_
      refine gx_iload_n dX3_prediction_14 rfl 1 rfl ?_
      refine gx_bE e (fun t5 ht5 e => ?_)
      refine gy_l1 ht5 dX3_prediction_15 ?_
      refine gx_goto (tgt := 20) dX3_prediction_16 (by decide) ?_
      cases e
      exact gx_iret dX3_prediction_20 rfl ⟨Nat.le_of_ble_eq_true rfl, Nat.le_of_ble_eq_true rfl⟩ (fun z => z)
/-! X5_isIn  -/
set_option maxRecDepth 100000 in
def b_X5_isIn_34    (h : gi_H) : Option (Int) :=
  some (0 : Int)
set_option maxRecDepth 100000 in
theorem zb_X5_isIn_34 {al : Bool}  {res : Int}    {h : gi_H} (e : b_X5_isIn_34  h = some res) : gx_Z mX5_isIn al al 0 0 34 [] [] (gi_cv h) (.inl (some (.int (gI res)))) (gi_cv h) := by
  refine gy_iconst dX5_isIn_34 ?_
  cases e
  exact gx_zret (by decide +kernel) dX5_isIn_35 rfl ⟨Nat.le_of_ble_eq_true rfl, Nat.le_of_ble_eq_true rfl⟩ (fun z => z)
set_option maxRecDepth 100000 in
def f_X5_isIn (v0 : Nat) (v1 : Int) (v2 : Int) (v3 : Int) (h : gi_H) : Option (Int) :=
  Option.bind (gi_gR h v0 4 1) fun t1 => Option.bind (gi_is h t1 2) fun _ => Option.bind (f_X3_grammar t1 h) fun q3 => Option.bind (gi_is h q3 3) fun _ => Option.bind (f_X4_owner q3 v1 h) fun q5 => Option.bind (gi_rg q5) fun _ => Option.bind (gi_rg v2) fun _ => if q5 = v2 then (Option.bind (gi_gR h v0 4 1) fun t9 => Option.bind (gi_is h t9 2) fun _ => Option.bind (f_X3_prediction t9 v1 h) fun q11 => Option.bind (f_X11_has q11 v3 h) fun q12 => Option.bind (gi_rg q12) fun _ => if q12 = 0 then (b_X5_isIn_34   h) else (some (1 : Int))) else (b_X5_isIn_34   h)
set_option maxRecDepth 100000 in
theorem z_X5_isIn {al : Bool} {v0 : Nat} {v1 : Int} {v2 : Int} {v3 : Int} {h : gi_H} {res : Int} (e : f_X5_isIn v0 v1 v2 v3 h = some res) : gx_Cw mX5_isIn al [.ref v0, .int (gI v1), .int (gI v2), .int (gI v3)] (gi_cv h) (.inl (some (.int (gI res)))) (gi_cv h) := by
  refine gx_enter (by decide +kernel) rfl (Nat.le_of_ble_eq_true rfl) ?_
  show gx_Z mX5_isIn al al 0 0 0 [(0, .ref v0), (1, .int (gI v1)), (2, .int (gI v2)), (3, .int (gI v3))] [] (gi_cv h) (.inl (some (.int (gI res)))) (gi_cv h)
  refine gx_aload_n dX5_isIn_0 rfl 0 rfl ?_
  refine gx_bE e (fun t1 ht1 e => ?_)
  refine gy_fR ht1 dX5_isIn_1 gf_RX5_18_4_1 (by decide) gkN_4_1 gkR_4_1 ?_
  refine gx_bE e (fun _ hu2 e => ?_)
  refine gx_bE e (fun q3 hq3 e => ?_)
  refine gx_callV (n := 0) (st := []) (As := []) (b := t1) dX5_isIn_4 (z_X3_grammar hq3) rfl ⟨rfl, gw_cw_X3_grammar, gw_6, gp_X3_grammar, ⟨Nat.le_of_ble_eq_true rfl, Nat.le_of_ble_eq_true rfl⟩⟩ (gi_isS hu2) (by decide) gw_604 gw_556 gw_557 rfl ⟨Nat.le_of_ble_eq_true rfl, Nat.le_of_ble_eq_true rfl⟩ (Nat.le_of_ble_eq_true rfl) (gy_k1 (x := .ref q3) (kc2 := 0) (ks2 := 0) ⟨rfl, rfl⟩ ?_) gy_kn
  refine gx_iload_n dX5_isIn_7 rfl 1 rfl ?_
  refine gx_bE e (fun _ hu4 e => ?_)
  refine gx_bE e (fun q5 hq5 e => ?_)
  refine gx_callV (n := 1) (st := []) (As := [.int (gI v1)]) (b := q3) dX5_isIn_8 (z_X4_owner hq5) rfl ⟨rfl, gw_cw_X4_owner, gw_3, gp_X4_owner, ⟨Nat.le_of_ble_eq_true rfl, Nat.le_of_ble_eq_true rfl⟩⟩ (gi_isS hu4) (by decide) gw_610 gw_416 gw_417 rfl ⟨Nat.le_of_ble_eq_true rfl, Nat.le_of_ble_eq_true rfl⟩ (Nat.le_of_ble_eq_true rfl) (gy_k1 (x := .int (gI q5)) (kc2 := 0) (ks2 := 0) ⟨rfl, rfl⟩ ?_) gy_kn
  refine gx_iload_n dX5_isIn_11 rfl 2 rfl ?_
  refine gx_bE e (fun _ g6 e => ?_)
  refine gx_bE e (fun _ g7 e => ?_)
  refine gx_iE e (fun c8 e => ?_) (fun c8 e => ?_)
  · refine gy_icmp_ne (tgt := 34) (gi_rgS g6) (gi_rgS g7) dX5_isIn_12 (by decide) (fun z => absurd c8 z) (fun _ => ?_)
    refine gx_aload_n dX5_isIn_15 rfl 0 rfl ?_
    refine gx_bE e (fun t9 ht9 e => ?_)
    refine gy_fR ht9 dX5_isIn_16 gf_RX5_18_4_1 (by decide) gkN_4_1 gkR_4_1 ?_
    refine gx_iload_n dX5_isIn_19 rfl 1 rfl ?_
    refine gx_bE e (fun _ hu10 e => ?_)
    refine gx_bE e (fun q11 hq11 e => ?_)
    refine gx_callV (n := 1) (st := []) (As := [.int (gI v1)]) (b := t9) dX5_isIn_20 (z_X3_prediction hq11) rfl ⟨rfl, gw_cw_X3_prediction, gw_6, gp_X3_prediction, ⟨Nat.le_of_ble_eq_true rfl, Nat.le_of_ble_eq_true rfl⟩⟩ (gi_isS hu10) (by decide) gw_611 gw_612 gw_613 rfl ⟨Nat.le_of_ble_eq_true rfl, Nat.le_of_ble_eq_true rfl⟩ (Nat.le_of_ble_eq_true rfl) (gy_k1 (x := .int (gI q11)) (kc2 := 0) (ks2 := 0) ⟨rfl, rfl⟩ ?_) gy_kn
    refine gx_iload_n dX5_isIn_23 rfl 3 rfl ?_
    refine gx_bE e (fun q12 hq12 e => ?_)
    refine gx_callSN (n := 2) (st := []) (As := [.int (gI q11), .int (gI v3)]) dX5_isIn_24 (z_X11_has hq12) rfl ⟨rfl, gw_cw_X11_has, gw_1, gp_X11_has, ⟨Nat.le_of_ble_eq_true rfl, Nat.le_of_ble_eq_true rfl⟩⟩ (host := "Grammarsmith") (by decide +kernel) gw_473 ⟨Nat.le_of_ble_eq_true rfl, Nat.le_of_ble_eq_true rfl⟩ (Nat.le_of_ble_eq_true rfl) (gy_k1 (x := .int (gI q12)) (kc2 := 0) (ks2 := 0) ⟨rfl, rfl⟩ ?_) gy_kn
    refine gx_bE e (fun _ g13 e => ?_)
    refine gx_iE e (fun c14 e => ?_) (fun c14 e => ?_)
    · refine gy_if_eq (tgt := 34) (gi_rgS g13) dX5_isIn_27 (by decide) (fun _ => ?_) (fun z => absurd c14 z)
      refine gx_sub (ls2 := []) [] rfl ?_
      exact zb_X5_isIn_34  e
    · refine gy_if_eq (tgt := 34) (gi_rgS g13) dX5_isIn_27 (by decide) (fun z => absurd z c14) (fun _ => ?_)
      refine gy_iconst dX5_isIn_30 ?_
      refine gx_goto (tgt := 35) dX5_isIn_31 (by decide) ?_
      cases e
      exact gx_zret (by decide +kernel) dX5_isIn_35 rfl ⟨Nat.le_of_ble_eq_true rfl, Nat.le_of_ble_eq_true rfl⟩ (fun z => z)
  · refine gy_icmp_ne (tgt := 34) (gi_rgS g6) (gi_rgS g7) dX5_isIn_12 (by decide) (fun _ => ?_) (fun z => absurd z c8)
    refine gx_sub (ls2 := []) [] rfl ?_
    exact zb_X5_isIn_34  e
/-! X5_countIn  -/
set_option maxRecDepth 100000 in
def b_X5_countIn_34 (n : Nat) (r5 : Nat → Int → Int → Int → Int → gi_H → Option (Int)) (v0 : Nat) (v1 : Int) (v2 : Int) (v3 : Int) (v4 : Int)  (h : gi_H) : Option (Int) :=
  gx_nm (v4 + (1 : Int)) fun t13 => r5 v0 v1 v2 v3 t13 h
set_option maxRecDepth 100000 in
theorem zb_X5_countIn_34 {al : Bool} {n : Nat} {r5 : Nat → Int → Int → Int → Int → gi_H → Option (Int)} {res : Int} (hr5 : ∀ (x0 : Nat) (x1 : Int) (x2 : Int) (x3 : Int) (x4 : Int) (hh : gi_H), r5 x0 x1 x2 x3 x4 hh = some res → gx_Z mX5_countIn al al 0 0 5 [(0, .ref x0), (1, .int (gI x1)), (2, .int (gI x2)), (3, .int (gI x3)), (4, .int (gI x4))] [] (gi_cv hh) (.inl (some (.int (gI res)))) (gi_cv hh)) {v0 : Nat} {v1 : Int} {v2 : Int} {v3 : Int} {v4 : Int}  {h : gi_H} (e : b_X5_countIn_34 n r5 v0 v1 v2 v3 v4 h = some res) : gx_Z mX5_countIn al al 0 0 34 [(0, .ref v0), (1, .int (gI v1)), (2, .int (gI v2)), (3, .int (gI v3)), (4, .int (gI v4))] [] (gi_cv h) (.inl (some (.int (gI res)))) (gi_cv h) := by
  refine gx_nE e (fun t13 ht13 e => ?_)
  refine gy_iinc (v := t13) (ls2 := [(4, .int (gI t13)), (0, .ref v0), (1, .int (gI v1)), (2, .int (gI v2)), (3, .int (gI v3))]) dX5_countIn_34 4 rfl ht13 (Nat.le_of_ble_eq_true rfl) rfl ?_
  refine gx_goto (tgt := 5) dX5_countIn_37 (by decide) ?_
  refine gx_sub (ls2 := [(0, .ref v0), (1, .int (gI v1)), (2, .int (gI v2)), (3, .int (gI v3)), (4, .int (gI t13))]) [1, 2, 3, 4, 0] rfl ?_
  exact hr5 _ _ _ _ _ _ e
set_option maxRecDepth 100000 in
def b_X5_countIn_5 (n : Nat) (r5 : Nat → Int → Int → Int → Int → gi_H → Option (Int)) (v0 : Nat) (v1 : Int) (v2 : Int) (v3 : Int) (v4 : Int)  (h : gi_H) : Option (Int) :=
  Option.bind (gi_gR h v0 4 1) fun t1 => Option.bind (gi_is h t1 2) fun _ => Option.bind (f_X3_grammar t1 h) fun q3 => Option.bind (gi_is h q3 3) fun _ => Option.bind (f_X4_count q3 h) fun q5 => Option.bind (gi_rg v4) fun _ => Option.bind (gi_rg q5) fun _ => if q5 ≤ v4 then (some v3) else (Option.bind (gi_is h v0 4) fun _ => Option.bind (f_X5_isIn v0 v4 v1 v2 h) fun q10 => Option.bind (gi_rg q10) fun _ => if q10 = 0 then (b_X5_countIn_34 n r5 v0 v1 v2 v3 v4 h) else (gx_nm (v3 + (1 : Int)) fun t14 => b_X5_countIn_34 n r5 v0 v1 v2 t14 v4 h))
set_option maxRecDepth 100000 in
theorem zb_X5_countIn_5 {al : Bool} {n : Nat} {r5 : Nat → Int → Int → Int → Int → gi_H → Option (Int)} {res : Int} (hr5 : ∀ (x0 : Nat) (x1 : Int) (x2 : Int) (x3 : Int) (x4 : Int) (hh : gi_H), r5 x0 x1 x2 x3 x4 hh = some res → gx_Z mX5_countIn al al 0 0 5 [(0, .ref x0), (1, .int (gI x1)), (2, .int (gI x2)), (3, .int (gI x3)), (4, .int (gI x4))] [] (gi_cv hh) (.inl (some (.int (gI res)))) (gi_cv hh)) {v0 : Nat} {v1 : Int} {v2 : Int} {v3 : Int} {v4 : Int}  {h : gi_H} (e : b_X5_countIn_5 n r5 v0 v1 v2 v3 v4 h = some res) : gx_Z mX5_countIn al al 0 0 5 [(0, .ref v0), (1, .int (gI v1)), (2, .int (gI v2)), (3, .int (gI v3)), (4, .int (gI v4))] [] (gi_cv h) (.inl (some (.int (gI res)))) (gi_cv h) := by
  refine gx_iload dX5_countIn_5 4 rfl ?_
  refine gx_aload_n dX5_countIn_7 rfl 0 rfl ?_
  refine gx_bE e (fun t1 ht1 e => ?_)
  refine gy_fR ht1 dX5_countIn_8 gf_RX5_18_4_1 (by decide) gkN_4_1 gkR_4_1 ?_
  refine gx_bE e (fun _ hu2 e => ?_)
  refine gx_bE e (fun q3 hq3 e => ?_)
  refine gx_callV (n := 0) (st := [.int (gI v4)]) (As := []) (b := t1) dX5_countIn_11 (z_X3_grammar hq3) rfl ⟨rfl, gw_cw_X3_grammar, gw_6, gp_X3_grammar, ⟨Nat.le_of_ble_eq_true rfl, Nat.le_of_ble_eq_true rfl⟩⟩ (gi_isS hu2) (by decide) gw_604 gw_556 gw_557 rfl ⟨Nat.le_of_ble_eq_true rfl, Nat.le_of_ble_eq_true rfl⟩ (Nat.le_of_ble_eq_true rfl) (gy_k1 (x := .ref q3) (kc2 := 0) (ks2 := 0) ⟨rfl, rfl⟩ ?_) gy_kn
  refine gx_bE e (fun _ hu4 e => ?_)
  refine gx_bE e (fun q5 hq5 e => ?_)
  refine gx_callV (n := 0) (st := [.int (gI v4)]) (As := []) (b := q3) dX5_countIn_14 (z_X4_count hq5) rfl ⟨rfl, gw_cw_X4_count, gw_3, gp_X4_count, ⟨Nat.le_of_ble_eq_true rfl, Nat.le_of_ble_eq_true rfl⟩⟩ (gi_isS hu4) (by decide) gw_605 gw_393 gw_394 rfl ⟨Nat.le_of_ble_eq_true rfl, Nat.le_of_ble_eq_true rfl⟩ (Nat.le_of_ble_eq_true rfl) (gy_k1 (x := .int (gI q5)) (kc2 := 0) (ks2 := 0) ⟨rfl, rfl⟩ ?_) gy_kn
  refine gx_bE e (fun _ g6 e => ?_)
  refine gx_bE e (fun _ g7 e => ?_)
  refine gx_iE e (fun c8 e => ?_) (fun c8 e => ?_)
  · refine gy_icmp_ge (tgt := 40) (gi_rgS g6) (gi_rgS g7) dX5_countIn_17 (by decide) (fun _ => ?_) (fun z => absurd c8 z)
    refine gx_iload_n dX5_countIn_40 rfl 3 rfl ?_
    cases e
    exact gx_iret dX5_countIn_41 rfl ⟨Nat.le_of_ble_eq_true rfl, Nat.le_of_ble_eq_true rfl⟩ (fun z => z)
  · refine gy_icmp_ge (tgt := 40) (gi_rgS g6) (gi_rgS g7) dX5_countIn_17 (by decide) (fun z => absurd z c8) (fun _ => ?_)
    refine gx_aload_n dX5_countIn_20 rfl 0 rfl ?_
    refine gx_iload dX5_countIn_21 4 rfl ?_
    refine gx_iload_n dX5_countIn_23 rfl 1 rfl ?_
    refine gx_iload_n dX5_countIn_24 rfl 2 rfl ?_
    refine gx_bE e (fun _ hu9 e => ?_)
    refine gx_bE e (fun q10 hq10 e => ?_)
    refine gx_callV (n := 3) (st := []) (As := [.int (gI v4), .int (gI v1), .int (gI v2)]) (b := v0) dX5_countIn_25 (z_X5_isIn hq10) rfl ⟨rfl, gw_cw_X5_isIn, gw_9, gp_X5_isIn, ⟨Nat.le_of_ble_eq_true rfl, Nat.le_of_ble_eq_true rfl⟩⟩ (gi_isS hu9) (by decide) gw_606 gw_608 gs_32 rfl ⟨Nat.le_of_ble_eq_true rfl, Nat.le_of_ble_eq_true rfl⟩ (Nat.le_of_ble_eq_true rfl) (gy_k1 (x := .int (gI q10)) (kc2 := 0) (ks2 := 0) ⟨rfl, rfl⟩ ?_) gy_kn
    refine gx_bE e (fun _ g11 e => ?_)
    refine gx_iE e (fun c12 e => ?_) (fun c12 e => ?_)
    · refine gy_if_eq (tgt := 34) (gi_rgS g11) dX5_countIn_28 (by decide) (fun _ => ?_) (fun z => absurd c12 z)
      exact zb_X5_countIn_34 hr5 e
    · refine gy_if_eq (tgt := 34) (gi_rgS g11) dX5_countIn_28 (by decide) (fun z => absurd z c12) (fun _ => ?_)
      refine gx_nE e (fun t14 ht14 e => ?_)
      refine gy_iinc (v := t14) (ls2 := [(3, .int (gI t14)), (0, .ref v0), (1, .int (gI v1)), (2, .int (gI v2)), (4, .int (gI v4))]) dX5_countIn_31 3 rfl ht14 (Nat.le_of_ble_eq_true rfl) rfl ?_
      refine gx_sub (ls2 := [(0, .ref v0), (1, .int (gI v1)), (2, .int (gI v2)), (3, .int (gI t14)), (4, .int (gI v4))]) [1, 2, 3, 0, 4] rfl ?_
      exact zb_X5_countIn_34 hr5 e
def l_X5_countIn_5 (n : Nat)  : Nat → Nat → Int → Int → Int → Int → gi_H → Option (Int)
  | 0, _, _, _, _, _, _ => none
  | k + 1, v0, v1, v2, v3, v4, h => b_X5_countIn_5 n  (l_X5_countIn_5 n  k) v0 v1 v2 v3 v4 h
theorem zl_X5_countIn_5 {al : Bool} {n : Nat}  {res : Int}  : ∀ (k : Nat) (v0 : Nat) (v1 : Int) (v2 : Int) (v3 : Int) (v4 : Int) (h : gi_H), l_X5_countIn_5 n  k v0 v1 v2 v3 v4 h = some res → gx_Z mX5_countIn al al 0 0 5 [(0, .ref v0), (1, .int (gI v1)), (2, .int (gI v2)), (3, .int (gI v3)), (4, .int (gI v4))] [] (gi_cv h) (.inl (some (.int (gI res)))) (gi_cv h)
  | 0, _, _, _, _, _, _, e => gx_0E e
  | k + 1, _, _, _, _, _, _, e => zb_X5_countIn_5 (n := n)  (zl_X5_countIn_5  k) e
set_option maxRecDepth 100000 in
def f_X5_countIn (n : Nat) (v0 : Nat) (v1 : Int) (v2 : Int) (h : gi_H) : Option (Int) :=
  l_X5_countIn_5 n  n v0 v1 v2 (0 : Int) (0 : Int) h
set_option maxRecDepth 100000 in
theorem z_X5_countIn {al : Bool} {n : Nat} {v0 : Nat} {v1 : Int} {v2 : Int} {h : gi_H} {res : Int} (e : f_X5_countIn n v0 v1 v2 h = some res) : gx_Cw mX5_countIn al [.ref v0, .int (gI v1), .int (gI v2)] (gi_cv h) (.inl (some (.int (gI res)))) (gi_cv h) := by
  refine gx_enter (by decide +kernel) rfl (Nat.le_of_ble_eq_true rfl) ?_
  show gx_Z mX5_countIn al al 0 0 0 [(0, .ref v0), (1, .int (gI v1)), (2, .int (gI v2))] [] (gi_cv h) (.inl (some (.int (gI res)))) (gi_cv h)
  refine gy_iconst dX5_countIn_0 ?_
  refine gx_istore_n (ls2 := [(3, .int (gI (0 : Int))), (0, .ref v0), (1, .int (gI v1)), (2, .int (gI v2))]) dX5_countIn_1 rfl (Nat.le_of_ble_eq_true rfl) rfl ?_
  refine gy_iconst dX5_countIn_2 ?_
  refine gx_istore (ls2 := [(4, .int (gI (0 : Int))), (3, .int (gI (0 : Int))), (0, .ref v0), (1, .int (gI v1)), (2, .int (gI v2))]) dX5_countIn_3 (Nat.le_of_ble_eq_true rfl) rfl ?_
  refine gx_sub (ls2 := [(0, .ref v0), (1, .int (gI v1)), (2, .int (gI v2)), (3, .int (gI (0 : Int))), (4, .int (gI (0 : Int)))]) [2, 3, 4, 1, 0] rfl ?_
  exact zl_X5_countIn_5  n _ _ _ _ _ _ e
/-! X5_cellsWith  -/
set_option maxRecDepth 100000 in
def b_X5_cellsWith_40 (n : Nat) (r4 : Nat → Int → Int → Int → gi_H → Option (Int)) (v0 : Nat) (v1 : Int) (v2 : Int) (v3 : Int)  (h : gi_H) : Option (Int) :=
  gx_nm (v3 + (1 : Int)) fun t5 => r4 v0 v1 v2 t5 h
set_option maxRecDepth 100000 in
theorem zb_X5_cellsWith_40 {al : Bool} {n : Nat} {r4 : Nat → Int → Int → Int → gi_H → Option (Int)} {res : Int} (hr4 : ∀ (x0 : Nat) (x1 : Int) (x2 : Int) (x3 : Int) (hh : gi_H), r4 x0 x1 x2 x3 hh = some res → gx_Z mX5_cellsWith al al 0 0 4 [(0, .ref x0), (1, .int (gI x1)), (2, .int (gI x2)), (3, .int (gI x3))] [] (gi_cv hh) (.inl (some (.int (gI res)))) (gi_cv hh)) {v0 : Nat} {v1 : Int} {v2 : Int} {v3 : Int}  {h : gi_H} (e : b_X5_cellsWith_40 n r4 v0 v1 v2 v3 h = some res) : gx_Z mX5_cellsWith al al 0 0 40 [(0, .ref v0), (1, .int (gI v1)), (2, .int (gI v2)), (3, .int (gI v3))] [] (gi_cv h) (.inl (some (.int (gI res)))) (gi_cv h) := by
  refine gx_nE e (fun t5 ht5 e => ?_)
  refine gy_iinc (v := t5) (ls2 := [(3, .int (gI t5)), (0, .ref v0), (1, .int (gI v1)), (2, .int (gI v2))]) dX5_cellsWith_40 3 rfl ht5 (Nat.le_of_ble_eq_true rfl) rfl ?_
  refine gx_goto (tgt := 4) dX5_cellsWith_43 (by decide) ?_
  refine gx_sub (ls2 := [(0, .ref v0), (1, .int (gI v1)), (2, .int (gI v2)), (3, .int (gI t5))]) [1, 2, 3, 0] rfl ?_
  exact hr4 _ _ _ _ _ e
set_option maxRecDepth 100000 in
def b_X5_cellsWith_34 (n : Nat) (r4 : Nat → Int → Int → Int → gi_H → Option (Int)) (r13 : Nat → Int → Int → Int → Int → gi_H → Option (Int)) (v0 : Nat) (v1 : Int) (v2 : Int) (v3 : Int) (v4 : Int)  (h : gi_H) : Option (Int) :=
  gx_nm (v4 + (1 : Int)) fun t11 => r13 v0 v1 v2 v3 t11 h
set_option maxRecDepth 100000 in
theorem zb_X5_cellsWith_34 {al : Bool} {n : Nat} {r4 : Nat → Int → Int → Int → gi_H → Option (Int)} {r13 : Nat → Int → Int → Int → Int → gi_H → Option (Int)} {res : Int} (hr4 : ∀ (x0 : Nat) (x1 : Int) (x2 : Int) (x3 : Int) (hh : gi_H), r4 x0 x1 x2 x3 hh = some res → gx_Z mX5_cellsWith al al 0 0 4 [(0, .ref x0), (1, .int (gI x1)), (2, .int (gI x2)), (3, .int (gI x3))] [] (gi_cv hh) (.inl (some (.int (gI res)))) (gi_cv hh)) (hr13 : ∀ (x0 : Nat) (x1 : Int) (x2 : Int) (x3 : Int) (x4 : Int) (hh : gi_H), r13 x0 x1 x2 x3 x4 hh = some res → gx_Z mX5_cellsWith al al 0 0 13 [(0, .ref x0), (1, .int (gI x1)), (2, .int (gI x2)), (3, .int (gI x3)), (4, .int (gI x4))] [] (gi_cv hh) (.inl (some (.int (gI res)))) (gi_cv hh)) {v0 : Nat} {v1 : Int} {v2 : Int} {v3 : Int} {v4 : Int}  {h : gi_H} (e : b_X5_cellsWith_34 n r4 r13 v0 v1 v2 v3 v4 h = some res) : gx_Z mX5_cellsWith al al 0 0 34 [(0, .ref v0), (1, .int (gI v1)), (2, .int (gI v2)), (3, .int (gI v3)), (4, .int (gI v4))] [] (gi_cv h) (.inl (some (.int (gI res)))) (gi_cv h) := by
  refine gx_nE e (fun t11 ht11 e => ?_)
  refine gy_iinc (v := t11) (ls2 := [(4, .int (gI t11)), (0, .ref v0), (1, .int (gI v1)), (2, .int (gI v2)), (3, .int (gI v3))]) dX5_cellsWith_34 4 rfl ht11 (Nat.le_of_ble_eq_true rfl) rfl ?_
  refine gx_goto (tgt := 13) dX5_cellsWith_37 (by decide) ?_
  refine gx_sub (ls2 := [(0, .ref v0), (1, .int (gI v1)), (2, .int (gI v2)), (3, .int (gI v3)), (4, .int (gI t11))]) [1, 2, 3, 4, 0] rfl ?_
  exact hr13 _ _ _ _ _ _ e
set_option maxRecDepth 100000 in
def b_X5_cellsWith_13 (n : Nat) (r4 : Nat → Int → Int → Int → gi_H → Option (Int)) (r13 : Nat → Int → Int → Int → Int → gi_H → Option (Int)) (v0 : Nat) (v1 : Int) (v2 : Int) (v3 : Int) (v4 : Int)  (h : gi_H) : Option (Int) :=
  Option.bind (gi_rg v4) fun _ => if (9 : Int) ≤ v4 then (b_X5_cellsWith_40 n r4 v0 v1 v2 v3 h) else (Option.bind (gi_is h v0 4) fun _ => Option.bind (f_X5_countIn n v0 v3 v4 h) fun q7 => Option.bind (gi_rg q7) fun _ => Option.bind (gi_rg v1) fun _ => if q7 < v1 then (b_X5_cellsWith_34 n r4 r13 v0 v1 v2 v3 v4 h) else (gx_nm (v2 + (1 : Int)) fun t12 => b_X5_cellsWith_34 n r4 r13 v0 v1 t12 v3 v4 h))
set_option maxRecDepth 100000 in
theorem zb_X5_cellsWith_13 {al : Bool} {n : Nat} {r4 : Nat → Int → Int → Int → gi_H → Option (Int)} {r13 : Nat → Int → Int → Int → Int → gi_H → Option (Int)} {res : Int} (hr4 : ∀ (x0 : Nat) (x1 : Int) (x2 : Int) (x3 : Int) (hh : gi_H), r4 x0 x1 x2 x3 hh = some res → gx_Z mX5_cellsWith al al 0 0 4 [(0, .ref x0), (1, .int (gI x1)), (2, .int (gI x2)), (3, .int (gI x3))] [] (gi_cv hh) (.inl (some (.int (gI res)))) (gi_cv hh)) (hr13 : ∀ (x0 : Nat) (x1 : Int) (x2 : Int) (x3 : Int) (x4 : Int) (hh : gi_H), r13 x0 x1 x2 x3 x4 hh = some res → gx_Z mX5_cellsWith al al 0 0 13 [(0, .ref x0), (1, .int (gI x1)), (2, .int (gI x2)), (3, .int (gI x3)), (4, .int (gI x4))] [] (gi_cv hh) (.inl (some (.int (gI res)))) (gi_cv hh)) {v0 : Nat} {v1 : Int} {v2 : Int} {v3 : Int} {v4 : Int}  {h : gi_H} (e : b_X5_cellsWith_13 n r4 r13 v0 v1 v2 v3 v4 h = some res) : gx_Z mX5_cellsWith al al 0 0 13 [(0, .ref v0), (1, .int (gI v1)), (2, .int (gI v2)), (3, .int (gI v3)), (4, .int (gI v4))] [] (gi_cv h) (.inl (some (.int (gI res)))) (gi_cv h) := by
  refine gx_iload dX5_cellsWith_13 4 rfl ?_
  refine gy_bipush dX5_cellsWith_15 gcb_9 ?_
  refine gx_bE e (fun _ g3 e => ?_)
  refine gx_iE e (fun c4 e => ?_) (fun c4 e => ?_)
  · refine gy_icmp_ge (tgt := 40) (gi_rgS g3) (by decide) dX5_cellsWith_17 (by decide) (fun _ => ?_) (fun z => absurd c4 z)
    refine gx_sub (ls2 := [(0, .ref v0), (1, .int (gI v1)), (2, .int (gI v2)), (3, .int (gI v3))]) [0, 1, 2, 3] rfl ?_
    exact zb_X5_cellsWith_40 hr4 e
  · refine gy_icmp_ge (tgt := 40) (gi_rgS g3) (by decide) dX5_cellsWith_17 (by decide) (fun z => absurd z c4) (fun _ => ?_)
    refine gx_aload_n dX5_cellsWith_20 rfl 0 rfl ?_
    refine gx_iload_n dX5_cellsWith_21 rfl 3 rfl ?_
    refine gx_iload dX5_cellsWith_22 4 rfl ?_
    refine gx_bE e (fun _ hu6 e => ?_)
    refine gx_bE e (fun q7 hq7 e => ?_)
    refine gx_callV (n := 2) (st := []) (As := [.int (gI v3), .int (gI v4)]) (b := v0) dX5_cellsWith_24 (z_X5_countIn hq7) rfl ⟨rfl, gw_cw_X5_countIn, gw_9, gp_X5_countIn, ⟨Nat.le_of_ble_eq_true rfl, Nat.le_of_ble_eq_true rfl⟩⟩ (gi_isS hu6) (by decide) gw_600 gw_602 gs_31 rfl ⟨Nat.le_of_ble_eq_true rfl, Nat.le_of_ble_eq_true rfl⟩ (Nat.le_of_ble_eq_true rfl) (gy_k1 (x := .int (gI q7)) (kc2 := 0) (ks2 := 0) ⟨rfl, rfl⟩ ?_) gy_kn
    refine gx_iload_n dX5_cellsWith_27 rfl 1 rfl ?_
    refine gx_bE e (fun _ g8 e => ?_)
    refine gx_bE e (fun _ g9 e => ?_)
    refine gx_iE e (fun c10 e => ?_) (fun c10 e => ?_)
    · refine gy_icmp_lt (tgt := 34) (gi_rgS g8) (gi_rgS g9) dX5_cellsWith_28 (by decide) (fun _ => ?_) (fun z => absurd c10 z)
      exact zb_X5_cellsWith_34 hr4 hr13 e
    · refine gy_icmp_lt (tgt := 34) (gi_rgS g8) (gi_rgS g9) dX5_cellsWith_28 (by decide) (fun z => absurd z c10) (fun _ => ?_)
      refine gx_nE e (fun t12 ht12 e => ?_)
      refine gy_iinc (v := t12) (ls2 := [(2, .int (gI t12)), (0, .ref v0), (1, .int (gI v1)), (3, .int (gI v3)), (4, .int (gI v4))]) dX5_cellsWith_31 2 rfl ht12 (Nat.le_of_ble_eq_true rfl) rfl ?_
      refine gx_sub (ls2 := [(0, .ref v0), (1, .int (gI v1)), (2, .int (gI t12)), (3, .int (gI v3)), (4, .int (gI v4))]) [1, 2, 0, 3, 4] rfl ?_
      exact zb_X5_cellsWith_34 hr4 hr13 e
def l_X5_cellsWith_13 (n : Nat) (r4 : Nat → Int → Int → Int → gi_H → Option (Int)) : Nat → Nat → Int → Int → Int → Int → gi_H → Option (Int)
  | 0, _, _, _, _, _, _ => none
  | k + 1, v0, v1, v2, v3, v4, h => b_X5_cellsWith_13 n r4 (l_X5_cellsWith_13 n r4 k) v0 v1 v2 v3 v4 h
theorem zl_X5_cellsWith_13 {al : Bool} {n : Nat} {r4 : Nat → Int → Int → Int → gi_H → Option (Int)} {res : Int} (hr4 : ∀ (x0 : Nat) (x1 : Int) (x2 : Int) (x3 : Int) (hh : gi_H), r4 x0 x1 x2 x3 hh = some res → gx_Z mX5_cellsWith al al 0 0 4 [(0, .ref x0), (1, .int (gI x1)), (2, .int (gI x2)), (3, .int (gI x3))] [] (gi_cv hh) (.inl (some (.int (gI res)))) (gi_cv hh)) : ∀ (k : Nat) (v0 : Nat) (v1 : Int) (v2 : Int) (v3 : Int) (v4 : Int) (h : gi_H), l_X5_cellsWith_13 n r4 k v0 v1 v2 v3 v4 h = some res → gx_Z mX5_cellsWith al al 0 0 13 [(0, .ref v0), (1, .int (gI v1)), (2, .int (gI v2)), (3, .int (gI v3)), (4, .int (gI v4))] [] (gi_cv h) (.inl (some (.int (gI res)))) (gi_cv h)
  | 0, _, _, _, _, _, _, e => gx_0E e
  | k + 1, _, _, _, _, _, _, e => zb_X5_cellsWith_13 (n := n) hr4 (zl_X5_cellsWith_13 hr4 k) e
set_option maxRecDepth 100000 in
def b_X5_cellsWith_4 (n : Nat) (r4 : Nat → Int → Int → Int → gi_H → Option (Int)) (v0 : Nat) (v1 : Int) (v2 : Int) (v3 : Int)  (h : gi_H) : Option (Int) :=
  Option.bind (gi_rg v3) fun _ => if (16 : Int) ≤ v3 then (some v2) else (l_X5_cellsWith_13 n r4 n v0 v1 v2 v3 (0 : Int) h)
set_option maxRecDepth 100000 in
theorem zb_X5_cellsWith_4 {al : Bool} {n : Nat} {r4 : Nat → Int → Int → Int → gi_H → Option (Int)} {res : Int} (hr4 : ∀ (x0 : Nat) (x1 : Int) (x2 : Int) (x3 : Int) (hh : gi_H), r4 x0 x1 x2 x3 hh = some res → gx_Z mX5_cellsWith al al 0 0 4 [(0, .ref x0), (1, .int (gI x1)), (2, .int (gI x2)), (3, .int (gI x3))] [] (gi_cv hh) (.inl (some (.int (gI res)))) (gi_cv hh)) {v0 : Nat} {v1 : Int} {v2 : Int} {v3 : Int}  {h : gi_H} (e : b_X5_cellsWith_4 n r4 v0 v1 v2 v3 h = some res) : gx_Z mX5_cellsWith al al 0 0 4 [(0, .ref v0), (1, .int (gI v1)), (2, .int (gI v2)), (3, .int (gI v3))] [] (gi_cv h) (.inl (some (.int (gI res)))) (gi_cv h) := by
  refine gx_iload_n dX5_cellsWith_4 rfl 3 rfl ?_
  refine gy_bipush dX5_cellsWith_5 gcb_16 ?_
  refine gx_bE e (fun _ g1 e => ?_)
  refine gx_iE e (fun c2 e => ?_) (fun c2 e => ?_)
  · refine gy_icmp_ge (tgt := 46) (gi_rgS g1) (by decide) dX5_cellsWith_7 (by decide) (fun _ => ?_) (fun z => absurd c2 z)
    refine gx_iload_n dX5_cellsWith_46 rfl 2 rfl ?_
    cases e
    exact gx_iret dX5_cellsWith_47 rfl ⟨Nat.le_of_ble_eq_true rfl, Nat.le_of_ble_eq_true rfl⟩ (fun z => z)
  · refine gy_icmp_ge (tgt := 46) (gi_rgS g1) (by decide) dX5_cellsWith_7 (by decide) (fun z => absurd z c2) (fun _ => ?_)
    refine gy_iconst dX5_cellsWith_10 ?_
    refine gx_istore (ls2 := [(4, .int (gI (0 : Int))), (0, .ref v0), (1, .int (gI v1)), (2, .int (gI v2)), (3, .int (gI v3))]) dX5_cellsWith_11 (Nat.le_of_ble_eq_true rfl) rfl ?_
    refine gx_sub (ls2 := [(0, .ref v0), (1, .int (gI v1)), (2, .int (gI v2)), (3, .int (gI v3)), (4, .int (gI (0 : Int)))]) [1, 2, 3, 4, 0] rfl ?_
    exact zl_X5_cellsWith_13 hr4 n _ _ _ _ _ _ e
def l_X5_cellsWith_4 (n : Nat)  : Nat → Nat → Int → Int → Int → gi_H → Option (Int)
  | 0, _, _, _, _, _ => none
  | k + 1, v0, v1, v2, v3, h => b_X5_cellsWith_4 n  (l_X5_cellsWith_4 n  k) v0 v1 v2 v3 h
theorem zl_X5_cellsWith_4 {al : Bool} {n : Nat}  {res : Int}  : ∀ (k : Nat) (v0 : Nat) (v1 : Int) (v2 : Int) (v3 : Int) (h : gi_H), l_X5_cellsWith_4 n  k v0 v1 v2 v3 h = some res → gx_Z mX5_cellsWith al al 0 0 4 [(0, .ref v0), (1, .int (gI v1)), (2, .int (gI v2)), (3, .int (gI v3))] [] (gi_cv h) (.inl (some (.int (gI res)))) (gi_cv h)
  | 0, _, _, _, _, _, e => gx_0E e
  | k + 1, _, _, _, _, _, e => zb_X5_cellsWith_4 (n := n)  (zl_X5_cellsWith_4  k) e
set_option maxRecDepth 100000 in
def f_X5_cellsWith (n : Nat) (v0 : Nat) (v1 : Int) (h : gi_H) : Option (Int) :=
  l_X5_cellsWith_4 n  n v0 v1 (0 : Int) (0 : Int) h
set_option maxRecDepth 100000 in
theorem z_X5_cellsWith {al : Bool} {n : Nat} {v0 : Nat} {v1 : Int} {h : gi_H} {res : Int} (e : f_X5_cellsWith n v0 v1 h = some res) : gx_Cw mX5_cellsWith al [.ref v0, .int (gI v1)] (gi_cv h) (.inl (some (.int (gI res)))) (gi_cv h) := by
  refine gx_enter (by decide +kernel) rfl (Nat.le_of_ble_eq_true rfl) ?_
  show gx_Z mX5_cellsWith al al 0 0 0 [(0, .ref v0), (1, .int (gI v1))] [] (gi_cv h) (.inl (some (.int (gI res)))) (gi_cv h)
  refine gy_iconst dX5_cellsWith_0 ?_
  refine gx_istore_n (ls2 := [(2, .int (gI (0 : Int))), (0, .ref v0), (1, .int (gI v1))]) dX5_cellsWith_1 rfl (Nat.le_of_ble_eq_true rfl) rfl ?_
  refine gy_iconst dX5_cellsWith_2 ?_
  refine gx_istore_n (ls2 := [(3, .int (gI (0 : Int))), (2, .int (gI (0 : Int))), (0, .ref v0), (1, .int (gI v1))]) dX5_cellsWith_3 rfl (Nat.le_of_ble_eq_true rfl) rfl ?_
  refine gx_sub (ls2 := [(0, .ref v0), (1, .int (gI v1)), (2, .int (gI (0 : Int))), (3, .int (gI (0 : Int)))]) [2, 3, 1, 0] rfl ?_
  exact zl_X5_cellsWith_4  n _ _ _ _ _ e
/-! X5_extent  -/
set_option maxRecDepth 100000 in
def f_X5_extent (n : Nat) (v0 : Nat) (h : gi_H) : Option (Int) :=
  Option.bind (gi_is h v0 4) fun _ => Option.bind (f_X5_cellsWith n v0 (1 : Int) h) fun q2 => some q2
set_option maxRecDepth 100000 in
theorem z_X5_extent {al : Bool} {n : Nat} {v0 : Nat} {h : gi_H} {res : Int} (e : f_X5_extent n v0 h = some res) : gx_Cw mX5_extent al [.ref v0] (gi_cv h) (.inl (some (.int (gI res)))) (gi_cv h) := by
  refine gx_enter (by decide +kernel) rfl (Nat.le_of_ble_eq_true rfl) ?_
  show gx_Z mX5_extent al al 0 0 0 [(0, .ref v0)] [] (gi_cv h) (.inl (some (.int (gI res)))) (gi_cv h)
  refine gx_aload_n dX5_extent_0 rfl 0 rfl ?_
  refine gy_iconst dX5_extent_1 ?_
  refine gx_bE e (fun _ hu1 e => ?_)
  refine gx_bE e (fun q2 hq2 e => ?_)
  refine gx_callV (n := 1) (st := []) (As := [.int (gI (1 : Int))]) (b := v0) dX5_extent_2 (z_X5_cellsWith hq2) rfl ⟨rfl, gw_cw_X5_cellsWith, gw_9, gp_X5_cellsWith, ⟨Nat.le_of_ble_eq_true rfl, Nat.le_of_ble_eq_true rfl⟩⟩ (gi_isS hu1) (by decide) gw_596 gw_598 gs_30 rfl ⟨Nat.le_of_ble_eq_true rfl, Nat.le_of_ble_eq_true rfl⟩ (Nat.le_of_ble_eq_true rfl) (gy_k1 (x := .int (gI q2)) (kc2 := 0) (ks2 := 0) ⟨rfl, rfl⟩ ?_) gy_kn
  cases e
  exact gx_iret dX5_extent_5 rfl ⟨Nat.le_of_ble_eq_true rfl, Nat.le_of_ble_eq_true rfl⟩ (fun z => z)
/-! X0_extent  -/
set_option maxRecDepth 100000 in
def f_X0_extent (v0 : Nat) (h : gi_H) : Option (Int) :=
  Option.bind (gi_gI h v0 0 3) fun t1 => Option.bind (gi_rg t1) fun _ => if t1 = 0 then (Option.bind (gi_gI h v0 0 4) fun t4 => some t4) else (some (-2 : Int))
set_option maxRecDepth 100000 in
theorem z_X0_extent {al : Bool} {v0 : Nat} {h : gi_H} {res : Int} (e : f_X0_extent v0 h = some res) : gx_Cw mX0_extent al [.ref v0] (gi_cv h) (.inl (some (.int (gI res)))) (gi_cv h) := by
  refine gx_enter (by decide +kernel) rfl (Nat.le_of_ble_eq_true rfl) ?_
  show gx_Z mX0_extent al al 0 0 0 [(0, .ref v0)] [] (gi_cv h) (.inl (some (.int (gI res)))) (gi_cv h)
  refine gx_aload_n dX0_extent_0 rfl 0 rfl ?_
  refine gx_bE e (fun t1 ht1 e => ?_)
  refine gy_fI ht1 dX0_extent_1 gf_RX0_39_0_3 (by decide) gkN_0_3 gkR_0_3 ?_
  refine gx_bE e (fun _ g2 e => ?_)
  refine gx_iE e (fun c3 e => ?_) (fun c3 e => ?_)
  · refine gy_if_eq (tgt := 12) (gi_rgS g2) dX0_extent_4 (by decide) (fun _ => ?_) (fun z => absurd c3 z)
    refine gx_aload_n dX0_extent_12 rfl 0 rfl ?_
    refine gx_bE e (fun t4 ht4 e => ?_)
    refine gy_fI ht4 dX0_extent_13 gf_RX0_42_0_4 (by decide) gkN_0_4 gkR_0_4 ?_
    cases e
    exact gx_iret dX0_extent_16 rfl ⟨Nat.le_of_ble_eq_true rfl, Nat.le_of_ble_eq_true rfl⟩ (fun z => z)
  · refine gy_if_eq (tgt := 12) (gi_rgS g2) dX0_extent_4 (by decide) (fun z => absurd z c3) (fun _ => ?_)
    refine gy_bipush dX0_extent_7 gcb_m2 ?_
    refine gx_goto (tgt := 16) dX0_extent_9 (by decide) ?_
    cases e
    exact gx_iret dX0_extent_16 rfl ⟨Nat.le_of_ble_eq_true rfl, Nat.le_of_ble_eq_true rfl⟩ (fun z => z)
/-! X9_extent  -/
set_option maxRecDepth 100000 in
def f_X9_extent (v0 : Nat) (h : gi_H) : Option (Int) :=
  Option.bind (gi_gR h v0 8 1) fun t1 => Option.bind (gi_is h t1 0) fun _ => Option.bind (f_X0_extent t1 h) fun q3 => some q3
set_option maxRecDepth 100000 in
theorem z_X9_extent {al : Bool} {v0 : Nat} {h : gi_H} {res : Int} (e : f_X9_extent v0 h = some res) : gx_Cw mX9_extent al [.ref v0] (gi_cv h) (.inl (some (.int (gI res)))) (gi_cv h) := by
  refine gx_enter (by decide +kernel) rfl (Nat.le_of_ble_eq_true rfl) ?_
  show gx_Z mX9_extent al al 0 0 0 [(0, .ref v0)] [] (gi_cv h) (.inl (some (.int (gI res)))) (gi_cv h)
  refine gx_aload_n dX9_extent_0 rfl 0 rfl ?_
  refine gx_bE e (fun t1 ht1 e => ?_)
  refine gy_fR ht1 dX9_extent_1 gf_RX9_18_8_1 (by decide) gkN_8_1 gkR_8_1 ?_
  refine gx_bE e (fun _ hu2 e => ?_)
  refine gx_bE e (fun q3 hq3 e => ?_)
  refine gx_callV (n := 0) (st := []) (As := []) (b := t1) dX9_extent_4 (z_X0_extent hq3) rfl ⟨rfl, gw_cw_X0_extent, gw_7, gp_X0_extent, ⟨Nat.le_of_ble_eq_true rfl, Nat.le_of_ble_eq_true rfl⟩⟩ (gi_isS hu2) (by decide) gw_619 gw_620 gw_621 rfl ⟨Nat.le_of_ble_eq_true rfl, Nat.le_of_ble_eq_true rfl⟩ (Nat.le_of_ble_eq_true rfl) (gy_k1 (x := .int (gI q3)) (kc2 := 0) (ks2 := 0) ⟨rfl, rfl⟩ ?_) gy_kn
  cases e
  exact gx_iret dX9_extent_7 rfl ⟨Nat.le_of_ble_eq_true rfl, Nat.le_of_ble_eq_true rfl⟩ (fun z => z)
/-! X11_size  -/
set_option maxRecDepth 100000 in
def f_X11_size (n : Nat) (v0 : Nat) (v1 : Int) (h : gi_H) : Option ((Int ⊕ String) × gi_H) :=
  Option.bind (f_X11_requireKind v1 h) fun q1 => gx_sm q1.1 (fun t2 => Option.bind (gi_is q1.2 v0 9) fun _ => Option.bind (f_X11_table n v0 v1 q1.2) fun q4 => if gi_S q4.2 q4.1 = (0, 4) then (Option.bind (gi_is q4.2 q4.1 4) fun _ => Option.bind (f_X5_extent n q4.1 q4.2) fun q7 => some (.inl q7, q4.2)) else (Option.bind (gi_is q4.2 q4.1 8) fun _ => Option.bind (f_X9_extent q4.1 q4.2) fun q9 => some (.inl q9, q4.2))) (fun t2 => some (.inr t2, q1.2))
set_option maxRecDepth 100000 in
theorem z_X11_size {n : Nat} {v0 : Nat} {v1 : Int} {h : gi_H} {res : Int ⊕ String} {h1 : gi_H} (e : f_X11_size n v0 v1 h = some (res, h1)) : gx_Cw mX11_size false [.ref v0, .int (gI v1)] (gi_cv h) (gx_oI res) (gi_cv h1) := by
  refine gx_enter (by decide +kernel) rfl (Nat.le_of_ble_eq_true rfl) ?_
  show gx_Z mX11_size false false 0 0 0 [(0, .ref v0), (1, .int (gI v1))] [] (gi_cv h) (gx_oI res) (gi_cv h1)
  refine gx_iload_n dX11_size_0 rfl 1 rfl ?_
  refine gx_bE e (fun q1 hq1 e => ?_)
  refine gx_smE e (fun t2 ht2 e => ?_) (fun t2 ht2 e => ?_)
  · have zq1 := z_X11_requireKind hq1
    rw [ht2] at zq1
    refine gx_callS (n := 1) (st := []) (As := [.int (gI v1)]) dX11_size_1 zq1 rfl ⟨rfl, gw_cw_X11_requireKind, gw_1, gp_X11_requireKind, ⟨Nat.le_of_ble_eq_true rfl, Nat.le_of_ble_eq_true rfl⟩⟩ gw_1190 gw_1191 ⟨Nat.le_of_ble_eq_true rfl, Nat.le_of_ble_eq_true rfl⟩ (Nat.le_of_ble_eq_true rfl) (gy_k0 (kc2 := 1) (ks2 := 6) ⟨rfl, rfl⟩ ?_) gy_kn
    refine gx_aload_n dX11_size_4 rfl 0 rfl ?_
    refine gx_iload_n dX11_size_5 rfl 1 rfl ?_
    refine gx_bE e (fun _ hu3 e => ?_)
    refine gx_bE e (fun q4 hq4 e => ?_)
    refine gx_callV (n := 1) (st := []) (As := [.int (gI v1)]) (b := v0) dX11_size_6 (z_X11_table hq4) rfl ⟨rfl, gw_cw_X11_table, gw_1, gp_X11_table, ⟨Nat.le_of_ble_eq_true rfl, Nat.le_of_ble_eq_true rfl⟩⟩ (gi_isS hu3) (by decide) gw_400 gw_402 gs_0 rfl ⟨Nat.le_of_ble_eq_true rfl, Nat.le_of_ble_eq_true rfl⟩ (Nat.le_of_ble_eq_true rfl) (gy_k1 (x := .ref q4.1) (kc2 := 1) (ks2 := 6) ⟨rfl, rfl⟩ ?_) gy_kn
    refine gx_iE e (fun c5 e => ?_) (fun c5 e => ?_)
    · refine gx_bE e (fun _ hu6 e => ?_)
      refine gx_bE e (fun q7 hq7 e => ?_)
      refine gx_callA (n := 0) (st := []) (As := []) (b := q4.1) dX11_size_9 (z_X5_extent hq7) rfl ⟨rfl, gw_cw_X5_extent, gw_9, gp_X5_extent, ⟨Nat.le_of_ble_eq_true rfl, Nat.le_of_ble_eq_true rfl⟩⟩ (gi_isS hu6) (by decide) (x := ⟨"Grammarsmith$Table", "extent", "()I"⟩) (owner := "Grammarsmith$Table") gw_590 gw_592 gw_593 gw_594 (by decide +kernel) (by decide +kernel) ⟨Nat.le_of_ble_eq_true rfl, Nat.le_of_ble_eq_true rfl⟩ (Nat.le_of_ble_eq_true rfl) (gy_k1 (x := .int (gI q7)) (kc2 := 1) (ks2 := 6) ⟨rfl, rfl⟩ ?_) gy_kn
      cases e
      exact gx_iret dX11_size_12 rfl ⟨Nat.le_of_ble_eq_true rfl, Nat.le_of_ble_eq_true rfl⟩ (fun z => z)
    · refine gx_bE e (fun _ hu8 e => ?_)
      refine gx_bE e (fun q9 hq9 e => ?_)
      refine gx_callA (n := 0) (st := []) (As := []) (b := q4.1) dX11_size_9 (z_X9_extent hq9) rfl ⟨rfl, gw_cw_X9_extent, gw_10, gp_X9_extent, ⟨Nat.le_of_ble_eq_true rfl, Nat.le_of_ble_eq_true rfl⟩⟩ (gi_isS hu8) (by decide) (x := ⟨"Grammarsmith$Table", "extent", "()I"⟩) (owner := "Grammarsmith$Table") gw_590 gw_592 gw_616 gw_617 (by decide +kernel) (by decide +kernel) ⟨Nat.le_of_ble_eq_true rfl, Nat.le_of_ble_eq_true rfl⟩ (Nat.le_of_ble_eq_true rfl) (gy_k1 (x := .int (gI q9)) (kc2 := 1) (ks2 := 6) ⟨rfl, rfl⟩ ?_) gy_kn
      cases e
      exact gx_iret dX11_size_12 rfl ⟨Nat.le_of_ble_eq_true rfl, Nat.le_of_ble_eq_true rfl⟩ (fun z => z)
  · have zq1 := z_X11_requireKind hq1
    rw [ht2] at zq1
    refine gx_callS (n := 1) (st := []) (As := [.int (gI v1)]) dX11_size_1 zq1 rfl ⟨rfl, gw_cw_X11_requireKind, gw_1, gp_X11_requireKind, ⟨Nat.le_of_ble_eq_true rfl, Nat.le_of_ble_eq_true rfl⟩⟩ gw_1190 gw_1191 ⟨Nat.le_of_ble_eq_true rfl, Nat.le_of_ble_eq_true rfl⟩ (Nat.le_of_ble_eq_true rfl) gy_kN (gy_kE (kc2 := 1) (ks2 := 6) ⟨rfl, rfl⟩ ?_)
    cases e
    exact gx_out rfl ⟨Nat.le_of_ble_eq_true rfl, Nat.le_of_ble_eq_true rfl⟩ (fun z => z)
/-! L_size  -/
set_option maxRecDepth 100000 in
def f_L_size (n : Nat) (v0 : Nat) (v1 : Int) (v2 : Nat) (h : gi_H) : Option (Int × gi_H) :=
  Option.bind (gi_is h v0 9) fun _ => Option.bind (f_X11_size n v0 v1 h) fun q2 => gx_sm q2.1 (fun t3 => Option.bind (gi_rg t3) fun _ => Option.bind (gi_s2 q2.2 v2 (0 : Int) t3) fun h5 => some ((0 : Int), h5)) (fun t3 => if t3 = gx_IOB then (some ((1 : Int), q2.2)) else (none))
set_option maxRecDepth 100000 in
theorem z_L_size {n : Nat} {v0 : Nat} {v1 : Int} {v2 : Nat} {h : gi_H} {res : Int} {h1 : gi_H} (e : f_L_size n v0 v1 v2 h = some (res, h1)) : gx_Cw mL_size false [.ref v0, .int (gI v1), .ref v2] (gi_cv h) (.inl (some (.int (gI res)))) (gi_cv h1) := by
  refine gx_enter (by decide +kernel) rfl (Nat.le_of_ble_eq_true rfl) ?_
  show gx_Z mL_size false false 0 0 0 [(0, .ref v0), (1, .int (gI v1)), (2, .ref v2)] [] (gi_cv h) (.inl (some (.int (gI res)))) (gi_cv h1)
  refine gx_aload_n dL_size_0 rfl 2 rfl ?_
  refine gy_iconst dL_size_1 ?_
  refine gx_aload_n dL_size_2 rfl 0 rfl ?_
  refine gx_iload_n dL_size_3 rfl 1 rfl ?_
  refine gx_bE e (fun _ hu1 e => ?_)
  refine gx_bE e (fun q2 hq2 e => ?_)
  refine gx_smE e (fun t3 ht3 e => ?_) (fun t3 ht3 e => ?_)
  · have zq2 := z_X11_size hq2
    rw [ht3] at zq2
    refine gx_callV (n := 1) (st := [.int (gI (0 : Int)), .ref v2]) (As := [.int (gI v1)]) (b := v0) dL_size_4 zq2 rfl ⟨rfl, gw_cw_X11_size, gw_1, gp_X11_size, ⟨Nat.le_of_ble_eq_true rfl, Nat.le_of_ble_eq_true rfl⟩⟩ (gi_isS hu1) (by decide) gw_1186 gw_1187 gw_1188 rfl ⟨Nat.le_of_ble_eq_true rfl, Nat.le_of_ble_eq_true rfl⟩ (Nat.le_of_ble_eq_true rfl) (gy_k1 (x := .int (gI t3)) (kc2 := 1) (ks2 := 6) ⟨rfl, rfl⟩ ?_) gy_kn
    refine gx_bE e (fun _ g4 e => ?_)
    refine gy_i2l (gi_rgS g4) dL_size_7 ?_
    refine gx_bE e (fun h5 hh5 e => ?_)
    refine gy_t2 hh5 dL_size_8 ?_
    refine gx_goto (tgt := 15) dL_size_9 (by decide) ?_
    refine gy_iconst dL_size_15 ?_
    cases e
    exact gx_iret dL_size_16 rfl ⟨Nat.le_of_ble_eq_true rfl, Nat.le_of_ble_eq_true rfl⟩ (fun z => z)
  · have zq2 := z_X11_size hq2
    rw [ht3] at zq2
    refine gx_callV (n := 1) (st := [.int (gI (0 : Int)), .ref v2]) (As := [.int (gI v1)]) (b := v0) dL_size_4 zq2 rfl ⟨rfl, gw_cw_X11_size, gw_1, gp_X11_size, ⟨Nat.le_of_ble_eq_true rfl, Nat.le_of_ble_eq_true rfl⟩⟩ (gi_isS hu1) (by decide) gw_1186 gw_1187 gw_1188 rfl ⟨Nat.le_of_ble_eq_true rfl, Nat.le_of_ble_eq_true rfl⟩ (Nat.le_of_ble_eq_true rfl) gy_kN (gy_kE (kc2 := 1) (ks2 := 6) ⟨rfl, rfl⟩ ?_)
    refine gx_iE e (fun c6 e => ?_) (fun c6 e => ?_)
    · rw [c6]
      refine gx_catch (ls2 := [(0, .ref v0), (1, .int (gI v1)), (2, .ref v2)]) [] (x := (0, 9, 12, 28)) rfl (fun z hz => by cases hz) (by decide +kernel) (by decide) gw_1028 (by decide +kernel) (Nat.le_of_ble_eq_true rfl) (Or.inl ⟨3, rfl, rfl, dL_size_12⟩) rfl ?_
      refine gy_iconst dL_size_13 ?_
      cases e
      exact gx_iret dL_size_14 rfl ⟨Nat.le_of_ble_eq_true rfl, Nat.le_of_ble_eq_true rfl⟩ (fun z => z)
    cases e
/-! X12_isKind  -/
set_option maxRecDepth 100000 in
def b_X12_isKind_13    (h : gi_H) : Option (Int) :=
  some (0 : Int)
set_option maxRecDepth 100000 in
theorem zb_X12_isKind_13 {al : Bool}  {res : Int}    {h : gi_H} (e : b_X12_isKind_13  h = some res) : gx_Z mX12_isKind al al 0 0 13 [] [] (gi_cv h) (.inl (some (.int (gI res)))) (gi_cv h) := by
  refine gy_iconst dX12_isKind_13 ?_
  cases e
  exact gx_zret (by decide +kernel) dX12_isKind_14 rfl ⟨Nat.le_of_ble_eq_true rfl, Nat.le_of_ble_eq_true rfl⟩ (fun z => z)
set_option maxRecDepth 100000 in
def f_X12_isKind (v0 : Int) (h : gi_H) : Option (Int) :=
  Option.bind (gi_rg v0) fun _ => if v0 < 0 then (b_X12_isKind_13   h) else (if (3 : Int) < v0 then (b_X12_isKind_13   h) else (some (1 : Int)))
set_option maxRecDepth 100000 in
theorem z_X12_isKind {al : Bool} {v0 : Int} {h : gi_H} {res : Int} (e : f_X12_isKind v0 h = some res) : gx_Cw mX12_isKind al [.int (gI v0)] (gi_cv h) (.inl (some (.int (gI res)))) (gi_cv h) := by
  refine gx_enter (by decide +kernel) rfl (Nat.le_of_ble_eq_true rfl) ?_
  show gx_Z mX12_isKind al al 0 0 0 [(0, .int (gI v0))] [] (gi_cv h) (.inl (some (.int (gI res)))) (gi_cv h)
  refine gx_iload_n dX12_isKind_0 rfl 0 rfl ?_
  refine gx_bE e (fun _ g1 e => ?_)
  refine gx_iE e (fun c2 e => ?_) (fun c2 e => ?_)
  · refine gy_if_lt (tgt := 13) (gi_rgS g1) dX12_isKind_1 (by decide) (fun _ => ?_) (fun z => absurd c2 z)
    refine gx_sub (ls2 := []) [] rfl ?_
    exact zb_X12_isKind_13  e
  · refine gy_if_lt (tgt := 13) (gi_rgS g1) dX12_isKind_1 (by decide) (fun z => absurd z c2) (fun _ => ?_)
    refine gx_iload_n dX12_isKind_4 rfl 0 rfl ?_
    refine gy_iconst dX12_isKind_5 ?_
    refine gx_iE e (fun c3 e => ?_) (fun c3 e => ?_)
    · refine gy_icmp_gt (tgt := 13) (gi_rgS g1) (by decide) dX12_isKind_6 (by decide) (fun _ => ?_) (fun z => absurd c3 z)
      refine gx_sub (ls2 := []) [] rfl ?_
      exact zb_X12_isKind_13  e
    · refine gy_icmp_gt (tgt := 13) (gi_rgS g1) (by decide) dX12_isKind_6 (by decide) (fun z => absurd z c3) (fun _ => ?_)
      refine gy_iconst dX12_isKind_9 ?_
      refine gx_goto (tgt := 14) dX12_isKind_10 (by decide) ?_
      cases e
      exact gx_zret (by decide +kernel) dX12_isKind_14 rfl ⟨Nat.le_of_ble_eq_true rfl, Nat.le_of_ble_eq_true rfl⟩ (fun z => z)
/-! X12_numbers  -/
set_option maxRecDepth 100000 in
def b_X12_numbers_52 (n : Nat)  (v0 : Nat)  (h : gi_H) : Option (gi_H) :=
  Option.bind (gi_gR h v0 10 24) fun t8 => Option.bind (gi_gI h v0 10 25) fun t9 => Option.bind (gi_s1 h t8 (24 : Int) t9) fun h10 => Option.bind (gi_gI h10 v0 10 25) fun t11 => Option.bind (gi_pI h10 v0 10 25 (t11 + (2 : Int))) fun h12 => some h12
set_option maxRecDepth 100000 in
theorem zb_X12_numbers_52 {al : Bool} {n : Nat}  {h1 : gi_H}  {v0 : Nat}  {h : gi_H} (e : b_X12_numbers_52 n v0 h = some h1) : gx_Z mX12_numbers al al 0 0 52 [(0, .ref v0)] [] (gi_cv h) (.inl none) (gi_cv h1) := by
  refine gx_aload_n dX12_numbers_52 rfl 0 rfl ?_
  refine gx_bE e (fun t8 ht8 e => ?_)
  refine gy_fR ht8 dX12_numbers_53 gf_RX12_68_10_24 (by decide) gkN_10_24 gkR_10_24 ?_
  refine gy_bipush dX12_numbers_56 gcb_24 ?_
  refine gx_aload_n dX12_numbers_58 rfl 0 rfl ?_
  refine gx_bE e (fun t9 ht9 e => ?_)
  refine gy_fI ht9 dX12_numbers_59 gf_RX12_221_10_25 (by decide) gkN_10_25 gkR_10_25 ?_
  refine gx_bE e (fun h10 hh10 e => ?_)
  refine gy_t1 hh10 dX12_numbers_62 ?_
  refine gx_aload_n dX12_numbers_63 rfl 0 rfl ?_
  refine gx_dup dX12_numbers_64 rfl ?_
  refine gx_bE e (fun t11 ht11 e => ?_)
  refine gy_fI ht11 dX12_numbers_65 gf_RX12_221_10_25 (by decide) gkN_10_25 gkR_10_25 ?_
  refine gy_iconst dX12_numbers_68 ?_
  refine gy_iadd dX12_numbers_69 ?_
  refine gx_bE e (fun h12 hh12 e => ?_)
  refine gy_qI hh12 dX12_numbers_70 gf_RX12_221_10_25 (by decide) gkN_10_25 rfl (Or.inl rfl) ?_
  cases e
  exact gx_vret dX12_numbers_73 rfl ⟨Nat.le_of_ble_eq_true rfl, Nat.le_of_ble_eq_true rfl⟩ (fun z => z)
set_option maxRecDepth 100000 in
def b_X12_numbers_7 (n : Nat) (r7 : Nat → Int → gi_H → Option (gi_H)) (v0 : Nat) (v1 : Int)  (h : gi_H) : Option (gi_H) :=
  Option.bind (gi_gR h v0 10 3) fun t2 => Option.bind (gi_gI h v0 10 9) fun t3 => Option.bind (gi_aI h 1 t2 t3) fun t4 => Option.bind (gi_rg v1) fun _ => Option.bind (gi_rg t4) fun _ => if t4 ≤ v1 then (b_X12_numbers_52 n  v0 h) else (Option.bind (gi_gR h v0 10 24) fun t13 => Option.bind (gi_gI h v0 10 25) fun t14 => Option.bind (gi_s1 h t13 v1 t14) fun h15 => Option.bind (gi_gI h15 v0 10 25) fun t16 => Option.bind (gi_is h15 v0 10) fun _ => Option.bind (f_X12_sizeOf v0 v1 h15) fun q18 => Option.bind (gi_pI h15 v0 10 25 (t16 + (q18 + (1 : Int)))) fun h19 => gx_nm (v1 + (1 : Int)) fun t20 => r7 v0 t20 h19)
set_option maxRecDepth 100000 in
theorem zb_X12_numbers_7 {al : Bool} {n : Nat} {r7 : Nat → Int → gi_H → Option (gi_H)} {h1 : gi_H} (hr7 : ∀ (x0 : Nat) (x1 : Int) (hh : gi_H), r7 x0 x1 hh = some h1 → gx_Z mX12_numbers al al 0 0 7 [(0, .ref x0), (1, .int (gI x1))] [] (gi_cv hh) (.inl none) (gi_cv h1)) {v0 : Nat} {v1 : Int}  {h : gi_H} (e : b_X12_numbers_7 n r7 v0 v1 h = some h1) : gx_Z mX12_numbers al al 0 0 7 [(0, .ref v0), (1, .int (gI v1))] [] (gi_cv h) (.inl none) (gi_cv h1) := by
  refine gx_iload_n dX12_numbers_7 rfl 1 rfl ?_
  refine gx_aload_n dX12_numbers_8 rfl 0 rfl ?_
  refine gx_bE e (fun t2 ht2 e => ?_)
  refine gy_fR ht2 dX12_numbers_9 gf_RX12_19_10_3 (by decide) gkN_10_3 gkR_10_3 ?_
  refine gx_aload_n dX12_numbers_12 rfl 0 rfl ?_
  refine gx_bE e (fun t3 ht3 e => ?_)
  refine gy_fI ht3 dX12_numbers_13 gf_RX12_139_10_9 (by decide) gkN_10_9 gkR_10_9 ?_
  refine gx_bE e (fun t4 ht4 e => ?_)
  refine gy_l1 ht4 dX12_numbers_16 ?_
  refine gx_bE e (fun _ g5 e => ?_)
  refine gx_bE e (fun _ g6 e => ?_)
  refine gx_iE e (fun c7 e => ?_) (fun c7 e => ?_)
  · refine gy_icmp_ge (tgt := 52) (gi_rgS g5) (gi_rgS g6) dX12_numbers_17 (by decide) (fun _ => ?_) (fun z => absurd c7 z)
    refine gx_sub (ls2 := [(0, .ref v0)]) [0] rfl ?_
    exact zb_X12_numbers_52  e
  · refine gy_icmp_ge (tgt := 52) (gi_rgS g5) (gi_rgS g6) dX12_numbers_17 (by decide) (fun z => absurd z c7) (fun _ => ?_)
    refine gx_aload_n dX12_numbers_20 rfl 0 rfl ?_
    refine gx_bE e (fun t13 ht13 e => ?_)
    refine gy_fR ht13 dX12_numbers_21 gf_RX12_68_10_24 (by decide) gkN_10_24 gkR_10_24 ?_
    refine gx_iload_n dX12_numbers_24 rfl 1 rfl ?_
    refine gx_aload_n dX12_numbers_25 rfl 0 rfl ?_
    refine gx_bE e (fun t14 ht14 e => ?_)
    refine gy_fI ht14 dX12_numbers_26 gf_RX12_221_10_25 (by decide) gkN_10_25 gkR_10_25 ?_
    refine gx_bE e (fun h15 hh15 e => ?_)
    refine gy_t1 hh15 dX12_numbers_29 ?_
    refine gx_aload_n dX12_numbers_30 rfl 0 rfl ?_
    refine gx_dup dX12_numbers_31 rfl ?_
    refine gx_bE e (fun t16 ht16 e => ?_)
    refine gy_fI ht16 dX12_numbers_32 gf_RX12_221_10_25 (by decide) gkN_10_25 gkR_10_25 ?_
    refine gx_aload_n dX12_numbers_35 rfl 0 rfl ?_
    refine gx_iload_n dX12_numbers_36 rfl 1 rfl ?_
    refine gx_bE e (fun _ hu17 e => ?_)
    refine gx_bE e (fun q18 hq18 e => ?_)
    refine gx_callV (n := 1) (st := [.int (gI t16), .ref v0]) (As := [.int (gI v1)]) (b := v0) dX12_numbers_37 (z_X12_sizeOf hq18) rfl ⟨rfl, gw_cw_X12_sizeOf, gw_14, gp_X12_sizeOf, ⟨Nat.le_of_ble_eq_true rfl, Nat.le_of_ble_eq_true rfl⟩⟩ (gi_isS hu17) (by decide) gw_1579 gw_1581 gs_71 rfl ⟨Nat.le_of_ble_eq_true rfl, Nat.le_of_ble_eq_true rfl⟩ (Nat.le_of_ble_eq_true rfl) (gy_k1 (x := .int (gI q18)) (kc2 := 0) (ks2 := 0) ⟨rfl, rfl⟩ ?_) gy_kn
    refine gy_iconst dX12_numbers_40 ?_
    refine gy_iadd dX12_numbers_41 ?_
    refine gy_iadd dX12_numbers_42 ?_
    refine gx_bE e (fun h19 hh19 e => ?_)
    refine gy_qI hh19 dX12_numbers_43 gf_RX12_221_10_25 (by decide) gkN_10_25 rfl (Or.inl rfl) ?_
    refine gx_nE e (fun t20 ht20 e => ?_)
    refine gy_iinc (v := t20) (ls2 := [(1, .int (gI t20)), (0, .ref v0)]) dX12_numbers_46 1 rfl ht20 (Nat.le_of_ble_eq_true rfl) rfl ?_
    refine gx_goto (tgt := 7) dX12_numbers_49 (by decide) ?_
    refine gx_sub (ls2 := [(0, .ref v0), (1, .int (gI t20))]) [1, 0] rfl ?_
    exact hr7 _ _ _ e
def l_X12_numbers_7 (n : Nat)  : Nat → Nat → Int → gi_H → Option (gi_H)
  | 0, _, _, _ => none
  | k + 1, v0, v1, h => b_X12_numbers_7 n  (l_X12_numbers_7 n  k) v0 v1 h
theorem zl_X12_numbers_7 {al : Bool} {n : Nat}  {h1 : gi_H}  : ∀ (k : Nat) (v0 : Nat) (v1 : Int) (h : gi_H), l_X12_numbers_7 n  k v0 v1 h = some h1 → gx_Z mX12_numbers al al 0 0 7 [(0, .ref v0), (1, .int (gI v1))] [] (gi_cv h) (.inl none) (gi_cv h1)
  | 0, _, _, _, e => gx_0E e
  | k + 1, _, _, _, e => zb_X12_numbers_7 (n := n)  (zl_X12_numbers_7  k) e
set_option maxRecDepth 100000 in
def f_X12_numbers (n : Nat) (v0 : Nat) (h : gi_H) : Option (gi_H) :=
  Option.bind (gi_pI h v0 10 25 (0 : Int)) fun h1 => l_X12_numbers_7 n  n v0 (0 : Int) h1
set_option maxRecDepth 100000 in
theorem z_X12_numbers {al : Bool} {n : Nat} {v0 : Nat} {h : gi_H} {h1 : gi_H} (e : f_X12_numbers n v0 h = some h1) : gx_Cw mX12_numbers al [.ref v0] (gi_cv h) (.inl none) (gi_cv h1) := by
  refine gx_enter (by decide +kernel) rfl (Nat.le_of_ble_eq_true rfl) ?_
  show gx_Z mX12_numbers al al 0 0 0 [(0, .ref v0)] [] (gi_cv h) (.inl none) (gi_cv h1)
  refine gx_aload_n dX12_numbers_0 rfl 0 rfl ?_
  refine gy_iconst dX12_numbers_1 ?_
  refine gx_bE e (fun h1 hh1 e => ?_)
  refine gy_qI hh1 dX12_numbers_2 gf_RX12_221_10_25 (by decide) gkN_10_25 rfl (Or.inl rfl) ?_
  refine gy_iconst dX12_numbers_5 ?_
  refine gx_istore_n (ls2 := [(1, .int (gI (0 : Int))), (0, .ref v0)]) dX12_numbers_6 rfl (Nat.le_of_ble_eq_true rfl) rfl ?_
  refine gx_sub (ls2 := [(0, .ref v0), (1, .int (gI (0 : Int)))]) [1, 0] rfl ?_
  exact zl_X12_numbers_7  n _ _ _ e
/-! X12_opens  -/
set_option maxRecDepth 100000 in
def b_X12_opens_176 (n : Nat) (r86 : Nat → Nat → Int → Int → Int → Int → Int → gi_H → Option (Int × gi_H)) (v0 : Nat) (v1 : Nat) (v2 : Int) (v6 : Int) (v7 : Int) (v8 : Int) (v9 : Int) (s0 : Nat) (s1 : Int) (s2 : Int) (s3 : Int) (h : gi_H) : Option (Int × gi_H) :=
  Option.bind (gi_s1 h s0 s1 (gi_or s2 s3)) fun h45 => gx_nm (v9 + (1 : Int)) fun t46 => r86 v0 v1 v2 v6 v7 v8 t46 h45
set_option maxRecDepth 100000 in
theorem zb_X12_opens_176 {al : Bool} {n : Nat} {r86 : Nat → Nat → Int → Int → Int → Int → Int → gi_H → Option (Int × gi_H)} {res : Int} {h1 : gi_H} (hr86 : ∀ (x0 : Nat) (x1 : Nat) (x2 : Int) (x6 : Int) (x7 : Int) (x8 : Int) (x9 : Int) (hh : gi_H), r86 x0 x1 x2 x6 x7 x8 x9 hh = some (res, h1) → gx_Z mX12_opens al al 0 0 86 [(0, .ref x0), (1, .ref x1), (2, .int (gI x2)), (6, .int (gI x6)), (7, .int (gI x7)), (8, .int (gI x8)), (9, .int (gI x9))] [] (gi_cv hh) (.inl (some (.int (gI res)))) (gi_cv h1)) {v0 : Nat} {v1 : Nat} {v2 : Int} {v6 : Int} {v7 : Int} {v8 : Int} {v9 : Int} {s0 : Nat} {s1 : Int} {s2 : Int} {s3 : Int} {h : gi_H} (e : b_X12_opens_176 n r86 v0 v1 v2 v6 v7 v8 v9 s0 s1 s2 s3 h = some (res, h1)) : gx_Z mX12_opens al al 0 0 176 [(0, .ref v0), (1, .ref v1), (2, .int (gI v2)), (6, .int (gI v6)), (7, .int (gI v7)), (8, .int (gI v8)), (9, .int (gI v9))] [.int (gI s3), .int (gI s2), .int (gI s1), .ref s0] (gi_cv h) (.inl (some (.int (gI res)))) (gi_cv h1) := by
  refine gy_ior dX12_opens_176 ?_
  refine gx_bE e (fun h45 hh45 e => ?_)
  refine gy_t1 hh45 dX12_opens_177 ?_
  refine gx_nE e (fun t46 ht46 e => ?_)
  refine gy_iinc (v := t46) (ls2 := [(9, .int (gI t46)), (0, .ref v0), (1, .ref v1), (2, .int (gI v2)), (6, .int (gI v6)), (7, .int (gI v7)), (8, .int (gI v8))]) dX12_opens_178 6 rfl ht46 (Nat.le_of_ble_eq_true rfl) rfl ?_
  refine gx_goto (tgt := 86) dX12_opens_181 (by decide) ?_
  refine gx_sub (ls2 := [(0, .ref v0), (1, .ref v1), (2, .int (gI v2)), (6, .int (gI v6)), (7, .int (gI v7)), (8, .int (gI v8)), (9, .int (gI t46))]) [1, 2, 3, 4, 5, 6, 0] rfl ?_
  exact hr86 _ _ _ _ _ _ _ _ e
set_option maxRecDepth 100000 in
def b_X12_opens_149 (n : Nat) (r86 : Nat → Nat → Int → Int → Int → Int → Int → gi_H → Option (Int × gi_H)) (v0 : Nat) (v1 : Nat) (v2 : Int) (v6 : Int) (v7 : Int) (v9 : Int) (v10 : Int) (s0 : Int) (h : gi_H) : Option (Int × gi_H) :=
  Option.bind (gi_aI h 1 v1 v10) fun t39 => Option.bind (gi_is h v0 10) fun _ => Option.bind (f_X12_lead v0 v9 h) fun q41 => Option.bind (gi_rg q41) fun _ => Option.bind (gi_rg (v6 - (16 : Int))) fun _ => if q41 = (v6 - (16 : Int)) then (b_X12_opens_176 n r86 v0 v1 v2 v6 v7 s0 v9 v1 v10 t39 v7 h) else (b_X12_opens_176 n r86 v0 v1 v2 v6 v7 s0 v9 v1 v10 t39 (0 : Int) h)
set_option maxRecDepth 100000 in
theorem zb_X12_opens_149 {al : Bool} {n : Nat} {r86 : Nat → Nat → Int → Int → Int → Int → Int → gi_H → Option (Int × gi_H)} {res : Int} {h1 : gi_H} (hr86 : ∀ (x0 : Nat) (x1 : Nat) (x2 : Int) (x6 : Int) (x7 : Int) (x8 : Int) (x9 : Int) (hh : gi_H), r86 x0 x1 x2 x6 x7 x8 x9 hh = some (res, h1) → gx_Z mX12_opens al al 0 0 86 [(0, .ref x0), (1, .ref x1), (2, .int (gI x2)), (6, .int (gI x6)), (7, .int (gI x7)), (8, .int (gI x8)), (9, .int (gI x9))] [] (gi_cv hh) (.inl (some (.int (gI res)))) (gi_cv h1)) {v0 : Nat} {v1 : Nat} {v2 : Int} {v6 : Int} {v7 : Int} {v9 : Int} {v10 : Int} {s0 : Int} {h : gi_H} (e : b_X12_opens_149 n r86 v0 v1 v2 v6 v7 v9 v10 s0 h = some (res, h1)) : gx_Z mX12_opens al al 0 0 149 [(0, .ref v0), (1, .ref v1), (2, .int (gI v2)), (6, .int (gI v6)), (7, .int (gI v7)), (9, .int (gI v9)), (10, .int (gI v10))] [.int (gI s0)] (gi_cv h) (.inl (some (.int (gI res)))) (gi_cv h1) := by
  refine gx_istore (ls2 := [(8, .int (gI s0)), (0, .ref v0), (1, .ref v1), (2, .int (gI v2)), (6, .int (gI v6)), (7, .int (gI v7)), (9, .int (gI v9)), (10, .int (gI v10))]) dX12_opens_149 (Nat.le_of_ble_eq_true rfl) rfl ?_
  refine gx_aload_n dX12_opens_151 rfl 2 rfl ?_
  refine gx_iload dX12_opens_152 7 rfl ?_
  refine gx_dup2 dX12_opens_154 rfl rfl ?_
  refine gx_bE e (fun t39 ht39 e => ?_)
  refine gy_l1 ht39 dX12_opens_155 ?_
  refine gx_aload_n dX12_opens_156 rfl 1 rfl ?_
  refine gx_iload dX12_opens_157 6 rfl ?_
  refine gx_bE e (fun _ hu40 e => ?_)
  refine gx_bE e (fun q41 hq41 e => ?_)
  refine gx_callV (n := 1) (st := [.int (gI t39), .int (gI v10), .ref v1]) (As := [.int (gI v9)]) (b := v0) dX12_opens_159 (z_X12_lead hq41) rfl ⟨rfl, gw_cw_X12_lead, gw_14, gp_X12_lead, ⟨Nat.le_of_ble_eq_true rfl, Nat.le_of_ble_eq_true rfl⟩⟩ (gi_isS hu40) (by decide) gw_1595 gw_1597 gs_74 rfl ⟨Nat.le_of_ble_eq_true rfl, Nat.le_of_ble_eq_true rfl⟩ (Nat.le_of_ble_eq_true rfl) (gy_k1 (x := .int (gI q41)) (kc2 := 0) (ks2 := 0) ⟨rfl, rfl⟩ ?_) gy_kn
  refine gx_iload dX12_opens_162 4 rfl ?_
  refine gy_bipush dX12_opens_164 gcb_16 ?_
  refine gy_isub dX12_opens_166 ?_
  refine gx_bE e (fun _ g42 e => ?_)
  refine gx_bE e (fun _ g43 e => ?_)
  refine gx_iE e (fun c44 e => ?_) (fun c44 e => ?_)
  · refine gy_icmp_ne (tgt := 175) (gi_rgS g42) (gi_rgS g43) dX12_opens_167 (by decide) (fun z => absurd c44 z) (fun _ => ?_)
    refine gx_iload dX12_opens_170 5 rfl ?_
    refine gx_goto (tgt := 176) dX12_opens_172 (by decide) ?_
    refine gx_sub (ls2 := [(0, .ref v0), (1, .ref v1), (2, .int (gI v2)), (6, .int (gI v6)), (7, .int (gI v7)), (8, .int (gI s0)), (9, .int (gI v9))]) [1, 2, 3, 4, 5, 0, 6] rfl ?_
    exact zb_X12_opens_176 hr86 e
  · refine gy_icmp_ne (tgt := 175) (gi_rgS g42) (gi_rgS g43) dX12_opens_167 (by decide) (fun _ => ?_) (fun z => absurd z c44)
    refine gy_iconst dX12_opens_175 ?_
    refine gx_sub (ls2 := [(0, .ref v0), (1, .ref v1), (2, .int (gI v2)), (6, .int (gI v6)), (7, .int (gI v7)), (8, .int (gI s0)), (9, .int (gI v9))]) [1, 2, 3, 4, 5, 0, 6] rfl ?_
    exact zb_X12_opens_176 hr86 e
set_option maxRecDepth 100000 in
def b_X12_opens_148 (n : Nat) (r86 : Nat → Nat → Int → Int → Int → Int → Int → gi_H → Option (Int × gi_H)) (v0 : Nat) (v1 : Nat) (v2 : Int) (v6 : Int) (v7 : Int) (v9 : Int) (v10 : Int)  (h : gi_H) : Option (Int × gi_H) :=
  b_X12_opens_149 n r86 v0 v1 v2 v6 v7 v9 v10 (0 : Int) h
set_option maxRecDepth 100000 in
theorem zb_X12_opens_148 {al : Bool} {n : Nat} {r86 : Nat → Nat → Int → Int → Int → Int → Int → gi_H → Option (Int × gi_H)} {res : Int} {h1 : gi_H} (hr86 : ∀ (x0 : Nat) (x1 : Nat) (x2 : Int) (x6 : Int) (x7 : Int) (x8 : Int) (x9 : Int) (hh : gi_H), r86 x0 x1 x2 x6 x7 x8 x9 hh = some (res, h1) → gx_Z mX12_opens al al 0 0 86 [(0, .ref x0), (1, .ref x1), (2, .int (gI x2)), (6, .int (gI x6)), (7, .int (gI x7)), (8, .int (gI x8)), (9, .int (gI x9))] [] (gi_cv hh) (.inl (some (.int (gI res)))) (gi_cv h1)) {v0 : Nat} {v1 : Nat} {v2 : Int} {v6 : Int} {v7 : Int} {v9 : Int} {v10 : Int}  {h : gi_H} (e : b_X12_opens_148 n r86 v0 v1 v2 v6 v7 v9 v10 h = some (res, h1)) : gx_Z mX12_opens al al 0 0 148 [(0, .ref v0), (1, .ref v1), (2, .int (gI v2)), (6, .int (gI v6)), (7, .int (gI v7)), (9, .int (gI v9)), (10, .int (gI v10))] [] (gi_cv h) (.inl (some (.int (gI res)))) (gi_cv h1) := by
  refine gy_iconst dX12_opens_148 ?_
  exact zb_X12_opens_149 hr86 e
set_option maxRecDepth 100000 in
def b_X12_opens_144 (n : Nat) (r86 : Nat → Nat → Int → Int → Int → Int → Int → gi_H → Option (Int × gi_H)) (v0 : Nat) (v1 : Nat) (v2 : Int) (v6 : Int) (v7 : Int) (v9 : Int) (v10 : Int)  (h : gi_H) : Option (Int × gi_H) :=
  b_X12_opens_149 n r86 v0 v1 v2 v6 v7 v9 v10 (1 : Int) h
set_option maxRecDepth 100000 in
theorem zb_X12_opens_144 {al : Bool} {n : Nat} {r86 : Nat → Nat → Int → Int → Int → Int → Int → gi_H → Option (Int × gi_H)} {res : Int} {h1 : gi_H} (hr86 : ∀ (x0 : Nat) (x1 : Nat) (x2 : Int) (x6 : Int) (x7 : Int) (x8 : Int) (x9 : Int) (hh : gi_H), r86 x0 x1 x2 x6 x7 x8 x9 hh = some (res, h1) → gx_Z mX12_opens al al 0 0 86 [(0, .ref x0), (1, .ref x1), (2, .int (gI x2)), (6, .int (gI x6)), (7, .int (gI x7)), (8, .int (gI x8)), (9, .int (gI x9))] [] (gi_cv hh) (.inl (some (.int (gI res)))) (gi_cv h1)) {v0 : Nat} {v1 : Nat} {v2 : Int} {v6 : Int} {v7 : Int} {v9 : Int} {v10 : Int}  {h : gi_H} (e : b_X12_opens_144 n r86 v0 v1 v2 v6 v7 v9 v10 h = some (res, h1)) : gx_Z mX12_opens al al 0 0 144 [(0, .ref v0), (1, .ref v1), (2, .int (gI v2)), (6, .int (gI v6)), (7, .int (gI v7)), (9, .int (gI v9)), (10, .int (gI v10))] [] (gi_cv h) (.inl (some (.int (gI res)))) (gi_cv h1) := by
  refine gy_iconst dX12_opens_144 ?_
  refine gx_goto (tgt := 149) dX12_opens_145 (by decide) ?_
  exact zb_X12_opens_149 hr86 e
set_option maxRecDepth 100000 in
def b_X12_opens_86 (n : Nat) (r86 : Nat → Nat → Int → Int → Int → Int → Int → gi_H → Option (Int × gi_H)) (v0 : Nat) (v1 : Nat) (v2 : Int) (v6 : Int) (v7 : Int) (v8 : Int) (v9 : Int)  (h : gi_H) : Option (Int × gi_H) :=
  Option.bind (gi_gR h v0 10 3) fun t17 => Option.bind (gi_gI h v0 10 9) fun t18 => Option.bind (gi_aI h 1 t17 t18) fun t19 => Option.bind (gi_rg v9) fun _ => Option.bind (gi_rg t19) fun _ => if t19 ≤ v9 then (Option.bind (gi_zo v8) fun _ => some (v8, h)) else (Option.bind (gi_gR h v0 10 24) fun t24 => Option.bind (gi_aI h 1 t24 v9) fun t25 => gx_nm (v2 + t25) fun t26 => Option.bind (gi_rg v8) fun _ => if v8 = 0 then (Option.bind (gi_is h v0 10) fun _ => Option.bind (f_X12_lead v0 v9 h) fun q30 => Option.bind (gi_rg q30) fun _ => Option.bind (gi_rg (v6 - (16 : Int))) fun _ => if q30 = (v6 - (16 : Int)) then (Option.bind (gi_aI h 1 v1 t26) fun t34 => Option.bind (gi_aI h 1 v1 t26) fun t35 => Option.bind (gi_rg (gi_or t34 v7)) fun _ => Option.bind (gi_rg t35) fun _ => if (gi_or t34 v7) = t35 then (b_X12_opens_148 n r86 v0 v1 v2 v6 v7 v9 t26 h) else (b_X12_opens_144 n r86 v0 v1 v2 v6 v7 v9 t26 h)) else (b_X12_opens_148 n r86 v0 v1 v2 v6 v7 v9 t26 h)) else (b_X12_opens_144 n r86 v0 v1 v2 v6 v7 v9 t26 h))
set_option maxRecDepth 100000 in
theorem zb_X12_opens_86 {al : Bool} {n : Nat} {r86 : Nat → Nat → Int → Int → Int → Int → Int → gi_H → Option (Int × gi_H)} {res : Int} {h1 : gi_H} (hr86 : ∀ (x0 : Nat) (x1 : Nat) (x2 : Int) (x6 : Int) (x7 : Int) (x8 : Int) (x9 : Int) (hh : gi_H), r86 x0 x1 x2 x6 x7 x8 x9 hh = some (res, h1) → gx_Z mX12_opens al al 0 0 86 [(0, .ref x0), (1, .ref x1), (2, .int (gI x2)), (6, .int (gI x6)), (7, .int (gI x7)), (8, .int (gI x8)), (9, .int (gI x9))] [] (gi_cv hh) (.inl (some (.int (gI res)))) (gi_cv h1)) {v0 : Nat} {v1 : Nat} {v2 : Int} {v6 : Int} {v7 : Int} {v8 : Int} {v9 : Int}  {h : gi_H} (e : b_X12_opens_86 n r86 v0 v1 v2 v6 v7 v8 v9 h = some (res, h1)) : gx_Z mX12_opens al al 0 0 86 [(0, .ref v0), (1, .ref v1), (2, .int (gI v2)), (6, .int (gI v6)), (7, .int (gI v7)), (8, .int (gI v8)), (9, .int (gI v9))] [] (gi_cv h) (.inl (some (.int (gI res)))) (gi_cv h1) := by
  refine gx_iload dX12_opens_86 6 rfl ?_
  refine gx_aload_n dX12_opens_88 rfl 0 rfl ?_
  refine gx_bE e (fun t17 ht17 e => ?_)
  refine gy_fR ht17 dX12_opens_89 gf_RX12_19_10_3 (by decide) gkN_10_3 gkR_10_3 ?_
  refine gx_aload_n dX12_opens_92 rfl 0 rfl ?_
  refine gx_bE e (fun t18 ht18 e => ?_)
  refine gy_fI ht18 dX12_opens_93 gf_RX12_139_10_9 (by decide) gkN_10_9 gkR_10_9 ?_
  refine gx_bE e (fun t19 ht19 e => ?_)
  refine gy_l1 ht19 dX12_opens_96 ?_
  refine gx_bE e (fun _ g20 e => ?_)
  refine gx_bE e (fun _ g21 e => ?_)
  refine gx_iE e (fun c22 e => ?_) (fun c22 e => ?_)
  · refine gy_icmp_ge (tgt := 184) (gi_rgS g20) (gi_rgS g21) dX12_opens_97 (by decide) (fun _ => ?_) (fun z => absurd c22 z)
    refine gx_iload dX12_opens_184 5 rfl ?_
    refine gx_bE e (fun _ hu23 e => ?_)
    cases e
    exact gx_zret (gi_zoS hu23) dX12_opens_186 rfl ⟨Nat.le_of_ble_eq_true rfl, Nat.le_of_ble_eq_true rfl⟩ (fun z => z)
  · refine gy_icmp_ge (tgt := 184) (gi_rgS g20) (gi_rgS g21) dX12_opens_97 (by decide) (fun z => absurd z c22) (fun _ => ?_)
    refine gx_iload_n dX12_opens_100 rfl 2 rfl ?_
    refine gx_aload_n dX12_opens_101 rfl 0 rfl ?_
    refine gx_bE e (fun t24 ht24 e => ?_)
    refine gy_fR ht24 dX12_opens_102 gf_RX12_68_10_24 (by decide) gkN_10_24 gkR_10_24 ?_
    refine gx_iload dX12_opens_105 6 rfl ?_
    refine gx_bE e (fun t25 ht25 e => ?_)
    refine gy_l1 ht25 dX12_opens_107 ?_
    refine gy_iadd dX12_opens_108 ?_
    refine gx_nE e (fun t26 ht26 e => ?_)
    rw [ht26]
    refine gx_istore (ls2 := [(10, .int (gI t26)), (0, .ref v0), (1, .ref v1), (2, .int (gI v2)), (6, .int (gI v6)), (7, .int (gI v7)), (8, .int (gI v8)), (9, .int (gI v9))]) dX12_opens_109 (Nat.le_of_ble_eq_true rfl) rfl ?_
    refine gx_iload dX12_opens_111 6 rfl ?_
    refine gx_bE e (fun _ g27 e => ?_)
    refine gx_iE e (fun c28 e => ?_) (fun c28 e => ?_)
    · refine gy_if_ne (tgt := 144) (gi_rgS g27) dX12_opens_113 (by decide) (fun z => absurd c28 z) (fun _ => ?_)
      refine gx_aload_n dX12_opens_116 rfl 1 rfl ?_
      refine gx_iload dX12_opens_117 7 rfl ?_
      refine gx_bE e (fun _ hu29 e => ?_)
      refine gx_bE e (fun q30 hq30 e => ?_)
      refine gx_callV (n := 1) (st := []) (As := [.int (gI v9)]) (b := v0) dX12_opens_119 (z_X12_lead hq30) rfl ⟨rfl, gw_cw_X12_lead, gw_14, gp_X12_lead, ⟨Nat.le_of_ble_eq_true rfl, Nat.le_of_ble_eq_true rfl⟩⟩ (gi_isS hu29) (by decide) gw_1595 gw_1597 gs_74 rfl ⟨Nat.le_of_ble_eq_true rfl, Nat.le_of_ble_eq_true rfl⟩ (Nat.le_of_ble_eq_true rfl) (gy_k1 (x := .int (gI q30)) (kc2 := 0) (ks2 := 0) ⟨rfl, rfl⟩ ?_) gy_kn
      refine gx_iload dX12_opens_122 4 rfl ?_
      refine gy_bipush dX12_opens_124 gcb_16 ?_
      refine gy_isub dX12_opens_126 ?_
      refine gx_bE e (fun _ g31 e => ?_)
      refine gx_bE e (fun _ g32 e => ?_)
      refine gx_iE e (fun c33 e => ?_) (fun c33 e => ?_)
      · refine gy_icmp_ne (tgt := 148) (gi_rgS g31) (gi_rgS g32) dX12_opens_127 (by decide) (fun z => absurd c33 z) (fun _ => ?_)
        refine gx_aload_n dX12_opens_130 rfl 2 rfl ?_
        refine gx_iload dX12_opens_131 0 rfl ?_
        refine gx_bE e (fun t34 ht34 e => ?_)
        refine gy_l1 ht34 dX12_opens_133 ?_
        refine gx_iload dX12_opens_134 5 rfl ?_
        refine gy_ior dX12_opens_136 ?_
        refine gx_aload_n dX12_opens_137 rfl 2 rfl ?_
        refine gx_iload dX12_opens_138 0 rfl ?_
        refine gx_bE e (fun t35 ht35 e => ?_)
        refine gy_l1 ht35 dX12_opens_140 ?_
        refine gx_bE e (fun _ g36 e => ?_)
        refine gx_bE e (fun _ g37 e => ?_)
        refine gx_iE e (fun c38 e => ?_) (fun c38 e => ?_)
        · refine gy_icmp_eq (tgt := 148) (gi_rgS g36) (gi_rgS g37) dX12_opens_141 (by decide) (fun _ => ?_) (fun z => absurd c38 z)
          refine gx_sub (ls2 := [(0, .ref v0), (1, .ref v1), (2, .int (gI v2)), (6, .int (gI v6)), (7, .int (gI v7)), (9, .int (gI v9)), (10, .int (gI t26))]) [1, 2, 3, 4, 5, 7, 0] rfl ?_
          exact zb_X12_opens_148 hr86 e
        · refine gy_icmp_eq (tgt := 148) (gi_rgS g36) (gi_rgS g37) dX12_opens_141 (by decide) (fun z => absurd z c38) (fun _ => ?_)
          refine gx_sub (ls2 := [(0, .ref v0), (1, .ref v1), (2, .int (gI v2)), (6, .int (gI v6)), (7, .int (gI v7)), (9, .int (gI v9)), (10, .int (gI t26))]) [1, 2, 3, 4, 5, 7, 0] rfl ?_
          exact zb_X12_opens_144 hr86 e
      · refine gy_icmp_ne (tgt := 148) (gi_rgS g31) (gi_rgS g32) dX12_opens_127 (by decide) (fun _ => ?_) (fun z => absurd z c33)
        refine gx_sub (ls2 := [(0, .ref v0), (1, .ref v1), (2, .int (gI v2)), (6, .int (gI v6)), (7, .int (gI v7)), (9, .int (gI v9)), (10, .int (gI t26))]) [1, 2, 3, 4, 5, 7, 0] rfl ?_
        exact zb_X12_opens_148 hr86 e
    · refine gy_if_ne (tgt := 144) (gi_rgS g27) dX12_opens_113 (by decide) (fun _ => ?_) (fun z => absurd z c28)
      refine gx_sub (ls2 := [(0, .ref v0), (1, .ref v1), (2, .int (gI v2)), (6, .int (gI v6)), (7, .int (gI v7)), (9, .int (gI v9)), (10, .int (gI t26))]) [1, 2, 3, 4, 5, 7, 0] rfl ?_
      exact zb_X12_opens_144 hr86 e
def l_X12_opens_86 (n : Nat)  : Nat → Nat → Nat → Int → Int → Int → Int → Int → gi_H → Option (Int × gi_H)
  | 0, _, _, _, _, _, _, _, _ => none
  | k + 1, v0, v1, v2, v6, v7, v8, v9, h => b_X12_opens_86 n  (l_X12_opens_86 n  k) v0 v1 v2 v6 v7 v8 v9 h
theorem zl_X12_opens_86 {al : Bool} {n : Nat}  {res : Int} {h1 : gi_H}  : ∀ (k : Nat) (v0 : Nat) (v1 : Nat) (v2 : Int) (v6 : Int) (v7 : Int) (v8 : Int) (v9 : Int) (h : gi_H), l_X12_opens_86 n  k v0 v1 v2 v6 v7 v8 v9 h = some (res, h1) → gx_Z mX12_opens al al 0 0 86 [(0, .ref v0), (1, .ref v1), (2, .int (gI v2)), (6, .int (gI v6)), (7, .int (gI v7)), (8, .int (gI v8)), (9, .int (gI v9))] [] (gi_cv h) (.inl (some (.int (gI res)))) (gi_cv h1)
  | 0, _, _, _, _, _, _, _, _, e => gx_0E e
  | k + 1, _, _, _, _, _, _, _, _, e => zb_X12_opens_86 (n := n)  (zl_X12_opens_86  k) e
set_option maxRecDepth 100000 in
def b_X12_opens_77 (n : Nat)  (v0 : Nat) (v1 : Nat) (v2 : Int) (v6 : Int) (s0 : Int) (s1 : Int) (h : gi_H) : Option (Int × gi_H) :=
  gx_nm (gi_or s0 s1) fun t16 => l_X12_opens_86 n  n v0 v1 v2 v6 t16 (0 : Int) (0 : Int) h
set_option maxRecDepth 100000 in
theorem zb_X12_opens_77 {al : Bool} {n : Nat}  {res : Int} {h1 : gi_H}  {v0 : Nat} {v1 : Nat} {v2 : Int} {v6 : Int} {s0 : Int} {s1 : Int} {h : gi_H} (e : b_X12_opens_77 n v0 v1 v2 v6 s0 s1 h = some (res, h1)) : gx_Z mX12_opens al al 0 0 77 [(0, .ref v0), (1, .ref v1), (2, .int (gI v2)), (6, .int (gI v6))] [.int (gI s1), .int (gI s0)] (gi_cv h) (.inl (some (.int (gI res)))) (gi_cv h1) := by
  refine gy_ior dX12_opens_77 ?_
  refine gx_nE e (fun t16 ht16 e => ?_)
  rw [ht16]
  refine gx_istore (ls2 := [(7, .int (gI t16)), (0, .ref v0), (1, .ref v1), (2, .int (gI v2)), (6, .int (gI v6))]) dX12_opens_78 (Nat.le_of_ble_eq_true rfl) rfl ?_
  refine gy_iconst dX12_opens_80 ?_
  refine gx_istore (ls2 := [(8, .int (gI (0 : Int))), (7, .int (gI t16)), (0, .ref v0), (1, .ref v1), (2, .int (gI v2)), (6, .int (gI v6))]) dX12_opens_81 (Nat.le_of_ble_eq_true rfl) rfl ?_
  refine gy_iconst dX12_opens_83 ?_
  refine gx_istore (ls2 := [(9, .int (gI (0 : Int))), (8, .int (gI (0 : Int))), (7, .int (gI t16)), (0, .ref v0), (1, .ref v1), (2, .int (gI v2)), (6, .int (gI v6))]) dX12_opens_84 (Nat.le_of_ble_eq_true rfl) rfl ?_
  refine gx_sub (ls2 := [(0, .ref v0), (1, .ref v1), (2, .int (gI v2)), (6, .int (gI v6)), (7, .int (gI t16)), (8, .int (gI (0 : Int))), (9, .int (gI (0 : Int)))]) [3, 4, 5, 6, 2, 1, 0] rfl ?_
  exact zl_X12_opens_86  n _ _ _ _ _ _ _ _ e
set_option maxRecDepth 100000 in
def f_X12_opens (n : Nat) (v0 : Nat) (v1 : Nat) (v2 : Int) (v3 : Int) (v4 : Int) (h : gi_H) : Option (Int × gi_H) :=
  Option.bind (gi_gR h v0 10 24) fun t1 => Option.bind (gi_aI h 1 t1 v3) fun t2 => Option.bind (gi_aI h 1 v1 ((v2 + t2) + v4)) fun t3 => Option.bind (gi_is h v0 10) fun _ => Option.bind (f_X12_symbol v0 v3 v4 h) fun q5 => Option.bind (gi_rg (gi_and t3 (512 : Int))) fun _ => if (gi_and t3 (512 : Int)) = 0 then (some ((0 : Int), h)) else (Option.bind (gi_rg q5) fun _ => if (16 : Int) ≤ q5 then (Option.bind (gi_is h v0 10) fun _ => Option.bind (f_X12_firstFrom n v0 v3 (v4 + (1 : Int)) h) fun q11 => Option.bind (gi_is h v0 10) fun _ => Option.bind (f_X12_isEmptyFrom n v0 v3 (v4 + (1 : Int)) h) fun q13 => Option.bind (gi_rg q13) fun _ => if q13 = 0 then (b_X12_opens_77 n  v0 v1 v2 q5 (gi_or (512 : Int) q11) (0 : Int) h) else (b_X12_opens_77 n  v0 v1 v2 q5 (gi_or (512 : Int) q11) (gi_and t3 (511 : Int)) h)) else (some ((0 : Int), h)))
set_option maxRecDepth 100000 in
theorem z_X12_opens {al : Bool} {n : Nat} {v0 : Nat} {v1 : Nat} {v2 : Int} {v3 : Int} {v4 : Int} {h : gi_H} {res : Int} {h1 : gi_H} (e : f_X12_opens n v0 v1 v2 v3 v4 h = some (res, h1)) : gx_Cw mX12_opens al [.ref v0, .ref v1, .int (gI v2), .int (gI v3), .int (gI v4)] (gi_cv h) (.inl (some (.int (gI res)))) (gi_cv h1) := by
  refine gx_enter (by decide +kernel) rfl (Nat.le_of_ble_eq_true rfl) ?_
  show gx_Z mX12_opens al al 0 0 0 [(0, .ref v0), (1, .ref v1), (2, .int (gI v2)), (3, .int (gI v3)), (4, .int (gI v4))] [] (gi_cv h) (.inl (some (.int (gI res)))) (gi_cv h1)
  refine gx_aload_n dX12_opens_0 rfl 1 rfl ?_
  refine gx_iload_n dX12_opens_1 rfl 2 rfl ?_
  refine gx_aload_n dX12_opens_2 rfl 0 rfl ?_
  refine gx_bE e (fun t1 ht1 e => ?_)
  refine gy_fR ht1 dX12_opens_3 gf_RX12_68_10_24 (by decide) gkN_10_24 gkR_10_24 ?_
  refine gx_iload_n dX12_opens_6 rfl 3 rfl ?_
  refine gx_bE e (fun t2 ht2 e => ?_)
  refine gy_l1 ht2 dX12_opens_7 ?_
  refine gy_iadd dX12_opens_8 ?_
  refine gx_iload dX12_opens_9 4 rfl ?_
  refine gy_iadd dX12_opens_11 ?_
  refine gx_bE e (fun t3 ht3 e => ?_)
  refine gy_l1 ht3 dX12_opens_12 ?_
  refine gx_istore (ls2 := [(5, .int (gI t3)), (0, .ref v0), (1, .ref v1), (2, .int (gI v2)), (3, .int (gI v3)), (4, .int (gI v4))]) dX12_opens_13 (Nat.le_of_ble_eq_true rfl) rfl ?_
  refine gx_aload_n dX12_opens_15 rfl 1 rfl ?_
  refine gx_iload_n dX12_opens_16 rfl 4 rfl ?_
  refine gx_iload dX12_opens_17 5 rfl ?_
  refine gx_bE e (fun _ hu4 e => ?_)
  refine gx_bE e (fun q5 hq5 e => ?_)
  refine gx_callV (n := 2) (st := []) (As := [.int (gI v3), .int (gI v4)]) (b := v0) dX12_opens_19 (z_X12_symbol hq5) rfl ⟨rfl, gw_cw_X12_symbol, gw_14, gp_X12_symbol, ⟨Nat.le_of_ble_eq_true rfl, Nat.le_of_ble_eq_true rfl⟩⟩ (gi_isS hu4) (by decide) gw_1575 gw_1577 gs_70 rfl ⟨Nat.le_of_ble_eq_true rfl, Nat.le_of_ble_eq_true rfl⟩ (Nat.le_of_ble_eq_true rfl) (gy_k1 (x := .int (gI q5)) (kc2 := 0) (ks2 := 0) ⟨rfl, rfl⟩ ?_) gy_kn
  refine gx_istore (ls2 := [(6, .int (gI q5)), (5, .int (gI t3)), (0, .ref v0), (1, .ref v1), (2, .int (gI v2)), (3, .int (gI v3)), (4, .int (gI v4))]) dX12_opens_22 (Nat.le_of_ble_eq_true rfl) rfl ?_
  refine gx_iload dX12_opens_24 1 rfl ?_
  refine gy_sipush dX12_opens_26 gcs_512 ?_
  refine gy_iand dX12_opens_29 ?_
  refine gx_bE e (fun _ g6 e => ?_)
  refine gx_iE e (fun c7 e => ?_) (fun c7 e => ?_)
  · refine gy_if_eq (tgt := 40) (gi_rgS g6) dX12_opens_30 (by decide) (fun _ => ?_) (fun z => absurd c7 z)
    refine gy_iconst dX12_opens_40 ?_
    cases e
    exact gx_zret (by decide +kernel) dX12_opens_41 rfl ⟨Nat.le_of_ble_eq_true rfl, Nat.le_of_ble_eq_true rfl⟩ (fun z => z)
  · refine gy_if_eq (tgt := 40) (gi_rgS g6) dX12_opens_30 (by decide) (fun z => absurd z c7) (fun _ => ?_)
    refine gx_iload dX12_opens_33 0 rfl ?_
    refine gy_bipush dX12_opens_35 gcb_16 ?_
    refine gx_bE e (fun _ g8 e => ?_)
    refine gx_iE e (fun c9 e => ?_) (fun c9 e => ?_)
    · refine gy_icmp_ge (tgt := 42) (gi_rgS g8) (by decide) dX12_opens_37 (by decide) (fun _ => ?_) (fun z => absurd c9 z)
      refine gy_sipush dX12_opens_42 gcs_512 ?_
      refine gx_aload_n dX12_opens_45 rfl 2 rfl ?_
      refine gx_iload_n dX12_opens_46 rfl 5 rfl ?_
      refine gx_iload dX12_opens_47 6 rfl ?_
      refine gy_iconst dX12_opens_49 ?_
      refine gy_iadd dX12_opens_50 ?_
      refine gx_bE e (fun _ hu10 e => ?_)
      refine gx_bE e (fun q11 hq11 e => ?_)
      refine gx_callV (n := 2) (st := [.int (gI (512 : Int))]) (As := [.int (gI v3), .int (gI (v4 + (1 : Int)))]) (b := v0) dX12_opens_51 (z_X12_firstFrom hq11) rfl ⟨rfl, gw_cw_X12_firstFrom, gw_14, gp_X12_firstFrom, ⟨Nat.le_of_ble_eq_true rfl, Nat.le_of_ble_eq_true rfl⟩⟩ (gi_isS hu10) (by decide) gw_1599 gw_1601 gs_75 rfl ⟨Nat.le_of_ble_eq_true rfl, Nat.le_of_ble_eq_true rfl⟩ (Nat.le_of_ble_eq_true rfl) (gy_k1 (x := .int (gI q11)) (kc2 := 0) (ks2 := 0) ⟨rfl, rfl⟩ ?_) gy_kn
      refine gy_ior dX12_opens_54 ?_
      refine gx_aload_n dX12_opens_55 rfl 2 rfl ?_
      refine gx_iload_n dX12_opens_56 rfl 5 rfl ?_
      refine gx_iload dX12_opens_57 6 rfl ?_
      refine gy_iconst dX12_opens_59 ?_
      refine gy_iadd dX12_opens_60 ?_
      refine gx_bE e (fun _ hu12 e => ?_)
      refine gx_bE e (fun q13 hq13 e => ?_)
      refine gx_callV (n := 2) (st := [.int (gI (gi_or (512 : Int) q11))]) (As := [.int (gI v3), .int (gI (v4 + (1 : Int)))]) (b := v0) dX12_opens_61 (z_X12_isEmptyFrom hq13) rfl ⟨rfl, gw_cw_X12_isEmptyFrom, gw_14, gp_X12_isEmptyFrom, ⟨Nat.le_of_ble_eq_true rfl, Nat.le_of_ble_eq_true rfl⟩⟩ (gi_isS hu12) (by decide) gw_1603 gw_1605 gs_76 rfl ⟨Nat.le_of_ble_eq_true rfl, Nat.le_of_ble_eq_true rfl⟩ (Nat.le_of_ble_eq_true rfl) (gy_k1 (x := .int (gI q13)) (kc2 := 0) (ks2 := 0) ⟨rfl, rfl⟩ ?_) gy_kn
      refine gx_bE e (fun _ g14 e => ?_)
      refine gx_iE e (fun c15 e => ?_) (fun c15 e => ?_)
      · refine gy_if_eq (tgt := 76) (gi_rgS g14) dX12_opens_64 (by decide) (fun _ => ?_) (fun z => absurd c15 z)
        refine gy_iconst dX12_opens_76 ?_
        refine gx_sub (ls2 := [(0, .ref v0), (1, .ref v1), (2, .int (gI v2)), (6, .int (gI q5))]) [2, 3, 4, 0] rfl ?_
        exact zb_X12_opens_77  e
      · refine gy_if_eq (tgt := 76) (gi_rgS g14) dX12_opens_64 (by decide) (fun z => absurd z c15) (fun _ => ?_)
        refine gx_iload dX12_opens_67 1 rfl ?_
        refine gy_sipush dX12_opens_69 gcs_511 ?_
        refine gy_iand dX12_opens_72 ?_
        refine gx_goto (tgt := 77) dX12_opens_73 (by decide) ?_
        refine gx_sub (ls2 := [(0, .ref v0), (1, .ref v1), (2, .int (gI v2)), (6, .int (gI q5))]) [2, 3, 4, 0] rfl ?_
        exact zb_X12_opens_77  e
    · refine gy_icmp_ge (tgt := 42) (gi_rgS g8) (by decide) dX12_opens_37 (by decide) (fun z => absurd z c9) (fun _ => ?_)
      refine gy_iconst dX12_opens_40 ?_
      cases e
      exact gx_zret (by decide +kernel) dX12_opens_41 rfl ⟨Nat.le_of_ble_eq_true rfl, Nat.le_of_ble_eq_true rfl⟩ (fun z => z)
/-! X12_opensAll  -/
set_option maxRecDepth 100000 in
def b_X12_opensAll_84 (n : Nat)    (h : gi_H) : Option (Int × gi_H) :=
  some ((1 : Int), h)
set_option maxRecDepth 100000 in
theorem zb_X12_opensAll_84 {al : Bool} {n : Nat}  {res : Int} {h1 : gi_H}    {h : gi_H} (e : b_X12_opensAll_84 n  h = some (res, h1)) : gx_Z mX12_opensAll al al 0 0 84 [] [] (gi_cv h) (.inl (some (.int (gI res)))) (gi_cv h1) := by
  refine gy_iconst dX12_opensAll_84 ?_
  refine gx_goto (tgt := 89) dX12_opensAll_85 (by decide) ?_
  cases e
  exact gx_zret (by decide +kernel) dX12_opensAll_89 rfl ⟨Nat.le_of_ble_eq_true rfl, Nat.le_of_ble_eq_true rfl⟩ (fun z => z)
set_option maxRecDepth 100000 in
def b_X12_opensAll_68 (n : Nat)  (v0 : Nat) (v1 : Nat) (v2 : Int) (v3 : Int)  (h : gi_H) : Option (Int × gi_H) :=
  Option.bind (gi_is h v0 10) fun _ => Option.bind (f_X12_opens n v0 v1 v2 (24 : Int) (0 : Int) h) fun q8 => Option.bind (gi_rg q8.1) fun _ => if q8.1 = 0 then (Option.bind (gi_rg v3) fun _ => if v3 = 0 then (some ((0 : Int), q8.2)) else (b_X12_opensAll_84 n   q8.2)) else (b_X12_opensAll_84 n   q8.2)
set_option maxRecDepth 100000 in
theorem zb_X12_opensAll_68 {al : Bool} {n : Nat}  {res : Int} {h1 : gi_H}  {v0 : Nat} {v1 : Nat} {v2 : Int} {v3 : Int}  {h : gi_H} (e : b_X12_opensAll_68 n v0 v1 v2 v3 h = some (res, h1)) : gx_Z mX12_opensAll al al 0 0 68 [(0, .ref v0), (1, .ref v1), (2, .int (gI v2)), (3, .int (gI v3))] [] (gi_cv h) (.inl (some (.int (gI res)))) (gi_cv h1) := by
  refine gx_aload_n dX12_opensAll_68 rfl 0 rfl ?_
  refine gx_aload_n dX12_opensAll_69 rfl 1 rfl ?_
  refine gx_iload_n dX12_opensAll_70 rfl 2 rfl ?_
  refine gy_bipush dX12_opensAll_71 gcb_24 ?_
  refine gy_iconst dX12_opensAll_73 ?_
  refine gx_bE e (fun _ hu7 e => ?_)
  refine gx_bE e (fun q8 hq8 e => ?_)
  refine gx_callV (n := 4) (st := []) (As := [.ref v1, .int (gI v2), .int (gI (24 : Int)), .int (gI (0 : Int))]) (b := v0) dX12_opensAll_74 (z_X12_opens hq8) rfl ⟨rfl, gw_cw_X12_opens, gw_14, gp_X12_opens, ⟨Nat.le_of_ble_eq_true rfl, Nat.le_of_ble_eq_true rfl⟩⟩ (gi_isS hu7) (by decide) gw_1676 gw_1678 gs_86 rfl ⟨Nat.le_of_ble_eq_true rfl, Nat.le_of_ble_eq_true rfl⟩ (Nat.le_of_ble_eq_true rfl) (gy_k1 (x := .int (gI q8.1)) (kc2 := 0) (ks2 := 0) ⟨rfl, rfl⟩ ?_) gy_kn
  refine gx_bE e (fun _ g9 e => ?_)
  refine gx_iE e (fun c10 e => ?_) (fun c10 e => ?_)
  · refine gy_if_ne (tgt := 84) (gi_rgS g9) dX12_opensAll_77 (by decide) (fun z => absurd c10 z) (fun _ => ?_)
    refine gx_iload_n dX12_opensAll_80 rfl 3 rfl ?_
    refine gx_bE e (fun _ g11 e => ?_)
    refine gx_iE e (fun c12 e => ?_) (fun c12 e => ?_)
    · refine gy_if_eq (tgt := 88) (gi_rgS g11) dX12_opensAll_81 (by decide) (fun _ => ?_) (fun z => absurd c12 z)
      refine gy_iconst dX12_opensAll_88 ?_
      cases e
      exact gx_zret (by decide +kernel) dX12_opensAll_89 rfl ⟨Nat.le_of_ble_eq_true rfl, Nat.le_of_ble_eq_true rfl⟩ (fun z => z)
    · refine gy_if_eq (tgt := 88) (gi_rgS g11) dX12_opensAll_81 (by decide) (fun z => absurd z c12) (fun _ => ?_)
      refine gx_sub (ls2 := []) [] rfl ?_
      exact zb_X12_opensAll_84  e
  · refine gy_if_ne (tgt := 84) (gi_rgS g9) dX12_opensAll_77 (by decide) (fun _ => ?_) (fun z => absurd z c10)
    refine gx_sub (ls2 := []) [] rfl ?_
    exact zb_X12_opensAll_84  e
set_option maxRecDepth 100000 in
def b_X12_opensAll_62 (n : Nat) (r5 : Nat → Nat → Int → Int → Int → gi_H → Option (Int × gi_H)) (v0 : Nat) (v1 : Nat) (v2 : Int) (v3 : Int) (v4 : Int)  (h : gi_H) : Option (Int × gi_H) :=
  gx_nm (v4 + (1 : Int)) fun t18 => r5 v0 v1 v2 v3 t18 h
set_option maxRecDepth 100000 in
theorem zb_X12_opensAll_62 {al : Bool} {n : Nat} {r5 : Nat → Nat → Int → Int → Int → gi_H → Option (Int × gi_H)} {res : Int} {h1 : gi_H} (hr5 : ∀ (x0 : Nat) (x1 : Nat) (x2 : Int) (x3 : Int) (x4 : Int) (hh : gi_H), r5 x0 x1 x2 x3 x4 hh = some (res, h1) → gx_Z mX12_opensAll al al 0 0 5 [(0, .ref x0), (1, .ref x1), (2, .int (gI x2)), (3, .int (gI x3)), (4, .int (gI x4))] [] (gi_cv hh) (.inl (some (.int (gI res)))) (gi_cv h1)) {v0 : Nat} {v1 : Nat} {v2 : Int} {v3 : Int} {v4 : Int}  {h : gi_H} (e : b_X12_opensAll_62 n r5 v0 v1 v2 v3 v4 h = some (res, h1)) : gx_Z mX12_opensAll al al 0 0 62 [(0, .ref v0), (1, .ref v1), (2, .int (gI v2)), (3, .int (gI v3)), (4, .int (gI v4))] [] (gi_cv h) (.inl (some (.int (gI res)))) (gi_cv h1) := by
  refine gx_nE e (fun t18 ht18 e => ?_)
  refine gy_iinc (v := t18) (ls2 := [(4, .int (gI t18)), (0, .ref v0), (1, .ref v1), (2, .int (gI v2)), (3, .int (gI v3))]) dX12_opensAll_62 4 rfl ht18 (Nat.le_of_ble_eq_true rfl) rfl ?_
  refine gx_goto (tgt := 5) dX12_opensAll_65 (by decide) ?_
  refine gx_sub (ls2 := [(0, .ref v0), (1, .ref v1), (2, .int (gI v2)), (3, .int (gI v3)), (4, .int (gI t18))]) [1, 2, 3, 4, 0] rfl ?_
  exact hr5 _ _ _ _ _ _ e
set_option maxRecDepth 100000 in
def b_X12_opensAll_55 (n : Nat) (r5 : Nat → Nat → Int → Int → Int → gi_H → Option (Int × gi_H)) (r22 : Nat → Nat → Int → Int → Int → Int → gi_H → Option (Int × gi_H)) (v0 : Nat) (v1 : Nat) (v2 : Int) (v4 : Int) (v5 : Int) (s0 : Int) (h : gi_H) : Option (Int × gi_H) :=
  gx_nm (v5 + (1 : Int)) fun t25 => r22 v0 v1 v2 s0 v4 t25 h
set_option maxRecDepth 100000 in
theorem zb_X12_opensAll_55 {al : Bool} {n : Nat} {r5 : Nat → Nat → Int → Int → Int → gi_H → Option (Int × gi_H)} {r22 : Nat → Nat → Int → Int → Int → Int → gi_H → Option (Int × gi_H)} {res : Int} {h1 : gi_H} (hr5 : ∀ (x0 : Nat) (x1 : Nat) (x2 : Int) (x3 : Int) (x4 : Int) (hh : gi_H), r5 x0 x1 x2 x3 x4 hh = some (res, h1) → gx_Z mX12_opensAll al al 0 0 5 [(0, .ref x0), (1, .ref x1), (2, .int (gI x2)), (3, .int (gI x3)), (4, .int (gI x4))] [] (gi_cv hh) (.inl (some (.int (gI res)))) (gi_cv h1)) (hr22 : ∀ (x0 : Nat) (x1 : Nat) (x2 : Int) (x3 : Int) (x4 : Int) (x5 : Int) (hh : gi_H), r22 x0 x1 x2 x3 x4 x5 hh = some (res, h1) → gx_Z mX12_opensAll al al 0 0 22 [(0, .ref x0), (1, .ref x1), (2, .int (gI x2)), (3, .int (gI x3)), (4, .int (gI x4)), (5, .int (gI x5))] [] (gi_cv hh) (.inl (some (.int (gI res)))) (gi_cv h1)) {v0 : Nat} {v1 : Nat} {v2 : Int} {v4 : Int} {v5 : Int} {s0 : Int} {h : gi_H} (e : b_X12_opensAll_55 n r5 r22 v0 v1 v2 v4 v5 s0 h = some (res, h1)) : gx_Z mX12_opensAll al al 0 0 55 [(0, .ref v0), (1, .ref v1), (2, .int (gI v2)), (4, .int (gI v4)), (5, .int (gI v5))] [.int (gI s0)] (gi_cv h) (.inl (some (.int (gI res)))) (gi_cv h1) := by
  refine gx_istore_n (ls2 := [(3, .int (gI s0)), (0, .ref v0), (1, .ref v1), (2, .int (gI v2)), (4, .int (gI v4)), (5, .int (gI v5))]) dX12_opensAll_55 rfl (Nat.le_of_ble_eq_true rfl) rfl ?_
  refine gx_nE e (fun t25 ht25 e => ?_)
  refine gy_iinc (v := t25) (ls2 := [(5, .int (gI t25)), (3, .int (gI s0)), (0, .ref v0), (1, .ref v1), (2, .int (gI v2)), (4, .int (gI v4))]) dX12_opensAll_56 5 rfl ht25 (Nat.le_of_ble_eq_true rfl) rfl ?_
  refine gx_goto (tgt := 22) dX12_opensAll_59 (by decide) ?_
  refine gx_sub (ls2 := [(0, .ref v0), (1, .ref v1), (2, .int (gI v2)), (3, .int (gI s0)), (4, .int (gI v4)), (5, .int (gI t25))]) [2, 3, 4, 1, 5, 0] rfl ?_
  exact hr22 _ _ _ _ _ _ _ e
set_option maxRecDepth 100000 in
def b_X12_opensAll_50 (n : Nat) (r5 : Nat → Nat → Int → Int → Int → gi_H → Option (Int × gi_H)) (r22 : Nat → Nat → Int → Int → Int → Int → gi_H → Option (Int × gi_H)) (v0 : Nat) (v1 : Nat) (v2 : Int) (v4 : Int) (v5 : Int)  (h : gi_H) : Option (Int × gi_H) :=
  b_X12_opensAll_55 n r5 r22 v0 v1 v2 v4 v5 (1 : Int) h
set_option maxRecDepth 100000 in
theorem zb_X12_opensAll_50 {al : Bool} {n : Nat} {r5 : Nat → Nat → Int → Int → Int → gi_H → Option (Int × gi_H)} {r22 : Nat → Nat → Int → Int → Int → Int → gi_H → Option (Int × gi_H)} {res : Int} {h1 : gi_H} (hr5 : ∀ (x0 : Nat) (x1 : Nat) (x2 : Int) (x3 : Int) (x4 : Int) (hh : gi_H), r5 x0 x1 x2 x3 x4 hh = some (res, h1) → gx_Z mX12_opensAll al al 0 0 5 [(0, .ref x0), (1, .ref x1), (2, .int (gI x2)), (3, .int (gI x3)), (4, .int (gI x4))] [] (gi_cv hh) (.inl (some (.int (gI res)))) (gi_cv h1)) (hr22 : ∀ (x0 : Nat) (x1 : Nat) (x2 : Int) (x3 : Int) (x4 : Int) (x5 : Int) (hh : gi_H), r22 x0 x1 x2 x3 x4 x5 hh = some (res, h1) → gx_Z mX12_opensAll al al 0 0 22 [(0, .ref x0), (1, .ref x1), (2, .int (gI x2)), (3, .int (gI x3)), (4, .int (gI x4)), (5, .int (gI x5))] [] (gi_cv hh) (.inl (some (.int (gI res)))) (gi_cv h1)) {v0 : Nat} {v1 : Nat} {v2 : Int} {v4 : Int} {v5 : Int}  {h : gi_H} (e : b_X12_opensAll_50 n r5 r22 v0 v1 v2 v4 v5 h = some (res, h1)) : gx_Z mX12_opensAll al al 0 0 50 [(0, .ref v0), (1, .ref v1), (2, .int (gI v2)), (4, .int (gI v4)), (5, .int (gI v5))] [] (gi_cv h) (.inl (some (.int (gI res)))) (gi_cv h1) := by
  refine gy_iconst dX12_opensAll_50 ?_
  refine gx_goto (tgt := 55) dX12_opensAll_51 (by decide) ?_
  exact zb_X12_opensAll_55 hr5 hr22 e
set_option maxRecDepth 100000 in
def b_X12_opensAll_22 (n : Nat) (r5 : Nat → Nat → Int → Int → Int → gi_H → Option (Int × gi_H)) (r22 : Nat → Nat → Int → Int → Int → Int → gi_H → Option (Int × gi_H)) (v0 : Nat) (v1 : Nat) (v2 : Int) (v3 : Int) (v4 : Int) (v5 : Int)  (h : gi_H) : Option (Int × gi_H) :=
  Option.bind (gi_is h v0 10) fun _ => Option.bind (f_X12_sizeOf v0 v4 h) fun q14 => Option.bind (gi_rg v5) fun _ => Option.bind (gi_rg q14) fun _ => if q14 ≤ v5 then (b_X12_opensAll_62 n r5 v0 v1 v2 v3 v4 h) else (Option.bind (gi_is h v0 10) fun _ => Option.bind (f_X12_opens n v0 v1 v2 v4 v5 h) fun q20 => Option.bind (gi_rg q20.1) fun _ => if q20.1 = 0 then (Option.bind (gi_rg v3) fun _ => if v3 = 0 then (b_X12_opensAll_55 n r5 r22 v0 v1 v2 v4 v5 (0 : Int) q20.2) else (b_X12_opensAll_50 n r5 r22 v0 v1 v2 v4 v5 q20.2)) else (b_X12_opensAll_50 n r5 r22 v0 v1 v2 v4 v5 q20.2))
set_option maxRecDepth 100000 in
theorem zb_X12_opensAll_22 {al : Bool} {n : Nat} {r5 : Nat → Nat → Int → Int → Int → gi_H → Option (Int × gi_H)} {r22 : Nat → Nat → Int → Int → Int → Int → gi_H → Option (Int × gi_H)} {res : Int} {h1 : gi_H} (hr5 : ∀ (x0 : Nat) (x1 : Nat) (x2 : Int) (x3 : Int) (x4 : Int) (hh : gi_H), r5 x0 x1 x2 x3 x4 hh = some (res, h1) → gx_Z mX12_opensAll al al 0 0 5 [(0, .ref x0), (1, .ref x1), (2, .int (gI x2)), (3, .int (gI x3)), (4, .int (gI x4))] [] (gi_cv hh) (.inl (some (.int (gI res)))) (gi_cv h1)) (hr22 : ∀ (x0 : Nat) (x1 : Nat) (x2 : Int) (x3 : Int) (x4 : Int) (x5 : Int) (hh : gi_H), r22 x0 x1 x2 x3 x4 x5 hh = some (res, h1) → gx_Z mX12_opensAll al al 0 0 22 [(0, .ref x0), (1, .ref x1), (2, .int (gI x2)), (3, .int (gI x3)), (4, .int (gI x4)), (5, .int (gI x5))] [] (gi_cv hh) (.inl (some (.int (gI res)))) (gi_cv h1)) {v0 : Nat} {v1 : Nat} {v2 : Int} {v3 : Int} {v4 : Int} {v5 : Int}  {h : gi_H} (e : b_X12_opensAll_22 n r5 r22 v0 v1 v2 v3 v4 v5 h = some (res, h1)) : gx_Z mX12_opensAll al al 0 0 22 [(0, .ref v0), (1, .ref v1), (2, .int (gI v2)), (3, .int (gI v3)), (4, .int (gI v4)), (5, .int (gI v5))] [] (gi_cv h) (.inl (some (.int (gI res)))) (gi_cv h1) := by
  refine gx_iload dX12_opensAll_22 5 rfl ?_
  refine gx_aload_n dX12_opensAll_24 rfl 0 rfl ?_
  refine gx_iload dX12_opensAll_25 4 rfl ?_
  refine gx_bE e (fun _ hu13 e => ?_)
  refine gx_bE e (fun q14 hq14 e => ?_)
  refine gx_callV (n := 1) (st := [.int (gI v5)]) (As := [.int (gI v4)]) (b := v0) dX12_opensAll_27 (z_X12_sizeOf hq14) rfl ⟨rfl, gw_cw_X12_sizeOf, gw_14, gp_X12_sizeOf, ⟨Nat.le_of_ble_eq_true rfl, Nat.le_of_ble_eq_true rfl⟩⟩ (gi_isS hu13) (by decide) gw_1579 gw_1581 gs_71 rfl ⟨Nat.le_of_ble_eq_true rfl, Nat.le_of_ble_eq_true rfl⟩ (Nat.le_of_ble_eq_true rfl) (gy_k1 (x := .int (gI q14)) (kc2 := 0) (ks2 := 0) ⟨rfl, rfl⟩ ?_) gy_kn
  refine gx_bE e (fun _ g15 e => ?_)
  refine gx_bE e (fun _ g16 e => ?_)
  refine gx_iE e (fun c17 e => ?_) (fun c17 e => ?_)
  · refine gy_icmp_ge (tgt := 62) (gi_rgS g15) (gi_rgS g16) dX12_opensAll_30 (by decide) (fun _ => ?_) (fun z => absurd c17 z)
    refine gx_sub (ls2 := [(0, .ref v0), (1, .ref v1), (2, .int (gI v2)), (3, .int (gI v3)), (4, .int (gI v4))]) [0, 1, 2, 3, 4] rfl ?_
    exact zb_X12_opensAll_62 hr5 e
  · refine gy_icmp_ge (tgt := 62) (gi_rgS g15) (gi_rgS g16) dX12_opensAll_30 (by decide) (fun z => absurd z c17) (fun _ => ?_)
    refine gx_aload_n dX12_opensAll_33 rfl 0 rfl ?_
    refine gx_aload_n dX12_opensAll_34 rfl 1 rfl ?_
    refine gx_iload_n dX12_opensAll_35 rfl 2 rfl ?_
    refine gx_iload dX12_opensAll_36 4 rfl ?_
    refine gx_iload dX12_opensAll_38 5 rfl ?_
    refine gx_bE e (fun _ hu19 e => ?_)
    refine gx_bE e (fun q20 hq20 e => ?_)
    refine gx_callV (n := 4) (st := []) (As := [.ref v1, .int (gI v2), .int (gI v4), .int (gI v5)]) (b := v0) dX12_opensAll_40 (z_X12_opens hq20) rfl ⟨rfl, gw_cw_X12_opens, gw_14, gp_X12_opens, ⟨Nat.le_of_ble_eq_true rfl, Nat.le_of_ble_eq_true rfl⟩⟩ (gi_isS hu19) (by decide) gw_1676 gw_1678 gs_86 rfl ⟨Nat.le_of_ble_eq_true rfl, Nat.le_of_ble_eq_true rfl⟩ (Nat.le_of_ble_eq_true rfl) (gy_k1 (x := .int (gI q20.1)) (kc2 := 0) (ks2 := 0) ⟨rfl, rfl⟩ ?_) gy_kn
    refine gx_bE e (fun _ g21 e => ?_)
    refine gx_iE e (fun c22 e => ?_) (fun c22 e => ?_)
    · refine gy_if_ne (tgt := 50) (gi_rgS g21) dX12_opensAll_43 (by decide) (fun z => absurd c22 z) (fun _ => ?_)
      refine gx_iload_n dX12_opensAll_46 rfl 3 rfl ?_
      refine gx_bE e (fun _ g23 e => ?_)
      refine gx_iE e (fun c24 e => ?_) (fun c24 e => ?_)
      · refine gy_if_eq (tgt := 54) (gi_rgS g23) dX12_opensAll_47 (by decide) (fun _ => ?_) (fun z => absurd c24 z)
        refine gy_iconst dX12_opensAll_54 ?_
        refine gx_sub (ls2 := [(0, .ref v0), (1, .ref v1), (2, .int (gI v2)), (4, .int (gI v4)), (5, .int (gI v5))]) [0, 1, 2, 4, 5] rfl ?_
        exact zb_X12_opensAll_55 hr5 hr22 e
      · refine gy_if_eq (tgt := 54) (gi_rgS g23) dX12_opensAll_47 (by decide) (fun z => absurd z c24) (fun _ => ?_)
        refine gx_sub (ls2 := [(0, .ref v0), (1, .ref v1), (2, .int (gI v2)), (4, .int (gI v4)), (5, .int (gI v5))]) [0, 1, 2, 4, 5] rfl ?_
        exact zb_X12_opensAll_50 hr5 hr22 e
    · refine gy_if_ne (tgt := 50) (gi_rgS g21) dX12_opensAll_43 (by decide) (fun _ => ?_) (fun z => absurd z c22)
      refine gx_sub (ls2 := [(0, .ref v0), (1, .ref v1), (2, .int (gI v2)), (4, .int (gI v4)), (5, .int (gI v5))]) [0, 1, 2, 4, 5] rfl ?_
      exact zb_X12_opensAll_50 hr5 hr22 e
def l_X12_opensAll_22 (n : Nat) (r5 : Nat → Nat → Int → Int → Int → gi_H → Option (Int × gi_H)) : Nat → Nat → Nat → Int → Int → Int → Int → gi_H → Option (Int × gi_H)
  | 0, _, _, _, _, _, _, _ => none
  | k + 1, v0, v1, v2, v3, v4, v5, h => b_X12_opensAll_22 n r5 (l_X12_opensAll_22 n r5 k) v0 v1 v2 v3 v4 v5 h
theorem zl_X12_opensAll_22 {al : Bool} {n : Nat} {r5 : Nat → Nat → Int → Int → Int → gi_H → Option (Int × gi_H)} {res : Int} {h1 : gi_H} (hr5 : ∀ (x0 : Nat) (x1 : Nat) (x2 : Int) (x3 : Int) (x4 : Int) (hh : gi_H), r5 x0 x1 x2 x3 x4 hh = some (res, h1) → gx_Z mX12_opensAll al al 0 0 5 [(0, .ref x0), (1, .ref x1), (2, .int (gI x2)), (3, .int (gI x3)), (4, .int (gI x4))] [] (gi_cv hh) (.inl (some (.int (gI res)))) (gi_cv h1)) : ∀ (k : Nat) (v0 : Nat) (v1 : Nat) (v2 : Int) (v3 : Int) (v4 : Int) (v5 : Int) (h : gi_H), l_X12_opensAll_22 n r5 k v0 v1 v2 v3 v4 v5 h = some (res, h1) → gx_Z mX12_opensAll al al 0 0 22 [(0, .ref v0), (1, .ref v1), (2, .int (gI v2)), (3, .int (gI v3)), (4, .int (gI v4)), (5, .int (gI v5))] [] (gi_cv h) (.inl (some (.int (gI res)))) (gi_cv h1)
  | 0, _, _, _, _, _, _, _, e => gx_0E e
  | k + 1, _, _, _, _, _, _, _, e => zb_X12_opensAll_22 (n := n) hr5 (zl_X12_opensAll_22 hr5 k) e
set_option maxRecDepth 100000 in
def b_X12_opensAll_5 (n : Nat) (r5 : Nat → Nat → Int → Int → Int → gi_H → Option (Int × gi_H)) (v0 : Nat) (v1 : Nat) (v2 : Int) (v3 : Int) (v4 : Int)  (h : gi_H) : Option (Int × gi_H) :=
  Option.bind (gi_gR h v0 10 3) fun t1 => Option.bind (gi_gI h v0 10 9) fun t2 => Option.bind (gi_aI h 1 t1 t2) fun t3 => Option.bind (gi_rg v4) fun _ => Option.bind (gi_rg t3) fun _ => if t3 ≤ v4 then (b_X12_opensAll_68 n  v0 v1 v2 v3 h) else (l_X12_opensAll_22 n r5 n v0 v1 v2 v3 v4 (0 : Int) h)
set_option maxRecDepth 100000 in
theorem zb_X12_opensAll_5 {al : Bool} {n : Nat} {r5 : Nat → Nat → Int → Int → Int → gi_H → Option (Int × gi_H)} {res : Int} {h1 : gi_H} (hr5 : ∀ (x0 : Nat) (x1 : Nat) (x2 : Int) (x3 : Int) (x4 : Int) (hh : gi_H), r5 x0 x1 x2 x3 x4 hh = some (res, h1) → gx_Z mX12_opensAll al al 0 0 5 [(0, .ref x0), (1, .ref x1), (2, .int (gI x2)), (3, .int (gI x3)), (4, .int (gI x4))] [] (gi_cv hh) (.inl (some (.int (gI res)))) (gi_cv h1)) {v0 : Nat} {v1 : Nat} {v2 : Int} {v3 : Int} {v4 : Int}  {h : gi_H} (e : b_X12_opensAll_5 n r5 v0 v1 v2 v3 v4 h = some (res, h1)) : gx_Z mX12_opensAll al al 0 0 5 [(0, .ref v0), (1, .ref v1), (2, .int (gI v2)), (3, .int (gI v3)), (4, .int (gI v4))] [] (gi_cv h) (.inl (some (.int (gI res)))) (gi_cv h1) := by
  refine gx_iload dX12_opensAll_5 4 rfl ?_
  refine gx_aload_n dX12_opensAll_7 rfl 0 rfl ?_
  refine gx_bE e (fun t1 ht1 e => ?_)
  refine gy_fR ht1 dX12_opensAll_8 gf_RX12_19_10_3 (by decide) gkN_10_3 gkR_10_3 ?_
  refine gx_aload_n dX12_opensAll_11 rfl 0 rfl ?_
  refine gx_bE e (fun t2 ht2 e => ?_)
  refine gy_fI ht2 dX12_opensAll_12 gf_RX12_139_10_9 (by decide) gkN_10_9 gkR_10_9 ?_
  refine gx_bE e (fun t3 ht3 e => ?_)
  refine gy_l1 ht3 dX12_opensAll_15 ?_
  refine gx_bE e (fun _ g4 e => ?_)
  refine gx_bE e (fun _ g5 e => ?_)
  refine gx_iE e (fun c6 e => ?_) (fun c6 e => ?_)
  · refine gy_icmp_ge (tgt := 68) (gi_rgS g4) (gi_rgS g5) dX12_opensAll_16 (by decide) (fun _ => ?_) (fun z => absurd c6 z)
    refine gx_sub (ls2 := [(0, .ref v0), (1, .ref v1), (2, .int (gI v2)), (3, .int (gI v3))]) [0, 1, 2, 3] rfl ?_
    exact zb_X12_opensAll_68  e
  · refine gy_icmp_ge (tgt := 68) (gi_rgS g4) (gi_rgS g5) dX12_opensAll_16 (by decide) (fun z => absurd z c6) (fun _ => ?_)
    refine gy_iconst dX12_opensAll_19 ?_
    refine gx_istore (ls2 := [(5, .int (gI (0 : Int))), (0, .ref v0), (1, .ref v1), (2, .int (gI v2)), (3, .int (gI v3)), (4, .int (gI v4))]) dX12_opensAll_20 (Nat.le_of_ble_eq_true rfl) rfl ?_
    refine gx_sub (ls2 := [(0, .ref v0), (1, .ref v1), (2, .int (gI v2)), (3, .int (gI v3)), (4, .int (gI v4)), (5, .int (gI (0 : Int)))]) [1, 2, 3, 4, 5, 0] rfl ?_
    exact zl_X12_opensAll_22 hr5 n _ _ _ _ _ _ _ e
def l_X12_opensAll_5 (n : Nat)  : Nat → Nat → Nat → Int → Int → Int → gi_H → Option (Int × gi_H)
  | 0, _, _, _, _, _, _ => none
  | k + 1, v0, v1, v2, v3, v4, h => b_X12_opensAll_5 n  (l_X12_opensAll_5 n  k) v0 v1 v2 v3 v4 h
theorem zl_X12_opensAll_5 {al : Bool} {n : Nat}  {res : Int} {h1 : gi_H}  : ∀ (k : Nat) (v0 : Nat) (v1 : Nat) (v2 : Int) (v3 : Int) (v4 : Int) (h : gi_H), l_X12_opensAll_5 n  k v0 v1 v2 v3 v4 h = some (res, h1) → gx_Z mX12_opensAll al al 0 0 5 [(0, .ref v0), (1, .ref v1), (2, .int (gI v2)), (3, .int (gI v3)), (4, .int (gI v4))] [] (gi_cv h) (.inl (some (.int (gI res)))) (gi_cv h1)
  | 0, _, _, _, _, _, _, e => gx_0E e
  | k + 1, _, _, _, _, _, _, e => zb_X12_opensAll_5 (n := n)  (zl_X12_opensAll_5  k) e
set_option maxRecDepth 100000 in
def f_X12_opensAll (n : Nat) (v0 : Nat) (v1 : Nat) (v2 : Int) (h : gi_H) : Option (Int × gi_H) :=
  l_X12_opensAll_5 n  n v0 v1 v2 (0 : Int) (0 : Int) h
set_option maxRecDepth 100000 in
theorem z_X12_opensAll {al : Bool} {n : Nat} {v0 : Nat} {v1 : Nat} {v2 : Int} {h : gi_H} {res : Int} {h1 : gi_H} (e : f_X12_opensAll n v0 v1 v2 h = some (res, h1)) : gx_Cw mX12_opensAll al [.ref v0, .ref v1, .int (gI v2)] (gi_cv h) (.inl (some (.int (gI res)))) (gi_cv h1) := by
  refine gx_enter (by decide +kernel) rfl (Nat.le_of_ble_eq_true rfl) ?_
  show gx_Z mX12_opensAll al al 0 0 0 [(0, .ref v0), (1, .ref v1), (2, .int (gI v2))] [] (gi_cv h) (.inl (some (.int (gI res)))) (gi_cv h1)
  refine gy_iconst dX12_opensAll_0 ?_
  refine gx_istore_n (ls2 := [(3, .int (gI (0 : Int))), (0, .ref v0), (1, .ref v1), (2, .int (gI v2))]) dX12_opensAll_1 rfl (Nat.le_of_ble_eq_true rfl) rfl ?_
  refine gy_iconst dX12_opensAll_2 ?_
  refine gx_istore (ls2 := [(4, .int (gI (0 : Int))), (3, .int (gI (0 : Int))), (0, .ref v0), (1, .ref v1), (2, .int (gI v2))]) dX12_opensAll_3 (Nat.le_of_ble_eq_true rfl) rfl ?_
  refine gx_sub (ls2 := [(0, .ref v0), (1, .ref v1), (2, .int (gI v2)), (3, .int (gI (0 : Int))), (4, .int (gI (0 : Int)))]) [2, 3, 4, 1, 0] rfl ?_
  exact zl_X12_opensAll_5  n _ _ _ _ _ _ e
/-! X12_closure  -/
set_option maxRecDepth 100000 in
def b_X12_closure_2 (n : Nat) (r2 : Nat → Nat → Int → Int → gi_H → Option (gi_H)) (v0 : Nat) (v1 : Nat) (v2 : Int) (v3 : Int)  (h : gi_H) : Option (gi_H) :=
  Option.bind (gi_rg v3) fun _ => if v3 = 0 then (some h) else (Option.bind (gi_is h v0 10) fun _ => Option.bind (f_X12_opensAll n v0 v1 v2 h) fun q4 => r2 v0 v1 v2 q4.1 q4.2)
set_option maxRecDepth 100000 in
theorem zb_X12_closure_2 {al : Bool} {n : Nat} {r2 : Nat → Nat → Int → Int → gi_H → Option (gi_H)} {h1 : gi_H} (hr2 : ∀ (x0 : Nat) (x1 : Nat) (x2 : Int) (x3 : Int) (hh : gi_H), r2 x0 x1 x2 x3 hh = some h1 → gx_Z mX12_closure al al 0 0 2 [(0, .ref x0), (1, .ref x1), (2, .int (gI x2)), (3, .int (gI x3))] [] (gi_cv hh) (.inl none) (gi_cv h1)) {v0 : Nat} {v1 : Nat} {v2 : Int} {v3 : Int}  {h : gi_H} (e : b_X12_closure_2 n r2 v0 v1 v2 v3 h = some h1) : gx_Z mX12_closure al al 0 0 2 [(0, .ref v0), (1, .ref v1), (2, .int (gI v2)), (3, .int (gI v3))] [] (gi_cv h) (.inl none) (gi_cv h1) := by
  refine gx_iload_n dX12_closure_2 rfl 3 rfl ?_
  refine gx_bE e (fun _ g1 e => ?_)
  refine gx_iE e (fun c2 e => ?_) (fun c2 e => ?_)
  · refine gy_if_eq (tgt := 16) (gi_rgS g1) dX12_closure_3 (by decide) (fun _ => ?_) (fun z => absurd c2 z)
    cases e
    exact gx_vret dX12_closure_16 rfl ⟨Nat.le_of_ble_eq_true rfl, Nat.le_of_ble_eq_true rfl⟩ (fun z => z)
  · refine gy_if_eq (tgt := 16) (gi_rgS g1) dX12_closure_3 (by decide) (fun z => absurd z c2) (fun _ => ?_)
    refine gx_aload_n dX12_closure_6 rfl 0 rfl ?_
    refine gx_aload_n dX12_closure_7 rfl 1 rfl ?_
    refine gx_iload_n dX12_closure_8 rfl 2 rfl ?_
    refine gx_bE e (fun _ hu3 e => ?_)
    refine gx_bE e (fun q4 hq4 e => ?_)
    refine gx_callV (n := 2) (st := []) (As := [.ref v1, .int (gI v2)]) (b := v0) dX12_closure_9 (z_X12_opensAll hq4) rfl ⟨rfl, gw_cw_X12_opensAll, gw_14, gp_X12_opensAll, ⟨Nat.le_of_ble_eq_true rfl, Nat.le_of_ble_eq_true rfl⟩⟩ (gi_isS hu3) (by decide) gw_1672 gw_1674 gs_85 rfl ⟨Nat.le_of_ble_eq_true rfl, Nat.le_of_ble_eq_true rfl⟩ (Nat.le_of_ble_eq_true rfl) (gy_k1 (x := .int (gI q4.1)) (kc2 := 0) (ks2 := 0) ⟨rfl, rfl⟩ ?_) gy_kn
    refine gx_istore_n (ls2 := [(3, .int (gI q4.1)), (0, .ref v0), (1, .ref v1), (2, .int (gI v2))]) dX12_closure_12 rfl (Nat.le_of_ble_eq_true rfl) rfl ?_
    refine gx_goto (tgt := 2) dX12_closure_13 (by decide) ?_
    refine gx_sub (ls2 := [(0, .ref v0), (1, .ref v1), (2, .int (gI v2)), (3, .int (gI q4.1))]) [1, 2, 3, 0] rfl ?_
    exact hr2 _ _ _ _ _ e
def l_X12_closure_2 (n : Nat)  : Nat → Nat → Nat → Int → Int → gi_H → Option (gi_H)
  | 0, _, _, _, _, _ => none
  | k + 1, v0, v1, v2, v3, h => b_X12_closure_2 n  (l_X12_closure_2 n  k) v0 v1 v2 v3 h
theorem zl_X12_closure_2 {al : Bool} {n : Nat}  {h1 : gi_H}  : ∀ (k : Nat) (v0 : Nat) (v1 : Nat) (v2 : Int) (v3 : Int) (h : gi_H), l_X12_closure_2 n  k v0 v1 v2 v3 h = some h1 → gx_Z mX12_closure al al 0 0 2 [(0, .ref v0), (1, .ref v1), (2, .int (gI v2)), (3, .int (gI v3))] [] (gi_cv h) (.inl none) (gi_cv h1)
  | 0, _, _, _, _, _, e => gx_0E e
  | k + 1, _, _, _, _, _, e => zb_X12_closure_2 (n := n)  (zl_X12_closure_2  k) e
set_option maxRecDepth 100000 in
def f_X12_closure (n : Nat) (v0 : Nat) (v1 : Nat) (v2 : Int) (h : gi_H) : Option (gi_H) :=
  l_X12_closure_2 n  n v0 v1 v2 (1 : Int) h
set_option maxRecDepth 100000 in
theorem z_X12_closure {al : Bool} {n : Nat} {v0 : Nat} {v1 : Nat} {v2 : Int} {h : gi_H} {h1 : gi_H} (e : f_X12_closure n v0 v1 v2 h = some h1) : gx_Cw mX12_closure al [.ref v0, .ref v1, .int (gI v2)] (gi_cv h) (.inl none) (gi_cv h1) := by
  refine gx_enter (by decide +kernel) rfl (Nat.le_of_ble_eq_true rfl) ?_
  show gx_Z mX12_closure al al 0 0 0 [(0, .ref v0), (1, .ref v1), (2, .int (gI v2))] [] (gi_cv h) (.inl none) (gi_cv h1)
  refine gy_iconst dX12_closure_0 ?_
  refine gx_istore_n (ls2 := [(3, .int (gI (1 : Int))), (0, .ref v0), (1, .ref v1), (2, .int (gI v2))]) dX12_closure_1 rfl (Nat.le_of_ble_eq_true rfl) rfl ?_
  refine gx_sub (ls2 := [(0, .ref v0), (1, .ref v1), (2, .int (gI v2)), (3, .int (gI (1 : Int)))]) [1, 2, 3, 0] rfl ?_
  exact zl_X12_closure_2  n _ _ _ _ _ e
/-! X12_index  -/
set_option maxRecDepth 100000 in
def f_X12_index (v0 : Int) (h : gi_H) : Option (Int) :=
  Option.bind (gi_rg v0) fun _ => if (16 : Int) ≤ v0 then (some (((8 : Int) + v0) - (16 : Int))) else (some v0)
set_option maxRecDepth 100000 in
theorem z_X12_index {al : Bool} {v0 : Int} {h : gi_H} {res : Int} (e : f_X12_index v0 h = some res) : gx_Cw mX12_index al [.int (gI v0)] (gi_cv h) (.inl (some (.int (gI res)))) (gi_cv h) := by
  refine gx_enter (by decide +kernel) rfl (Nat.le_of_ble_eq_true rfl) ?_
  show gx_Z mX12_index al al 0 0 0 [(0, .int (gI v0))] [] (gi_cv h) (.inl (some (.int (gI res)))) (gi_cv h)
  refine gx_iload_n dX12_index_0 rfl 0 rfl ?_
  refine gy_bipush dX12_index_1 gcb_16 ?_
  refine gx_bE e (fun _ g1 e => ?_)
  refine gx_iE e (fun c2 e => ?_) (fun c2 e => ?_)
  · refine gy_icmp_ge (tgt := 10) (gi_rgS g1) (by decide) dX12_index_3 (by decide) (fun _ => ?_) (fun z => absurd c2 z)
    refine gy_bipush dX12_index_10 gcb_8 ?_
    refine gx_iload_n dX12_index_12 rfl 0 rfl ?_
    refine gy_iadd dX12_index_13 ?_
    refine gy_bipush dX12_index_14 gcb_16 ?_
    refine gy_isub dX12_index_16 ?_
    cases e
    exact gx_iret dX12_index_17 rfl ⟨Nat.le_of_ble_eq_true rfl, Nat.le_of_ble_eq_true rfl⟩ (fun z => z)
  · refine gy_icmp_ge (tgt := 10) (gi_rgS g1) (by decide) dX12_index_3 (by decide) (fun z => absurd z c2) (fun _ => ?_)
    refine gx_iload_n dX12_index_6 rfl 0 rfl ?_
    refine gx_goto (tgt := 17) dX12_index_7 (by decide) ?_
    cases e
    exact gx_iret dX12_index_17 rfl ⟨Nat.le_of_ble_eq_true rfl, Nat.le_of_ble_eq_true rfl⟩ (fun z => z)
