/-! X0_mergeInto  -/
set_option maxRecDepth 100000 in
def b_X0_mergeInto_32 (n : Nat)  (v0 : Nat) (v1 : Int) (v2 : Int)  (h : gi_H) : Option (gi_H) :=
  Option.bind (gi_rg v2) fun _ => if v2 = 0 then (some h) else (Option.bind (gi_rg v1) fun _ => if v1 < 0 then (some h) else (if (80 : Int) ≤ v1 then (some h) else (Option.bind (gi_gR h v0 0 8) fun t8 => Option.bind (gi_s4 h t8 v1 (1 : Int)) fun h9 => some h9)))
set_option maxRecDepth 100000 in
theorem zb_X0_mergeInto_32 {al : Bool} {n : Nat}  {h1 : gi_H}  {v0 : Nat} {v1 : Int} {v2 : Int}  {h : gi_H} (e : b_X0_mergeInto_32 n v0 v1 v2 h = some h1) : gx_Z mX0_mergeInto al al 0 0 32 [(0, .ref v0), (1, .int (gI v1)), (2, .int (gI v2))] [] (gi_cv h) (.inl none) (gi_cv h1) := by
  refine gx_iload_n dX0_mergeInto_32 rfl 2 rfl ?_
  refine gx_bE e (fun _ g3 e => ?_)
  refine gx_iE e (fun c4 e => ?_) (fun c4 e => ?_)
  · refine gy_if_eq (tgt := 53) (gi_rgS g3) dX0_mergeInto_33 (by decide) (fun _ => ?_) (fun z => absurd c4 z)
    cases e
    exact gx_vret dX0_mergeInto_53 rfl ⟨Nat.le_of_ble_eq_true rfl, Nat.le_of_ble_eq_true rfl⟩ (fun z => z)
  · refine gy_if_eq (tgt := 53) (gi_rgS g3) dX0_mergeInto_33 (by decide) (fun z => absurd z c4) (fun _ => ?_)
    refine gx_iload_n dX0_mergeInto_36 rfl 1 rfl ?_
    refine gx_bE e (fun _ g5 e => ?_)
    refine gx_iE e (fun c6 e => ?_) (fun c6 e => ?_)
    · refine gy_if_lt (tgt := 53) (gi_rgS g5) dX0_mergeInto_37 (by decide) (fun _ => ?_) (fun z => absurd c6 z)
      cases e
      exact gx_vret dX0_mergeInto_53 rfl ⟨Nat.le_of_ble_eq_true rfl, Nat.le_of_ble_eq_true rfl⟩ (fun z => z)
    · refine gy_if_lt (tgt := 53) (gi_rgS g5) dX0_mergeInto_37 (by decide) (fun z => absurd z c6) (fun _ => ?_)
      refine gx_iload_n dX0_mergeInto_40 rfl 1 rfl ?_
      refine gy_bipush dX0_mergeInto_41 gcb_80 ?_
      refine gx_iE e (fun c7 e => ?_) (fun c7 e => ?_)
      · refine gy_icmp_ge (tgt := 53) (gi_rgS g5) (by decide) dX0_mergeInto_43 (by decide) (fun _ => ?_) (fun z => absurd c7 z)
        cases e
        exact gx_vret dX0_mergeInto_53 rfl ⟨Nat.le_of_ble_eq_true rfl, Nat.le_of_ble_eq_true rfl⟩ (fun z => z)
      · refine gy_icmp_ge (tgt := 53) (gi_rgS g5) (by decide) dX0_mergeInto_43 (by decide) (fun z => absurd z c7) (fun _ => ?_)
        refine gx_aload_n dX0_mergeInto_46 rfl 0 rfl ?_
        refine gx_bE e (fun t8 ht8 e => ?_)
        refine gy_fR ht8 dX0_mergeInto_47 gf_RX0_21_0_8 (by decide) gkN_0_8 gkR_0_8 ?_
        refine gx_iload_n dX0_mergeInto_50 rfl 1 rfl ?_
        refine gy_iconst dX0_mergeInto_51 ?_
        refine gx_bE e (fun h9 hh9 e => ?_)
        refine gy_t4 hh9 dX0_mergeInto_52 ?_
        cases e
        exact gx_vret dX0_mergeInto_53 rfl ⟨Nat.le_of_ble_eq_true rfl, Nat.le_of_ble_eq_true rfl⟩ (fun z => z)
set_option maxRecDepth 100000 in
def b_X0_mergeInto_4 (n : Nat) (r4 : Nat → Int → Int → Int → gi_H → Option (gi_H)) (v0 : Nat) (v1 : Int) (v2 : Int) (v3 : Int)  (h : gi_H) : Option (gi_H) :=
  Option.bind (gi_rg v3) fun _ => if (150 : Int) ≤ v3 then (b_X0_mergeInto_32 n  v0 v1 v2 h) else (Option.bind (gi_gR h v0 0 9) fun t10 => Option.bind (gi_aI h 1 t10 v3) fun t11 => Option.bind (gi_is h v0 0) fun _ => Option.bind (f_X0_widen v0 v1 v3 t11 h) fun q13 => gx_nm (gi_or v2 q13.1) fun t14 => gx_nm (v3 + (1 : Int)) fun t15 => r4 v0 v1 t14 t15 q13.2)
set_option maxRecDepth 100000 in
theorem zb_X0_mergeInto_4 {al : Bool} {n : Nat} {r4 : Nat → Int → Int → Int → gi_H → Option (gi_H)} {h1 : gi_H} (hr4 : ∀ (x0 : Nat) (x1 : Int) (x2 : Int) (x3 : Int) (hh : gi_H), r4 x0 x1 x2 x3 hh = some h1 → gx_Z mX0_mergeInto al al 0 0 4 [(0, .ref x0), (1, .int (gI x1)), (2, .int (gI x2)), (3, .int (gI x3))] [] (gi_cv hh) (.inl none) (gi_cv h1)) {v0 : Nat} {v1 : Int} {v2 : Int} {v3 : Int}  {h : gi_H} (e : b_X0_mergeInto_4 n r4 v0 v1 v2 v3 h = some h1) : gx_Z mX0_mergeInto al al 0 0 4 [(0, .ref v0), (1, .int (gI v1)), (2, .int (gI v2)), (3, .int (gI v3))] [] (gi_cv h) (.inl none) (gi_cv h1) := by
  refine gx_iload_n dX0_mergeInto_4 rfl 3 rfl ?_
  refine gy_sipush dX0_mergeInto_5 gcs_150 ?_
  refine gx_bE e (fun _ g1 e => ?_)
  refine gx_iE e (fun c2 e => ?_) (fun c2 e => ?_)
  · refine gy_icmp_ge (tgt := 32) (gi_rgS g1) (by decide) dX0_mergeInto_8 (by decide) (fun _ => ?_) (fun z => absurd c2 z)
    refine gx_sub (ls2 := [(0, .ref v0), (1, .int (gI v1)), (2, .int (gI v2))]) [0, 1, 2] rfl ?_
    exact zb_X0_mergeInto_32  e
  · refine gy_icmp_ge (tgt := 32) (gi_rgS g1) (by decide) dX0_mergeInto_8 (by decide) (fun z => absurd z c2) (fun _ => ?_)
    refine gx_iload_n dX0_mergeInto_11 rfl 2 rfl ?_
    refine gx_aload_n dX0_mergeInto_12 rfl 0 rfl ?_
    refine gx_iload_n dX0_mergeInto_13 rfl 1 rfl ?_
    refine gx_iload_n dX0_mergeInto_14 rfl 3 rfl ?_
    refine gx_aload_n dX0_mergeInto_15 rfl 0 rfl ?_
    refine gx_bE e (fun t10 ht10 e => ?_)
    refine gy_fR ht10 dX0_mergeInto_16 gf_RX0_25_0_9 (by decide) gkN_0_9 gkR_0_9 ?_
    refine gx_iload_n dX0_mergeInto_19 rfl 3 rfl ?_
    refine gx_bE e (fun t11 ht11 e => ?_)
    refine gy_l1 ht11 dX0_mergeInto_20 ?_
    refine gx_bE e (fun _ hu12 e => ?_)
    refine gx_bE e (fun q13 hq13 e => ?_)
    refine gx_callV (n := 3) (st := [.int (gI v2)]) (As := [.int (gI v1), .int (gI v3), .int (gI t11)]) (b := v0) dX0_mergeInto_21 (z_X0_widen hq13) rfl ⟨rfl, gw_cw_X0_widen, gw_7, gp_X0_widen, ⟨Nat.le_of_ble_eq_true rfl, Nat.le_of_ble_eq_true rfl⟩⟩ (gi_isS hu12) (by decide) gw_1014 gw_1016 gs_29 rfl ⟨Nat.le_of_ble_eq_true rfl, Nat.le_of_ble_eq_true rfl⟩ (Nat.le_of_ble_eq_true rfl) (gy_k1 (x := .int (gI q13.1)) (kc2 := 0) (ks2 := 0) ⟨rfl, rfl⟩ ?_) gy_kn
    refine gy_ior dX0_mergeInto_24 ?_
    refine gx_nE e (fun t14 ht14 e => ?_)
    rw [ht14]
    refine gx_istore_n (ls2 := [(2, .int (gI t14)), (0, .ref v0), (1, .int (gI v1)), (3, .int (gI v3))]) dX0_mergeInto_25 rfl (Nat.le_of_ble_eq_true rfl) rfl ?_
    refine gx_nE e (fun t15 ht15 e => ?_)
    refine gy_iinc (v := t15) (ls2 := [(3, .int (gI t15)), (2, .int (gI t14)), (0, .ref v0), (1, .int (gI v1))]) dX0_mergeInto_26 3 rfl ht15 (Nat.le_of_ble_eq_true rfl) rfl ?_
    refine gx_goto (tgt := 4) dX0_mergeInto_29 (by decide) ?_
    refine gx_sub (ls2 := [(0, .ref v0), (1, .int (gI v1)), (2, .int (gI t14)), (3, .int (gI t15))]) [2, 3, 1, 0] rfl ?_
    exact hr4 _ _ _ _ _ e
def l_X0_mergeInto_4 (n : Nat)  : Nat → Nat → Int → Int → Int → gi_H → Option (gi_H)
  | 0, _, _, _, _, _ => none
  | k + 1, v0, v1, v2, v3, h => b_X0_mergeInto_4 n  (l_X0_mergeInto_4 n  k) v0 v1 v2 v3 h
theorem zl_X0_mergeInto_4 {al : Bool} {n : Nat}  {h1 : gi_H}  : ∀ (k : Nat) (v0 : Nat) (v1 : Int) (v2 : Int) (v3 : Int) (h : gi_H), l_X0_mergeInto_4 n  k v0 v1 v2 v3 h = some h1 → gx_Z mX0_mergeInto al al 0 0 4 [(0, .ref v0), (1, .int (gI v1)), (2, .int (gI v2)), (3, .int (gI v3))] [] (gi_cv h) (.inl none) (gi_cv h1)
  | 0, _, _, _, _, _, e => gx_0E e
  | k + 1, _, _, _, _, _, e => zb_X0_mergeInto_4 (n := n)  (zl_X0_mergeInto_4  k) e
set_option maxRecDepth 100000 in
def f_X0_mergeInto (n : Nat) (v0 : Nat) (v1 : Int) (h : gi_H) : Option (gi_H) :=
  l_X0_mergeInto_4 n  n v0 v1 (0 : Int) (0 : Int) h
set_option maxRecDepth 100000 in
theorem z_X0_mergeInto {al : Bool} {n : Nat} {v0 : Nat} {v1 : Int} {h : gi_H} {h1 : gi_H} (e : f_X0_mergeInto n v0 v1 h = some h1) : gx_Cw mX0_mergeInto al [.ref v0, .int (gI v1)] (gi_cv h) (.inl none) (gi_cv h1) := by
  refine gx_enter (by decide +kernel) rfl (Nat.le_of_ble_eq_true rfl) ?_
  show gx_Z mX0_mergeInto al al 0 0 0 [(0, .ref v0), (1, .int (gI v1))] [] (gi_cv h) (.inl none) (gi_cv h1)
  refine gy_iconst dX0_mergeInto_0 ?_
  refine gx_istore_n (ls2 := [(2, .int (gI (0 : Int))), (0, .ref v0), (1, .int (gI v1))]) dX0_mergeInto_1 rfl (Nat.le_of_ble_eq_true rfl) rfl ?_
  refine gy_iconst dX0_mergeInto_2 ?_
  refine gx_istore_n (ls2 := [(3, .int (gI (0 : Int))), (2, .int (gI (0 : Int))), (0, .ref v0), (1, .int (gI v1))]) dX0_mergeInto_3 rfl (Nat.le_of_ble_eq_true rfl) rfl ?_
  refine gx_sub (ls2 := [(0, .ref v0), (1, .int (gI v1)), (2, .int (gI (0 : Int))), (3, .int (gI (0 : Int)))]) [2, 3, 1, 0] rfl ?_
  exact zl_X0_mergeInto_4  n _ _ _ _ _ e
/-! X0_advance  -/
set_option maxRecDepth 100000 in
def b_X0_advance_83 (n : Nat)  (v0 : Nat) (v1 : Int) (v2 : Int) (v3 : Int)  (h : gi_H) : Option (gi_H) :=
  Option.bind (gi_rg v1) fun _ => if v1 < 0 then (some h) else (if (80 : Int) ≤ v1 then (some h) else (Option.bind (gi_rg v2) fun _ => if v2 < 0 then (some h) else (if (32 : Int) ≤ v2 then (some h) else (Option.bind (gi_gR h v0 0 6) fun t17 => Option.bind (gi_s1 h t17 ((v1 * (32 : Int)) + v2) v3) fun h18 => some h18))))
set_option maxRecDepth 100000 in
theorem zb_X0_advance_83 {al : Bool} {n : Nat}  {h1 : gi_H}  {v0 : Nat} {v1 : Int} {v2 : Int} {v3 : Int}  {h : gi_H} (e : b_X0_advance_83 n v0 v1 v2 v3 h = some h1) : gx_Z mX0_advance al al 0 0 83 [(0, .ref v0), (1, .int (gI v1)), (2, .int (gI v2)), (3, .int (gI v3))] [] (gi_cv h) (.inl none) (gi_cv h1) := by
  refine gx_iload_n dX0_advance_83 rfl 1 rfl ?_
  refine gx_bE e (fun _ g11 e => ?_)
  refine gx_iE e (fun c12 e => ?_) (fun c12 e => ?_)
  · refine gy_if_lt (tgt := 115) (gi_rgS g11) dX0_advance_84 (by decide) (fun _ => ?_) (fun z => absurd c12 z)
    cases e
    exact gx_vret dX0_advance_115 rfl ⟨Nat.le_of_ble_eq_true rfl, Nat.le_of_ble_eq_true rfl⟩ (fun z => z)
  · refine gy_if_lt (tgt := 115) (gi_rgS g11) dX0_advance_84 (by decide) (fun z => absurd z c12) (fun _ => ?_)
    refine gx_iload_n dX0_advance_87 rfl 1 rfl ?_
    refine gy_bipush dX0_advance_88 gcb_80 ?_
    refine gx_iE e (fun c13 e => ?_) (fun c13 e => ?_)
    · refine gy_icmp_ge (tgt := 115) (gi_rgS g11) (by decide) dX0_advance_90 (by decide) (fun _ => ?_) (fun z => absurd c13 z)
      cases e
      exact gx_vret dX0_advance_115 rfl ⟨Nat.le_of_ble_eq_true rfl, Nat.le_of_ble_eq_true rfl⟩ (fun z => z)
    · refine gy_icmp_ge (tgt := 115) (gi_rgS g11) (by decide) dX0_advance_90 (by decide) (fun z => absurd z c13) (fun _ => ?_)
      refine gx_iload_n dX0_advance_93 rfl 2 rfl ?_
      refine gx_bE e (fun _ g14 e => ?_)
      refine gx_iE e (fun c15 e => ?_) (fun c15 e => ?_)
      · refine gy_if_lt (tgt := 115) (gi_rgS g14) dX0_advance_94 (by decide) (fun _ => ?_) (fun z => absurd c15 z)
        cases e
        exact gx_vret dX0_advance_115 rfl ⟨Nat.le_of_ble_eq_true rfl, Nat.le_of_ble_eq_true rfl⟩ (fun z => z)
      · refine gy_if_lt (tgt := 115) (gi_rgS g14) dX0_advance_94 (by decide) (fun z => absurd z c15) (fun _ => ?_)
        refine gx_iload_n dX0_advance_97 rfl 2 rfl ?_
        refine gy_bipush dX0_advance_98 gcb_32 ?_
        refine gx_iE e (fun c16 e => ?_) (fun c16 e => ?_)
        · refine gy_icmp_ge (tgt := 115) (gi_rgS g14) (by decide) dX0_advance_100 (by decide) (fun _ => ?_) (fun z => absurd c16 z)
          cases e
          exact gx_vret dX0_advance_115 rfl ⟨Nat.le_of_ble_eq_true rfl, Nat.le_of_ble_eq_true rfl⟩ (fun z => z)
        · refine gy_icmp_ge (tgt := 115) (gi_rgS g14) (by decide) dX0_advance_100 (by decide) (fun z => absurd z c16) (fun _ => ?_)
          refine gx_aload_n dX0_advance_103 rfl 0 rfl ?_
          refine gx_bE e (fun t17 ht17 e => ?_)
          refine gy_fR ht17 dX0_advance_104 gf_RX0_15_0_6 (by decide) gkN_0_6 gkR_0_6 ?_
          refine gx_iload_n dX0_advance_107 rfl 1 rfl ?_
          refine gy_bipush dX0_advance_108 gcb_32 ?_
          refine gy_imul dX0_advance_110 ?_
          refine gx_iload_n dX0_advance_111 rfl 2 rfl ?_
          refine gy_iadd dX0_advance_112 ?_
          refine gx_iload_n dX0_advance_113 rfl 3 rfl ?_
          refine gx_bE e (fun h18 hh18 e => ?_)
          refine gy_t1 hh18 dX0_advance_114 ?_
          cases e
          exact gx_vret dX0_advance_115 rfl ⟨Nat.le_of_ble_eq_true rfl, Nat.le_of_ble_eq_true rfl⟩ (fun z => z)
set_option maxRecDepth 100000 in
def b_X0_advance_51 (n : Nat)  (v0 : Nat) (v1 : Int) (v2 : Int)  (h : gi_H) : Option (gi_H) :=
  Option.bind (gi_is h v0 0) fun _ => Option.bind (f_X0_findState n v0 v2 h) fun q6 => Option.bind (gi_rg q6) fun _ => if q6 = (-1 : Int) then (Option.bind (gi_is h v0 0) fun _ => Option.bind (f_X0_addState n v0 v2 h) fun q10 => b_X0_advance_83 n  v0 v1 v2 q10.1 q10.2) else (Option.bind (gi_gI h v0 0 1) fun t19 => Option.bind (gi_rg t19) fun _ => if t19 = 0 then (b_X0_advance_83 n  v0 v1 v2 q6 h) else (Option.bind (gi_is h v0 0) fun _ => Option.bind (f_X0_mergeInto n v0 q6 h) fun q23 => b_X0_advance_83 n  v0 v1 v2 q6 q23))
set_option maxRecDepth 100000 in
theorem zb_X0_advance_51 {al : Bool} {n : Nat}  {h1 : gi_H}  {v0 : Nat} {v1 : Int} {v2 : Int}  {h : gi_H} (e : b_X0_advance_51 n v0 v1 v2 h = some h1) : gx_Z mX0_advance al al 0 0 51 [(0, .ref v0), (1, .int (gI v1)), (2, .int (gI v2))] [] (gi_cv h) (.inl none) (gi_cv h1) := by
  refine gx_aload_n dX0_advance_51 rfl 0 rfl ?_
  refine gx_iload_n dX0_advance_52 rfl 2 rfl ?_
  refine gx_bE e (fun _ hu5 e => ?_)
  refine gx_bE e (fun q6 hq6 e => ?_)
  refine gx_callV (n := 1) (st := []) (As := [.int (gI v2)]) (b := v0) dX0_advance_53 (z_X0_findState hq6) rfl ⟨rfl, gw_cw_X0_findState, gw_7, gp_X0_findState, ⟨Nat.le_of_ble_eq_true rfl, Nat.le_of_ble_eq_true rfl⟩⟩ (gi_isS hu5) (by decide) gw_1031 gw_1033 gs_33 rfl ⟨Nat.le_of_ble_eq_true rfl, Nat.le_of_ble_eq_true rfl⟩ (Nat.le_of_ble_eq_true rfl) (gy_k1 (x := .int (gI q6)) (kc2 := 0) (ks2 := 0) ⟨rfl, rfl⟩ ?_) gy_kn
  refine gx_istore_n (ls2 := [(3, .int (gI q6)), (0, .ref v0), (1, .int (gI v1)), (2, .int (gI v2))]) dX0_advance_56 rfl (Nat.le_of_ble_eq_true rfl) rfl ?_
  refine gx_iload_n dX0_advance_57 rfl 0 rfl ?_
  refine gy_iconst dX0_advance_58 ?_
  refine gx_bE e (fun _ g7 e => ?_)
  refine gx_iE e (fun c8 e => ?_) (fun c8 e => ?_)
  · refine gy_icmp_ne (tgt := 71) (gi_rgS g7) (by decide) dX0_advance_59 (by decide) (fun z => absurd c8 z) (fun _ => ?_)
    refine gx_aload_n dX0_advance_62 rfl 1 rfl ?_
    refine gx_iload_n dX0_advance_63 rfl 3 rfl ?_
    refine gx_bE e (fun _ hu9 e => ?_)
    refine gx_bE e (fun q10 hq10 e => ?_)
    refine gx_callV (n := 1) (st := []) (As := [.int (gI v2)]) (b := v0) dX0_advance_64 (z_X0_addState hq10) rfl ⟨rfl, gw_cw_X0_addState, gw_7, gp_X0_addState, ⟨Nat.le_of_ble_eq_true rfl, Nat.le_of_ble_eq_true rfl⟩⟩ (gi_isS hu9) (by decide) gw_984 gw_986 gs_26 rfl ⟨Nat.le_of_ble_eq_true rfl, Nat.le_of_ble_eq_true rfl⟩ (Nat.le_of_ble_eq_true rfl) (gy_k1 (x := .int (gI q10.1)) (kc2 := 0) (ks2 := 0) ⟨rfl, rfl⟩ ?_) gy_kn
    refine gx_istore_n (ls2 := [(3, .int (gI q10.1)), (0, .ref v0), (1, .int (gI v1)), (2, .int (gI v2))]) dX0_advance_67 rfl (Nat.le_of_ble_eq_true rfl) rfl ?_
    refine gx_goto (tgt := 83) dX0_advance_68 (by decide) ?_
    refine gx_sub (ls2 := [(0, .ref v0), (1, .int (gI v1)), (2, .int (gI v2)), (3, .int (gI q10.1))]) [1, 2, 3, 0] rfl ?_
    exact zb_X0_advance_83  e
  · refine gy_icmp_ne (tgt := 71) (gi_rgS g7) (by decide) dX0_advance_59 (by decide) (fun _ => ?_) (fun z => absurd z c8)
    refine gx_aload_n dX0_advance_71 rfl 1 rfl ?_
    refine gx_bE e (fun t19 ht19 e => ?_)
    refine gy_fI ht19 dX0_advance_72 gf_RX0_32_0_1 (by decide) gkN_0_1 gkR_0_1 ?_
    refine gx_bE e (fun _ g20 e => ?_)
    refine gx_iE e (fun c21 e => ?_) (fun c21 e => ?_)
    · refine gy_if_eq (tgt := 83) (gi_rgS g20) dX0_advance_75 (by decide) (fun _ => ?_) (fun z => absurd c21 z)
      refine gx_sub (ls2 := [(0, .ref v0), (1, .int (gI v1)), (2, .int (gI v2)), (3, .int (gI q6))]) [1, 2, 3, 0] rfl ?_
      exact zb_X0_advance_83  e
    · refine gy_if_eq (tgt := 83) (gi_rgS g20) dX0_advance_75 (by decide) (fun z => absurd z c21) (fun _ => ?_)
      refine gx_aload_n dX0_advance_78 rfl 1 rfl ?_
      refine gx_iload_n dX0_advance_79 rfl 0 rfl ?_
      refine gx_bE e (fun _ hu22 e => ?_)
      refine gx_bE e (fun q23 hq23 e => ?_)
      refine gx_callV (n := 1) (st := []) (As := [.int (gI q6)]) (b := v0) dX0_advance_80 (z_X0_mergeInto hq23) rfl ⟨rfl, gw_cw_X0_mergeInto, gw_7, gp_X0_mergeInto, ⟨Nat.le_of_ble_eq_true rfl, Nat.le_of_ble_eq_true rfl⟩⟩ (gi_isS hu22) (by decide) gw_1039 gw_1041 gs_35 rfl ⟨Nat.le_of_ble_eq_true rfl, Nat.le_of_ble_eq_true rfl⟩ (Nat.le_of_ble_eq_true rfl) (gy_k0 (kc2 := 0) (ks2 := 0) ⟨rfl, rfl⟩ ?_) gy_kn
      refine gx_sub (ls2 := [(0, .ref v0), (1, .int (gI v1)), (2, .int (gI v2)), (3, .int (gI q6))]) [1, 2, 3, 0] rfl ?_
      exact zb_X0_advance_83  e
set_option maxRecDepth 100000 in
def b_X0_advance_45 (n : Nat) (r10 : Nat → Int → Int → Int → gi_H → Option (gi_H)) (v0 : Nat) (v1 : Int) (v2 : Int) (v3 : Int)  (h : gi_H) : Option (gi_H) :=
  gx_nm (v3 + (1 : Int)) fun t34 => r10 v0 v1 v2 t34 h
set_option maxRecDepth 100000 in
theorem zb_X0_advance_45 {al : Bool} {n : Nat} {r10 : Nat → Int → Int → Int → gi_H → Option (gi_H)} {h1 : gi_H} (hr10 : ∀ (x0 : Nat) (x1 : Int) (x2 : Int) (x3 : Int) (hh : gi_H), r10 x0 x1 x2 x3 hh = some h1 → gx_Z mX0_advance al al 0 0 10 [(0, .ref x0), (1, .int (gI x1)), (2, .int (gI x2)), (3, .int (gI x3))] [] (gi_cv hh) (.inl none) (gi_cv h1)) {v0 : Nat} {v1 : Int} {v2 : Int} {v3 : Int}  {h : gi_H} (e : b_X0_advance_45 n r10 v0 v1 v2 v3 h = some h1) : gx_Z mX0_advance al al 0 0 45 [(0, .ref v0), (1, .int (gI v1)), (2, .int (gI v2)), (3, .int (gI v3))] [] (gi_cv h) (.inl none) (gi_cv h1) := by
  refine gx_nE e (fun t34 ht34 e => ?_)
  refine gy_iinc (v := t34) (ls2 := [(3, .int (gI t34)), (0, .ref v0), (1, .int (gI v1)), (2, .int (gI v2))]) dX0_advance_45 3 rfl ht34 (Nat.le_of_ble_eq_true rfl) rfl ?_
  refine gx_goto (tgt := 10) dX0_advance_48 (by decide) ?_
  refine gx_sub (ls2 := [(0, .ref v0), (1, .int (gI v1)), (2, .int (gI v2)), (3, .int (gI t34))]) [1, 2, 3, 0] rfl ?_
  exact hr10 _ _ _ _ _ e
set_option maxRecDepth 100000 in
def b_X0_advance_10 (n : Nat) (r10 : Nat → Int → Int → Int → gi_H → Option (gi_H)) (v0 : Nat) (v1 : Int) (v2 : Int) (v3 : Int)  (h : gi_H) : Option (gi_H) :=
  Option.bind (gi_rg (v3 + (1 : Int))) fun _ => if (150 : Int) ≤ (v3 + (1 : Int)) then (b_X0_advance_51 n  v0 v1 v2 h) else (Option.bind (gi_gR h v0 0 0) fun t24 => Option.bind (gi_is h t24 2) fun _ => Option.bind (f_X3_front t24 v3 h) fun q26 => Option.bind (gi_rg q26) fun _ => Option.bind (gi_rg v2) fun _ => if q26 = v2 then (Option.bind (gi_gR h v0 0 9) fun t30 => Option.bind (gi_is h v0 0) fun _ => Option.bind (f_X0_row v0 v1 v3 h) fun q32 => Option.bind (gi_s1 h t30 (v3 + (1 : Int)) q32) fun h33 => b_X0_advance_45 n r10 v0 v1 v2 v3 h33) else (b_X0_advance_45 n r10 v0 v1 v2 v3 h))
set_option maxRecDepth 100000 in
theorem zb_X0_advance_10 {al : Bool} {n : Nat} {r10 : Nat → Int → Int → Int → gi_H → Option (gi_H)} {h1 : gi_H} (hr10 : ∀ (x0 : Nat) (x1 : Int) (x2 : Int) (x3 : Int) (hh : gi_H), r10 x0 x1 x2 x3 hh = some h1 → gx_Z mX0_advance al al 0 0 10 [(0, .ref x0), (1, .int (gI x1)), (2, .int (gI x2)), (3, .int (gI x3))] [] (gi_cv hh) (.inl none) (gi_cv h1)) {v0 : Nat} {v1 : Int} {v2 : Int} {v3 : Int}  {h : gi_H} (e : b_X0_advance_10 n r10 v0 v1 v2 v3 h = some h1) : gx_Z mX0_advance al al 0 0 10 [(0, .ref v0), (1, .int (gI v1)), (2, .int (gI v2)), (3, .int (gI v3))] [] (gi_cv h) (.inl none) (gi_cv h1) := by
  refine gx_iload_n dX0_advance_10 rfl 3 rfl ?_
  refine gy_iconst dX0_advance_11 ?_
  refine gy_iadd dX0_advance_12 ?_
  refine gy_sipush dX0_advance_13 gcs_150 ?_
  refine gx_bE e (fun _ g3 e => ?_)
  refine gx_iE e (fun c4 e => ?_) (fun c4 e => ?_)
  · refine gy_icmp_ge (tgt := 51) (gi_rgS g3) (by decide) dX0_advance_16 (by decide) (fun _ => ?_) (fun z => absurd c4 z)
    refine gx_sub (ls2 := [(0, .ref v0), (1, .int (gI v1)), (2, .int (gI v2))]) [0, 1, 2] rfl ?_
    exact zb_X0_advance_51  e
  · refine gy_icmp_ge (tgt := 51) (gi_rgS g3) (by decide) dX0_advance_16 (by decide) (fun z => absurd z c4) (fun _ => ?_)
    refine gx_aload_n dX0_advance_19 rfl 0 rfl ?_
    refine gx_bE e (fun t24 ht24 e => ?_)
    refine gy_fR ht24 dX0_advance_20 gf_RX0_28_0_0 (by decide) gkN_0_0 gkR_0_0 ?_
    refine gx_iload_n dX0_advance_23 rfl 3 rfl ?_
    refine gx_bE e (fun _ hu25 e => ?_)
    refine gx_bE e (fun q26 hq26 e => ?_)
    refine gx_callV (n := 1) (st := []) (As := [.int (gI v3)]) (b := t24) dX0_advance_24 (z_X3_front hq26) rfl ⟨rfl, gw_cw_X3_front, gw_6, gp_X3_front, ⟨Nat.le_of_ble_eq_true rfl, Nat.le_of_ble_eq_true rfl⟩⟩ (gi_isS hu25) (by decide) gw_997 gw_998 gw_999 rfl ⟨Nat.le_of_ble_eq_true rfl, Nat.le_of_ble_eq_true rfl⟩ (Nat.le_of_ble_eq_true rfl) (gy_k1 (x := .int (gI q26)) (kc2 := 0) (ks2 := 0) ⟨rfl, rfl⟩ ?_) gy_kn
    refine gx_iload_n dX0_advance_27 rfl 2 rfl ?_
    refine gx_bE e (fun _ g27 e => ?_)
    refine gx_bE e (fun _ g28 e => ?_)
    refine gx_iE e (fun c29 e => ?_) (fun c29 e => ?_)
    · refine gy_icmp_ne (tgt := 45) (gi_rgS g27) (gi_rgS g28) dX0_advance_28 (by decide) (fun z => absurd c29 z) (fun _ => ?_)
      refine gx_aload_n dX0_advance_31 rfl 0 rfl ?_
      refine gx_bE e (fun t30 ht30 e => ?_)
      refine gy_fR ht30 dX0_advance_32 gf_RX0_25_0_9 (by decide) gkN_0_9 gkR_0_9 ?_
      refine gx_iload_n dX0_advance_35 rfl 3 rfl ?_
      refine gy_iconst dX0_advance_36 ?_
      refine gy_iadd dX0_advance_37 ?_
      refine gx_aload_n dX0_advance_38 rfl 0 rfl ?_
      refine gx_iload_n dX0_advance_39 rfl 1 rfl ?_
      refine gx_iload_n dX0_advance_40 rfl 3 rfl ?_
      refine gx_bE e (fun _ hu31 e => ?_)
      refine gx_bE e (fun q32 hq32 e => ?_)
      refine gx_callV (n := 2) (st := [.int (gI (v3 + (1 : Int))), .ref t30]) (As := [.int (gI v1), .int (gI v3)]) (b := v0) dX0_advance_41 (z_X0_row hq32) rfl ⟨rfl, gw_cw_X0_row, gw_7, gp_X0_row, ⟨Nat.le_of_ble_eq_true rfl, Nat.le_of_ble_eq_true rfl⟩⟩ (gi_isS hu31) (by decide) gw_993 gw_994 gw_995 rfl ⟨Nat.le_of_ble_eq_true rfl, Nat.le_of_ble_eq_true rfl⟩ (Nat.le_of_ble_eq_true rfl) (gy_k1 (x := .int (gI q32)) (kc2 := 0) (ks2 := 0) ⟨rfl, rfl⟩ ?_) gy_kn
      refine gx_bE e (fun h33 hh33 e => ?_)
      refine gy_t1 hh33 dX0_advance_44 ?_
      exact zb_X0_advance_45 hr10 e
    · refine gy_icmp_ne (tgt := 45) (gi_rgS g27) (gi_rgS g28) dX0_advance_28 (by decide) (fun _ => ?_) (fun z => absurd z c29)
      exact zb_X0_advance_45 hr10 e
def l_X0_advance_10 (n : Nat)  : Nat → Nat → Int → Int → Int → gi_H → Option (gi_H)
  | 0, _, _, _, _, _ => none
  | k + 1, v0, v1, v2, v3, h => b_X0_advance_10 n  (l_X0_advance_10 n  k) v0 v1 v2 v3 h
theorem zl_X0_advance_10 {al : Bool} {n : Nat}  {h1 : gi_H}  : ∀ (k : Nat) (v0 : Nat) (v1 : Int) (v2 : Int) (v3 : Int) (h : gi_H), l_X0_advance_10 n  k v0 v1 v2 v3 h = some h1 → gx_Z mX0_advance al al 0 0 10 [(0, .ref v0), (1, .int (gI v1)), (2, .int (gI v2)), (3, .int (gI v3))] [] (gi_cv h) (.inl none) (gi_cv h1)
  | 0, _, _, _, _, _, e => gx_0E e
  | k + 1, _, _, _, _, _, e => zb_X0_advance_10 (n := n)  (zl_X0_advance_10  k) e
set_option maxRecDepth 100000 in
def f_X0_advance (n : Nat) (v0 : Nat) (v1 : Int) (v2 : Int) (h : gi_H) : Option (gi_H) :=
  Option.bind (gi_gR h v0 0 9) fun t1 => Option.bind (f_J7_fill_53178 n t1 (0 : Int) h) fun q2 => l_X0_advance_10 n  n v0 v1 v2 (0 : Int) q2
set_option maxRecDepth 100000 in
theorem z_X0_advance {al : Bool} {n : Nat} {v0 : Nat} {v1 : Int} {v2 : Int} {h : gi_H} {h1 : gi_H} (e : f_X0_advance n v0 v1 v2 h = some h1) : gx_Cw mX0_advance al [.ref v0, .int (gI v1), .int (gI v2)] (gi_cv h) (.inl none) (gi_cv h1) := by
  refine gx_enter (by decide +kernel) rfl (Nat.le_of_ble_eq_true rfl) ?_
  show gx_Z mX0_advance al al 0 0 0 [(0, .ref v0), (1, .int (gI v1)), (2, .int (gI v2))] [] (gi_cv h) (.inl none) (gi_cv h1)
  refine gx_aload_n dX0_advance_0 rfl 0 rfl ?_
  refine gx_bE e (fun t1 ht1 e => ?_)
  refine gy_fR ht1 dX0_advance_1 gf_RX0_25_0_9 (by decide) gkN_0_9 gkR_0_9 ?_
  refine gy_iconst dX0_advance_4 ?_
  refine gx_bE e (fun q2 hq2 e => ?_)
  refine gx_callS (n := 2) (st := []) (As := [.ref t1, .int (gI (0 : Int))]) dX0_advance_5 (z_J7_fill_53178 hq2) rfl ⟨rfl, gw_cw_J7_fill_53178, gw_5, gp_J7_fill_53178, ⟨Nat.le_of_ble_eq_true rfl, Nat.le_of_ble_eq_true rfl⟩⟩ gw_983 gw_98 ⟨Nat.le_of_ble_eq_true rfl, Nat.le_of_ble_eq_true rfl⟩ (Nat.le_of_ble_eq_true rfl) (gy_k0 (kc2 := 0) (ks2 := 0) ⟨rfl, rfl⟩ ?_) gy_kn
  refine gy_iconst dX0_advance_8 ?_
  refine gx_istore_n (ls2 := [(3, .int (gI (0 : Int))), (0, .ref v0), (1, .int (gI v1)), (2, .int (gI v2))]) dX0_advance_9 rfl (Nat.le_of_ble_eq_true rfl) rfl ?_
  refine gx_sub (ls2 := [(0, .ref v0), (1, .int (gI v1)), (2, .int (gI v2)), (3, .int (gI (0 : Int)))]) [1, 2, 3, 0] rfl ?_
  exact zl_X0_advance_10  n _ _ _ _ _ e
/-! X0_leave  -/
set_option maxRecDepth 100000 in
def b_X0_leave_35 (n : Nat) (r8 : Nat → Int → Int → Int → gi_H → Option (gi_H)) (v0 : Nat) (v1 : Int) (v2 : Int) (v3 : Int)  (h : gi_H) : Option (gi_H) :=
  gx_nm (v3 + (1 : Int)) fun t11 => r8 v0 v1 v2 t11 h
set_option maxRecDepth 100000 in
theorem zb_X0_leave_35 {al : Bool} {n : Nat} {r8 : Nat → Int → Int → Int → gi_H → Option (gi_H)} {h1 : gi_H} (hr8 : ∀ (x0 : Nat) (x1 : Int) (x2 : Int) (x3 : Int) (hh : gi_H), r8 x0 x1 x2 x3 hh = some h1 → gx_Z mX0_leave al al 0 0 8 [(0, .ref x0), (1, .int (gI x1)), (2, .int (gI x2)), (3, .int (gI x3))] [] (gi_cv hh) (.inl none) (gi_cv h1)) {v0 : Nat} {v1 : Int} {v2 : Int} {v3 : Int}  {h : gi_H} (e : b_X0_leave_35 n r8 v0 v1 v2 v3 h = some h1) : gx_Z mX0_leave al al 0 0 35 [(0, .ref v0), (1, .int (gI v1)), (2, .int (gI v2)), (3, .int (gI v3))] [] (gi_cv h) (.inl none) (gi_cv h1) := by
  refine gx_nE e (fun t11 ht11 e => ?_)
  refine gy_iinc (v := t11) (ls2 := [(3, .int (gI t11)), (0, .ref v0), (1, .int (gI v1)), (2, .int (gI v2))]) dX0_leave_35 3 rfl ht11 (Nat.le_of_ble_eq_true rfl) rfl ?_
  refine gx_goto (tgt := 8) dX0_leave_38 (by decide) ?_
  refine gx_sub (ls2 := [(0, .ref v0), (1, .int (gI v1)), (2, .int (gI v2)), (3, .int (gI t11))]) [1, 2, 3, 0] rfl ?_
  exact hr8 _ _ _ _ _ e
set_option maxRecDepth 100000 in
def b_X0_leave_8 (n : Nat) (r8 : Nat → Int → Int → Int → gi_H → Option (gi_H)) (v0 : Nat) (v1 : Int) (v2 : Int) (v3 : Int)  (h : gi_H) : Option (gi_H) :=
  Option.bind (gi_rg v3) fun _ => if (32 : Int) ≤ v3 then (some h) else (Option.bind (gi_gI h v0 0 3) fun t5 => Option.bind (gi_rg t5) fun _ => if t5 = 0 then (Option.bind (f_X11_has v2 v3 h) fun q8 => Option.bind (gi_rg q8) fun _ => if q8 = 0 then (b_X0_leave_35 n r8 v0 v1 v2 v3 h) else (Option.bind (gi_is h v0 0) fun _ => Option.bind (f_X0_advance n v0 v1 v3 h) fun q13 => b_X0_leave_35 n r8 v0 v1 v2 v3 q13)) else (some h))
set_option maxRecDepth 100000 in
theorem zb_X0_leave_8 {al : Bool} {n : Nat} {r8 : Nat → Int → Int → Int → gi_H → Option (gi_H)} {h1 : gi_H} (hr8 : ∀ (x0 : Nat) (x1 : Int) (x2 : Int) (x3 : Int) (hh : gi_H), r8 x0 x1 x2 x3 hh = some h1 → gx_Z mX0_leave al al 0 0 8 [(0, .ref x0), (1, .int (gI x1)), (2, .int (gI x2)), (3, .int (gI x3))] [] (gi_cv hh) (.inl none) (gi_cv h1)) {v0 : Nat} {v1 : Int} {v2 : Int} {v3 : Int}  {h : gi_H} (e : b_X0_leave_8 n r8 v0 v1 v2 v3 h = some h1) : gx_Z mX0_leave al al 0 0 8 [(0, .ref v0), (1, .int (gI v1)), (2, .int (gI v2)), (3, .int (gI v3))] [] (gi_cv h) (.inl none) (gi_cv h1) := by
  refine gx_iload_n dX0_leave_8 rfl 3 rfl ?_
  refine gy_bipush dX0_leave_9 gcb_32 ?_
  refine gx_bE e (fun _ g3 e => ?_)
  refine gx_iE e (fun c4 e => ?_) (fun c4 e => ?_)
  · refine gy_icmp_ge (tgt := 41) (gi_rgS g3) (by decide) dX0_leave_11 (by decide) (fun _ => ?_) (fun z => absurd c4 z)
    cases e
    exact gx_vret dX0_leave_41 rfl ⟨Nat.le_of_ble_eq_true rfl, Nat.le_of_ble_eq_true rfl⟩ (fun z => z)
  · refine gy_icmp_ge (tgt := 41) (gi_rgS g3) (by decide) dX0_leave_11 (by decide) (fun z => absurd z c4) (fun _ => ?_)
    refine gx_aload_n dX0_leave_14 rfl 0 rfl ?_
    refine gx_bE e (fun t5 ht5 e => ?_)
    refine gy_fI ht5 dX0_leave_15 gf_RX0_39_0_3 (by decide) gkN_0_3 gkR_0_3 ?_
    refine gx_bE e (fun _ g6 e => ?_)
    refine gx_iE e (fun c7 e => ?_) (fun c7 e => ?_)
    · refine gy_if_ne (tgt := 41) (gi_rgS g6) dX0_leave_18 (by decide) (fun z => absurd c7 z) (fun _ => ?_)
      refine gx_iload_n dX0_leave_21 rfl 2 rfl ?_
      refine gx_iload_n dX0_leave_22 rfl 3 rfl ?_
      refine gx_bE e (fun q8 hq8 e => ?_)
      refine gx_callSN (n := 2) (st := []) (As := [.int (gI v2), .int (gI v3)]) dX0_leave_23 (z_X11_has hq8) rfl ⟨rfl, gw_cw_X11_has, gw_1, gp_X11_has, ⟨Nat.le_of_ble_eq_true rfl, Nat.le_of_ble_eq_true rfl⟩⟩ (host := "Grammarsmith") (by decide +kernel) gw_460 ⟨Nat.le_of_ble_eq_true rfl, Nat.le_of_ble_eq_true rfl⟩ (Nat.le_of_ble_eq_true rfl) (gy_k1 (x := .int (gI q8)) (kc2 := 0) (ks2 := 0) ⟨rfl, rfl⟩ ?_) gy_kn
      refine gx_bE e (fun _ g9 e => ?_)
      refine gx_iE e (fun c10 e => ?_) (fun c10 e => ?_)
      · refine gy_if_eq (tgt := 35) (gi_rgS g9) dX0_leave_26 (by decide) (fun _ => ?_) (fun z => absurd c10 z)
        exact zb_X0_leave_35 hr8 e
      · refine gy_if_eq (tgt := 35) (gi_rgS g9) dX0_leave_26 (by decide) (fun z => absurd z c10) (fun _ => ?_)
        refine gx_aload_n dX0_leave_29 rfl 0 rfl ?_
        refine gx_iload_n dX0_leave_30 rfl 1 rfl ?_
        refine gx_iload_n dX0_leave_31 rfl 3 rfl ?_
        refine gx_bE e (fun _ hu12 e => ?_)
        refine gx_bE e (fun q13 hq13 e => ?_)
        refine gx_callV (n := 2) (st := []) (As := [.int (gI v1), .int (gI v3)]) (b := v0) dX0_leave_32 (z_X0_advance hq13) rfl ⟨rfl, gw_cw_X0_advance, gw_7, gp_X0_advance, ⟨Nat.le_of_ble_eq_true rfl, Nat.le_of_ble_eq_true rfl⟩⟩ (gi_isS hu12) (by decide) gw_1027 gw_1029 gs_32 rfl ⟨Nat.le_of_ble_eq_true rfl, Nat.le_of_ble_eq_true rfl⟩ (Nat.le_of_ble_eq_true rfl) (gy_k0 (kc2 := 0) (ks2 := 0) ⟨rfl, rfl⟩ ?_) gy_kn
        exact zb_X0_leave_35 hr8 e
    · refine gy_if_ne (tgt := 41) (gi_rgS g6) dX0_leave_18 (by decide) (fun _ => ?_) (fun z => absurd z c7)
      cases e
      exact gx_vret dX0_leave_41 rfl ⟨Nat.le_of_ble_eq_true rfl, Nat.le_of_ble_eq_true rfl⟩ (fun z => z)
def l_X0_leave_8 (n : Nat)  : Nat → Nat → Int → Int → Int → gi_H → Option (gi_H)
  | 0, _, _, _, _, _ => none
  | k + 1, v0, v1, v2, v3, h => b_X0_leave_8 n  (l_X0_leave_8 n  k) v0 v1 v2 v3 h
theorem zl_X0_leave_8 {al : Bool} {n : Nat}  {h1 : gi_H}  : ∀ (k : Nat) (v0 : Nat) (v1 : Int) (v2 : Int) (v3 : Int) (h : gi_H), l_X0_leave_8 n  k v0 v1 v2 v3 h = some h1 → gx_Z mX0_leave al al 0 0 8 [(0, .ref v0), (1, .int (gI v1)), (2, .int (gI v2)), (3, .int (gI v3))] [] (gi_cv h) (.inl none) (gi_cv h1)
  | 0, _, _, _, _, _, e => gx_0E e
  | k + 1, _, _, _, _, _, e => zb_X0_leave_8 (n := n)  (zl_X0_leave_8  k) e
set_option maxRecDepth 100000 in
def f_X0_leave (n : Nat) (v0 : Nat) (v1 : Int) (h : gi_H) : Option (gi_H) :=
  Option.bind (gi_is h v0 0) fun _ => Option.bind (f_X0_symbolsInFront n v0 v1 h) fun q2 => l_X0_leave_8 n  n v0 v1 q2 (0 : Int) h
set_option maxRecDepth 100000 in
theorem z_X0_leave {al : Bool} {n : Nat} {v0 : Nat} {v1 : Int} {h : gi_H} {h1 : gi_H} (e : f_X0_leave n v0 v1 h = some h1) : gx_Cw mX0_leave al [.ref v0, .int (gI v1)] (gi_cv h) (.inl none) (gi_cv h1) := by
  refine gx_enter (by decide +kernel) rfl (Nat.le_of_ble_eq_true rfl) ?_
  show gx_Z mX0_leave al al 0 0 0 [(0, .ref v0), (1, .int (gI v1))] [] (gi_cv h) (.inl none) (gi_cv h1)
  refine gx_aload_n dX0_leave_0 rfl 0 rfl ?_
  refine gx_iload_n dX0_leave_1 rfl 1 rfl ?_
  refine gx_bE e (fun _ hu1 e => ?_)
  refine gx_bE e (fun q2 hq2 e => ?_)
  refine gx_callV (n := 1) (st := []) (As := [.int (gI v1)]) (b := v0) dX0_leave_2 (z_X0_symbolsInFront hq2) rfl ⟨rfl, gw_cw_X0_symbolsInFront, gw_7, gp_X0_symbolsInFront, ⟨Nat.le_of_ble_eq_true rfl, Nat.le_of_ble_eq_true rfl⟩⟩ (gi_isS hu1) (by decide) gw_1022 gw_1024 gs_31 rfl ⟨Nat.le_of_ble_eq_true rfl, Nat.le_of_ble_eq_true rfl⟩ (Nat.le_of_ble_eq_true rfl) (gy_k1 (x := .int (gI q2)) (kc2 := 0) (ks2 := 0) ⟨rfl, rfl⟩ ?_) gy_kn
  refine gx_istore_n (ls2 := [(2, .int (gI q2)), (0, .ref v0), (1, .int (gI v1))]) dX0_leave_5 rfl (Nat.le_of_ble_eq_true rfl) rfl ?_
  refine gy_iconst dX0_leave_6 ?_
  refine gx_istore_n (ls2 := [(3, .int (gI (0 : Int))), (2, .int (gI q2)), (0, .ref v0), (1, .int (gI v1))]) dX0_leave_7 rfl (Nat.le_of_ble_eq_true rfl) rfl ?_
  refine gx_sub (ls2 := [(0, .ref v0), (1, .int (gI v1)), (2, .int (gI q2)), (3, .int (gI (0 : Int)))]) [2, 3, 1, 0] rfl ?_
  exact zl_X0_leave_8  n _ _ _ _ _ e
/-! X0_build  -/
set_option maxRecDepth 100000 in
def b_X0_build_129 (n : Nat)  (v0 : Nat)  (h : gi_H) : Option (gi_H) :=
  Option.bind (gi_pZ h v0 0 2 (1 : Int)) fun h14 => some h14
set_option maxRecDepth 100000 in
theorem zb_X0_build_129 {al : Bool} {n : Nat}  {h1 : gi_H}  {v0 : Nat}  {h : gi_H} (e : b_X0_build_129 n v0 h = some h1) : gx_Z mX0_build al al 0 0 129 [(0, .ref v0)] [] (gi_cv h) (.inl none) (gi_cv h1) := by
  refine gx_aload_n dX0_build_129 rfl 0 rfl ?_
  refine gy_iconst dX0_build_130 ?_
  refine gx_bE e (fun h14 hh14 e => ?_)
  refine gy_qZ hh14 dX0_build_131 gf_RX0_36_0_2 (by decide) gkN_0_2 rfl (Or.inl rfl) ?_
  cases e
  exact gx_vret dX0_build_134 rfl ⟨Nat.le_of_ble_eq_true rfl, Nat.le_of_ble_eq_true rfl⟩ (fun z => z)
set_option maxRecDepth 100000 in
def b_X0_build_123 (n : Nat) (r47 : Nat → Int → Int → gi_H → Option (gi_H)) (v0 : Nat) (v1 : Int) (v2 : Int)  (h : gi_H) : Option (gi_H) :=
  gx_nm (v2 + (1 : Int)) fun t24 => r47 v0 v1 t24 h
set_option maxRecDepth 100000 in
theorem zb_X0_build_123 {al : Bool} {n : Nat} {r47 : Nat → Int → Int → gi_H → Option (gi_H)} {h1 : gi_H} (hr47 : ∀ (x0 : Nat) (x1 : Int) (x2 : Int) (hh : gi_H), r47 x0 x1 x2 hh = some h1 → gx_Z mX0_build al al 0 0 47 [(0, .ref x0), (1, .int (gI x1)), (2, .int (gI x2))] [] (gi_cv hh) (.inl none) (gi_cv h1)) {v0 : Nat} {v1 : Int} {v2 : Int}  {h : gi_H} (e : b_X0_build_123 n r47 v0 v1 v2 h = some h1) : gx_Z mX0_build al al 0 0 123 [(0, .ref v0), (1, .int (gI v1)), (2, .int (gI v2))] [] (gi_cv h) (.inl none) (gi_cv h1) := by
  refine gx_nE e (fun t24 ht24 e => ?_)
  refine gy_iinc (v := t24) (ls2 := [(2, .int (gI t24)), (0, .ref v0), (1, .int (gI v1))]) dX0_build_123 2 rfl ht24 (Nat.le_of_ble_eq_true rfl) rfl ?_
  refine gx_goto (tgt := 47) dX0_build_126 (by decide) ?_
  refine gx_sub (ls2 := [(0, .ref v0), (1, .int (gI v1)), (2, .int (gI t24))]) [1, 2, 0] rfl ?_
  exact hr47 _ _ _ _ e
set_option maxRecDepth 100000 in
def b_X0_build_117 (n : Nat) (r47 : Nat → Int → Int → gi_H → Option (gi_H)) (r68 : Nat → Int → Int → Int → gi_H → Option (gi_H)) (v0 : Nat) (v1 : Int) (v2 : Int) (v3 : Int)  (h : gi_H) : Option (gi_H) :=
  gx_nm (v3 + (1 : Int)) fun t33 => r68 v0 v1 v2 t33 h
set_option maxRecDepth 100000 in
theorem zb_X0_build_117 {al : Bool} {n : Nat} {r47 : Nat → Int → Int → gi_H → Option (gi_H)} {r68 : Nat → Int → Int → Int → gi_H → Option (gi_H)} {h1 : gi_H} (hr47 : ∀ (x0 : Nat) (x1 : Int) (x2 : Int) (hh : gi_H), r47 x0 x1 x2 hh = some h1 → gx_Z mX0_build al al 0 0 47 [(0, .ref x0), (1, .int (gI x1)), (2, .int (gI x2))] [] (gi_cv hh) (.inl none) (gi_cv h1)) (hr68 : ∀ (x0 : Nat) (x1 : Int) (x2 : Int) (x3 : Int) (hh : gi_H), r68 x0 x1 x2 x3 hh = some h1 → gx_Z mX0_build al al 0 0 68 [(0, .ref x0), (1, .int (gI x1)), (2, .int (gI x2)), (3, .int (gI x3))] [] (gi_cv hh) (.inl none) (gi_cv h1)) {v0 : Nat} {v1 : Int} {v2 : Int} {v3 : Int}  {h : gi_H} (e : b_X0_build_117 n r47 r68 v0 v1 v2 v3 h = some h1) : gx_Z mX0_build al al 0 0 117 [(0, .ref v0), (1, .int (gI v1)), (2, .int (gI v2)), (3, .int (gI v3))] [] (gi_cv h) (.inl none) (gi_cv h1) := by
  refine gx_nE e (fun t33 ht33 e => ?_)
  refine gy_iinc (v := t33) (ls2 := [(3, .int (gI t33)), (0, .ref v0), (1, .int (gI v1)), (2, .int (gI v2))]) dX0_build_117 3 rfl ht33 (Nat.le_of_ble_eq_true rfl) rfl ?_
  refine gx_goto (tgt := 68) dX0_build_120 (by decide) ?_
  refine gx_sub (ls2 := [(0, .ref v0), (1, .int (gI v1)), (2, .int (gI v2)), (3, .int (gI t33))]) [1, 2, 3, 0] rfl ?_
  exact hr68 _ _ _ _ _ e
set_option maxRecDepth 100000 in
def b_X0_build_68 (n : Nat) (r47 : Nat → Int → Int → gi_H → Option (gi_H)) (r68 : Nat → Int → Int → Int → gi_H → Option (gi_H)) (v0 : Nat) (v1 : Int) (v2 : Int) (v3 : Int)  (h : gi_H) : Option (gi_H) :=
  Option.bind (gi_gI h v0 0 4) fun t20 => Option.bind (gi_rg v3) fun _ => Option.bind (gi_rg t20) fun _ => if t20 ≤ v3 then (b_X0_build_123 n r47 v0 v1 v2 h) else (if (80 : Int) ≤ v3 then (b_X0_build_123 n r47 v0 v1 v2 h) else (Option.bind (gi_gI h v0 0 3) fun t26 => Option.bind (gi_rg t26) fun _ => if t26 = 0 then (Option.bind (gi_gR h v0 0 8) fun t29 => Option.bind (gi_aI h 4 t29 v3) fun t30 => Option.bind (gi_rg t30) fun _ => if t30 = 0 then (b_X0_build_117 n r47 r68 v0 v1 v2 v3 h) else (Option.bind (gi_gR h v0 0 8) fun t34 => Option.bind (gi_s4 h t34 v3 (0 : Int)) fun h35 => Option.bind (gi_is h35 v0 0) fun _ => Option.bind (f_X0_complete n v0 v3 h35) fun q37 => Option.bind (gi_is q37 v0 0) fun _ => Option.bind (f_X0_leave n v0 v3 q37) fun q39 => b_X0_build_117 n r47 r68 v0 (1 : Int) v2 v3 q39)) else (b_X0_build_123 n r47 v0 v1 v2 h)))
set_option maxRecDepth 100000 in
theorem zb_X0_build_68 {al : Bool} {n : Nat} {r47 : Nat → Int → Int → gi_H → Option (gi_H)} {r68 : Nat → Int → Int → Int → gi_H → Option (gi_H)} {h1 : gi_H} (hr47 : ∀ (x0 : Nat) (x1 : Int) (x2 : Int) (hh : gi_H), r47 x0 x1 x2 hh = some h1 → gx_Z mX0_build al al 0 0 47 [(0, .ref x0), (1, .int (gI x1)), (2, .int (gI x2))] [] (gi_cv hh) (.inl none) (gi_cv h1)) (hr68 : ∀ (x0 : Nat) (x1 : Int) (x2 : Int) (x3 : Int) (hh : gi_H), r68 x0 x1 x2 x3 hh = some h1 → gx_Z mX0_build al al 0 0 68 [(0, .ref x0), (1, .int (gI x1)), (2, .int (gI x2)), (3, .int (gI x3))] [] (gi_cv hh) (.inl none) (gi_cv h1)) {v0 : Nat} {v1 : Int} {v2 : Int} {v3 : Int}  {h : gi_H} (e : b_X0_build_68 n r47 r68 v0 v1 v2 v3 h = some h1) : gx_Z mX0_build al al 0 0 68 [(0, .ref v0), (1, .int (gI v1)), (2, .int (gI v2)), (3, .int (gI v3))] [] (gi_cv h) (.inl none) (gi_cv h1) := by
  refine gx_iload_n dX0_build_68 rfl 3 rfl ?_
  refine gx_aload_n dX0_build_69 rfl 0 rfl ?_
  refine gx_bE e (fun t20 ht20 e => ?_)
  refine gy_fI ht20 dX0_build_70 gf_RX0_42_0_4 (by decide) gkN_0_4 gkR_0_4 ?_
  refine gx_bE e (fun _ g21 e => ?_)
  refine gx_bE e (fun _ g22 e => ?_)
  refine gx_iE e (fun c23 e => ?_) (fun c23 e => ?_)
  · refine gy_icmp_ge (tgt := 123) (gi_rgS g21) (gi_rgS g22) dX0_build_73 (by decide) (fun _ => ?_) (fun z => absurd c23 z)
    refine gx_sub (ls2 := [(0, .ref v0), (1, .int (gI v1)), (2, .int (gI v2))]) [0, 1, 2] rfl ?_
    exact zb_X0_build_123 hr47 e
  · refine gy_icmp_ge (tgt := 123) (gi_rgS g21) (gi_rgS g22) dX0_build_73 (by decide) (fun z => absurd z c23) (fun _ => ?_)
    refine gx_iload_n dX0_build_76 rfl 3 rfl ?_
    refine gy_bipush dX0_build_77 gcb_80 ?_
    refine gx_iE e (fun c25 e => ?_) (fun c25 e => ?_)
    · refine gy_icmp_ge (tgt := 123) (gi_rgS g21) (by decide) dX0_build_79 (by decide) (fun _ => ?_) (fun z => absurd c25 z)
      refine gx_sub (ls2 := [(0, .ref v0), (1, .int (gI v1)), (2, .int (gI v2))]) [0, 1, 2] rfl ?_
      exact zb_X0_build_123 hr47 e
    · refine gy_icmp_ge (tgt := 123) (gi_rgS g21) (by decide) dX0_build_79 (by decide) (fun z => absurd z c25) (fun _ => ?_)
      refine gx_aload_n dX0_build_82 rfl 0 rfl ?_
      refine gx_bE e (fun t26 ht26 e => ?_)
      refine gy_fI ht26 dX0_build_83 gf_RX0_39_0_3 (by decide) gkN_0_3 gkR_0_3 ?_
      refine gx_bE e (fun _ g27 e => ?_)
      refine gx_iE e (fun c28 e => ?_) (fun c28 e => ?_)
      · refine gy_if_ne (tgt := 123) (gi_rgS g27) dX0_build_86 (by decide) (fun z => absurd c28 z) (fun _ => ?_)
        refine gx_aload_n dX0_build_89 rfl 0 rfl ?_
        refine gx_bE e (fun t29 ht29 e => ?_)
        refine gy_fR ht29 dX0_build_90 gf_RX0_21_0_8 (by decide) gkN_0_8 gkR_0_8 ?_
        refine gx_iload_n dX0_build_93 rfl 3 rfl ?_
        refine gx_bE e (fun t30 ht30 e => ?_)
        refine gy_l4 ht30 dX0_build_94 ?_
        refine gx_bE e (fun _ g31 e => ?_)
        refine gx_iE e (fun c32 e => ?_) (fun c32 e => ?_)
        · refine gy_if_eq (tgt := 117) (gi_rgS g31) dX0_build_95 (by decide) (fun _ => ?_) (fun z => absurd c32 z)
          exact zb_X0_build_117 hr47 hr68 e
        · refine gy_if_eq (tgt := 117) (gi_rgS g31) dX0_build_95 (by decide) (fun z => absurd z c32) (fun _ => ?_)
          refine gx_aload_n dX0_build_98 rfl 0 rfl ?_
          refine gx_bE e (fun t34 ht34 e => ?_)
          refine gy_fR ht34 dX0_build_99 gf_RX0_21_0_8 (by decide) gkN_0_8 gkR_0_8 ?_
          refine gx_iload_n dX0_build_102 rfl 3 rfl ?_
          refine gy_iconst dX0_build_103 ?_
          refine gx_bE e (fun h35 hh35 e => ?_)
          refine gy_t4 hh35 dX0_build_104 ?_
          refine gx_aload_n dX0_build_105 rfl 0 rfl ?_
          refine gx_iload_n dX0_build_106 rfl 3 rfl ?_
          refine gx_bE e (fun _ hu36 e => ?_)
          refine gx_bE e (fun q37 hq37 e => ?_)
          refine gx_callV (n := 1) (st := []) (As := [.int (gI v3)]) (b := v0) dX0_build_107 (z_X0_complete hq37) rfl ⟨rfl, gw_cw_X0_complete, gw_7, gp_X0_complete, ⟨Nat.le_of_ble_eq_true rfl, Nat.le_of_ble_eq_true rfl⟩⟩ (gi_isS hu36) (by decide) gw_989 gw_991 gs_27 rfl ⟨Nat.le_of_ble_eq_true rfl, Nat.le_of_ble_eq_true rfl⟩ (Nat.le_of_ble_eq_true rfl) (gy_k0 (kc2 := 0) (ks2 := 0) ⟨rfl, rfl⟩ ?_) gy_kn
          refine gx_aload_n dX0_build_110 rfl 0 rfl ?_
          refine gx_iload_n dX0_build_111 rfl 3 rfl ?_
          refine gx_bE e (fun _ hu38 e => ?_)
          refine gx_bE e (fun q39 hq39 e => ?_)
          refine gx_callV (n := 1) (st := []) (As := [.int (gI v3)]) (b := v0) dX0_build_112 (z_X0_leave hq39) rfl ⟨rfl, gw_cw_X0_leave, gw_7, gp_X0_leave, ⟨Nat.le_of_ble_eq_true rfl, Nat.le_of_ble_eq_true rfl⟩⟩ (gi_isS hu38) (by decide) gw_1018 gw_1020 gs_30 rfl ⟨Nat.le_of_ble_eq_true rfl, Nat.le_of_ble_eq_true rfl⟩ (Nat.le_of_ble_eq_true rfl) (gy_k0 (kc2 := 0) (ks2 := 0) ⟨rfl, rfl⟩ ?_) gy_kn
          refine gy_iconst dX0_build_115 ?_
          refine gx_istore_n (ls2 := [(1, .int (gI (1 : Int))), (0, .ref v0), (2, .int (gI v2)), (3, .int (gI v3))]) dX0_build_116 rfl (Nat.le_of_ble_eq_true rfl) rfl ?_
          refine gx_sub (ls2 := [(0, .ref v0), (1, .int (gI (1 : Int))), (2, .int (gI v2)), (3, .int (gI v3))]) [1, 0, 2, 3] rfl ?_
          exact zb_X0_build_117 hr47 hr68 e
      · refine gy_if_ne (tgt := 123) (gi_rgS g27) dX0_build_86 (by decide) (fun _ => ?_) (fun z => absurd z c28)
        refine gx_sub (ls2 := [(0, .ref v0), (1, .int (gI v1)), (2, .int (gI v2))]) [0, 1, 2] rfl ?_
        exact zb_X0_build_123 hr47 e
def l_X0_build_68 (n : Nat) (r47 : Nat → Int → Int → gi_H → Option (gi_H)) : Nat → Nat → Int → Int → Int → gi_H → Option (gi_H)
  | 0, _, _, _, _, _ => none
  | k + 1, v0, v1, v2, v3, h => b_X0_build_68 n r47 (l_X0_build_68 n r47 k) v0 v1 v2 v3 h
theorem zl_X0_build_68 {al : Bool} {n : Nat} {r47 : Nat → Int → Int → gi_H → Option (gi_H)} {h1 : gi_H} (hr47 : ∀ (x0 : Nat) (x1 : Int) (x2 : Int) (hh : gi_H), r47 x0 x1 x2 hh = some h1 → gx_Z mX0_build al al 0 0 47 [(0, .ref x0), (1, .int (gI x1)), (2, .int (gI x2))] [] (gi_cv hh) (.inl none) (gi_cv h1)) : ∀ (k : Nat) (v0 : Nat) (v1 : Int) (v2 : Int) (v3 : Int) (h : gi_H), l_X0_build_68 n r47 k v0 v1 v2 v3 h = some h1 → gx_Z mX0_build al al 0 0 68 [(0, .ref v0), (1, .int (gI v1)), (2, .int (gI v2)), (3, .int (gI v3))] [] (gi_cv h) (.inl none) (gi_cv h1)
  | 0, _, _, _, _, _, e => gx_0E e
  | k + 1, _, _, _, _, _, e => zb_X0_build_68 (n := n) hr47 (zl_X0_build_68 hr47 k) e
set_option maxRecDepth 100000 in
def b_X0_build_47 (n : Nat) (r47 : Nat → Int → Int → gi_H → Option (gi_H)) (v0 : Nat) (v1 : Int) (v2 : Int)  (h : gi_H) : Option (gi_H) :=
  Option.bind (gi_rg v2) fun _ => if (1000000 : Int) ≤ v2 then (b_X0_build_129 n  v0 h) else (Option.bind (gi_rg v1) fun _ => if v1 = 0 then (b_X0_build_129 n  v0 h) else (Option.bind (gi_gI h v0 0 3) fun t17 => Option.bind (gi_rg t17) fun _ => if t17 = 0 then (l_X0_build_68 n r47 n v0 (0 : Int) v2 (0 : Int) h) else (b_X0_build_129 n  v0 h)))
set_option maxRecDepth 100000 in
theorem zb_X0_build_47 {al : Bool} {n : Nat} {r47 : Nat → Int → Int → gi_H → Option (gi_H)} {h1 : gi_H} (hr47 : ∀ (x0 : Nat) (x1 : Int) (x2 : Int) (hh : gi_H), r47 x0 x1 x2 hh = some h1 → gx_Z mX0_build al al 0 0 47 [(0, .ref x0), (1, .int (gI x1)), (2, .int (gI x2))] [] (gi_cv hh) (.inl none) (gi_cv h1)) {v0 : Nat} {v1 : Int} {v2 : Int}  {h : gi_H} (e : b_X0_build_47 n r47 v0 v1 v2 h = some h1) : gx_Z mX0_build al al 0 0 47 [(0, .ref v0), (1, .int (gI v1)), (2, .int (gI v2))] [] (gi_cv h) (.inl none) (gi_cv h1) := by
  refine gx_iload_n dX0_build_47 rfl 2 rfl ?_
  refine gy_ldc (n := 1000000) dX0_build_48 gw_988 (by decide +kernel) ?_
  refine gx_bE e (fun _ g12 e => ?_)
  refine gx_iE e (fun c13 e => ?_) (fun c13 e => ?_)
  · refine gy_icmp_ge (tgt := 129) (gi_rgS g12) (by decide) dX0_build_50 (by decide) (fun _ => ?_) (fun z => absurd c13 z)
    refine gx_sub (ls2 := [(0, .ref v0)]) [0] rfl ?_
    exact zb_X0_build_129  e
  · refine gy_icmp_ge (tgt := 129) (gi_rgS g12) (by decide) dX0_build_50 (by decide) (fun z => absurd z c13) (fun _ => ?_)
    refine gx_iload_n dX0_build_53 rfl 1 rfl ?_
    refine gx_bE e (fun _ g15 e => ?_)
    refine gx_iE e (fun c16 e => ?_) (fun c16 e => ?_)
    · refine gy_if_eq (tgt := 129) (gi_rgS g15) dX0_build_54 (by decide) (fun _ => ?_) (fun z => absurd c16 z)
      refine gx_sub (ls2 := [(0, .ref v0)]) [0] rfl ?_
      exact zb_X0_build_129  e
    · refine gy_if_eq (tgt := 129) (gi_rgS g15) dX0_build_54 (by decide) (fun z => absurd z c16) (fun _ => ?_)
      refine gx_aload_n dX0_build_57 rfl 0 rfl ?_
      refine gx_bE e (fun t17 ht17 e => ?_)
      refine gy_fI ht17 dX0_build_58 gf_RX0_39_0_3 (by decide) gkN_0_3 gkR_0_3 ?_
      refine gx_bE e (fun _ g18 e => ?_)
      refine gx_iE e (fun c19 e => ?_) (fun c19 e => ?_)
      · refine gy_if_ne (tgt := 129) (gi_rgS g18) dX0_build_61 (by decide) (fun z => absurd c19 z) (fun _ => ?_)
        refine gy_iconst dX0_build_64 ?_
        refine gx_istore_n (ls2 := [(1, .int (gI (0 : Int))), (0, .ref v0), (2, .int (gI v2))]) dX0_build_65 rfl (Nat.le_of_ble_eq_true rfl) rfl ?_
        refine gy_iconst dX0_build_66 ?_
        refine gx_istore_n (ls2 := [(3, .int (gI (0 : Int))), (1, .int (gI (0 : Int))), (0, .ref v0), (2, .int (gI v2))]) dX0_build_67 rfl (Nat.le_of_ble_eq_true rfl) rfl ?_
        refine gx_sub (ls2 := [(0, .ref v0), (1, .int (gI (0 : Int))), (2, .int (gI v2)), (3, .int (gI (0 : Int)))]) [2, 1, 3, 0] rfl ?_
        exact zl_X0_build_68 hr47 n _ _ _ _ _ e
      · refine gy_if_ne (tgt := 129) (gi_rgS g18) dX0_build_61 (by decide) (fun _ => ?_) (fun z => absurd z c19)
        refine gx_sub (ls2 := [(0, .ref v0)]) [0] rfl ?_
        exact zb_X0_build_129  e
def l_X0_build_47 (n : Nat)  : Nat → Nat → Int → Int → gi_H → Option (gi_H)
  | 0, _, _, _, _ => none
  | k + 1, v0, v1, v2, h => b_X0_build_47 n  (l_X0_build_47 n  k) v0 v1 v2 h
theorem zl_X0_build_47 {al : Bool} {n : Nat}  {h1 : gi_H}  : ∀ (k : Nat) (v0 : Nat) (v1 : Int) (v2 : Int) (h : gi_H), l_X0_build_47 n  k v0 v1 v2 h = some h1 → gx_Z mX0_build al al 0 0 47 [(0, .ref v0), (1, .int (gI v1)), (2, .int (gI v2))] [] (gi_cv h) (.inl none) (gi_cv h1)
  | 0, _, _, _, _, e => gx_0E e
  | k + 1, _, _, _, _, e => zb_X0_build_47 (n := n)  (zl_X0_build_47  k) e
set_option maxRecDepth 100000 in
def f_X0_build (n : Nat) (v0 : Nat) (h : gi_H) : Option (gi_H) :=
  Option.bind (gi_gI h v0 0 2) fun t1 => Option.bind (gi_rg t1) fun _ => if t1 = 0 then (Option.bind (gi_pI h v0 0 4 (0 : Int)) fun h4 => Option.bind (gi_pZ h4 v0 0 3 (0 : Int)) fun h5 => Option.bind (gi_gR h5 v0 0 9) fun t6 => Option.bind (f_J7_fill_53178 n t6 (0 : Int) h5) fun q7 => Option.bind (gi_gR q7 v0 0 9) fun t8 => Option.bind (gi_s1 q7 t8 (144 : Int) (768 : Int)) fun h9 => Option.bind (gi_is h9 v0 0) fun _ => Option.bind (f_X0_addState n v0 (-1 : Int) h9) fun q11 => l_X0_build_47 n  n v0 (1 : Int) (0 : Int) q11.2) else (some h)
set_option maxRecDepth 100000 in
theorem z_X0_build {al : Bool} {n : Nat} {v0 : Nat} {h : gi_H} {h1 : gi_H} (e : f_X0_build n v0 h = some h1) : gx_Cw mX0_build al [.ref v0] (gi_cv h) (.inl none) (gi_cv h1) := by
  refine gx_enter (by decide +kernel) rfl (Nat.le_of_ble_eq_true rfl) ?_
  show gx_Z mX0_build al al 0 0 0 [(0, .ref v0)] [] (gi_cv h) (.inl none) (gi_cv h1)
  refine gx_aload_n dX0_build_0 rfl 0 rfl ?_
  refine gx_bE e (fun t1 ht1 e => ?_)
  refine gy_fI ht1 dX0_build_1 gf_RX0_36_0_2 (by decide) gkN_0_2 gkR_0_2 ?_
  refine gx_bE e (fun _ g2 e => ?_)
  refine gx_iE e (fun c3 e => ?_) (fun c3 e => ?_)
  · refine gy_if_eq (tgt := 8) (gi_rgS g2) dX0_build_4 (by decide) (fun _ => ?_) (fun z => absurd c3 z)
    refine gx_aload_n dX0_build_8 rfl 0 rfl ?_
    refine gy_iconst dX0_build_9 ?_
    refine gx_bE e (fun h4 hh4 e => ?_)
    refine gy_qI hh4 dX0_build_10 gf_RX0_42_0_4 (by decide) gkN_0_4 rfl (Or.inl rfl) ?_
    refine gx_aload_n dX0_build_13 rfl 0 rfl ?_
    refine gy_iconst dX0_build_14 ?_
    refine gx_bE e (fun h5 hh5 e => ?_)
    refine gy_qZ hh5 dX0_build_15 gf_RX0_39_0_3 (by decide) gkN_0_3 rfl (Or.inl rfl) ?_
    refine gx_aload_n dX0_build_18 rfl 0 rfl ?_
    refine gx_bE e (fun t6 ht6 e => ?_)
    refine gy_fR ht6 dX0_build_19 gf_RX0_25_0_9 (by decide) gkN_0_9 gkR_0_9 ?_
    refine gy_iconst dX0_build_22 ?_
    refine gx_bE e (fun q7 hq7 e => ?_)
    refine gx_callS (n := 2) (st := []) (As := [.ref t6, .int (gI (0 : Int))]) dX0_build_23 (z_J7_fill_53178 hq7) rfl ⟨rfl, gw_cw_J7_fill_53178, gw_5, gp_J7_fill_53178, ⟨Nat.le_of_ble_eq_true rfl, Nat.le_of_ble_eq_true rfl⟩⟩ gw_983 gw_98 ⟨Nat.le_of_ble_eq_true rfl, Nat.le_of_ble_eq_true rfl⟩ (Nat.le_of_ble_eq_true rfl) (gy_k0 (kc2 := 0) (ks2 := 0) ⟨rfl, rfl⟩ ?_) gy_kn
    refine gx_aload_n dX0_build_26 rfl 0 rfl ?_
    refine gx_bE e (fun t8 ht8 e => ?_)
    refine gy_fR ht8 dX0_build_27 gf_RX0_25_0_9 (by decide) gkN_0_9 gkR_0_9 ?_
    refine gy_sipush dX0_build_30 gcs_144 ?_
    refine gy_sipush dX0_build_33 gcs_768 ?_
    refine gx_bE e (fun h9 hh9 e => ?_)
    refine gy_t1 hh9 dX0_build_36 ?_
    refine gx_aload_n dX0_build_37 rfl 0 rfl ?_
    refine gy_iconst dX0_build_38 ?_
    refine gx_bE e (fun _ hu10 e => ?_)
    refine gx_bE e (fun q11 hq11 e => ?_)
    refine gx_callV (n := 1) (st := []) (As := [.int (gI (-1 : Int))]) (b := v0) dX0_build_39 (z_X0_addState hq11) rfl ⟨rfl, gw_cw_X0_addState, gw_7, gp_X0_addState, ⟨Nat.le_of_ble_eq_true rfl, Nat.le_of_ble_eq_true rfl⟩⟩ (gi_isS hu10) (by decide) gw_984 gw_986 gs_26 rfl ⟨Nat.le_of_ble_eq_true rfl, Nat.le_of_ble_eq_true rfl⟩ (Nat.le_of_ble_eq_true rfl) (gy_k1 (x := .int (gI q11.1)) (kc2 := 0) (ks2 := 0) ⟨rfl, rfl⟩ ?_) gy_kn
    refine gx_pop dX0_build_42 rfl ?_
    refine gy_iconst dX0_build_43 ?_
    refine gx_istore_n (ls2 := [(1, .int (gI (1 : Int))), (0, .ref v0)]) dX0_build_44 rfl (Nat.le_of_ble_eq_true rfl) rfl ?_
    refine gy_iconst dX0_build_45 ?_
    refine gx_istore_n (ls2 := [(2, .int (gI (0 : Int))), (1, .int (gI (1 : Int))), (0, .ref v0)]) dX0_build_46 rfl (Nat.le_of_ble_eq_true rfl) rfl ?_
    refine gx_sub (ls2 := [(0, .ref v0), (1, .int (gI (1 : Int))), (2, .int (gI (0 : Int)))]) [2, 1, 0] rfl ?_
    exact zl_X0_build_47  n _ _ _ _ e
  · refine gy_if_eq (tgt := 8) (gi_rgS g2) dX0_build_4 (by decide) (fun z => absurd z c3) (fun _ => ?_)
    cases e
    exact gx_vret dX0_build_7 rfl ⟨Nat.le_of_ble_eq_true rfl, Nat.le_of_ble_eq_true rfl⟩ (fun z => z)
/-! X11_table  -/
set_option maxRecDepth 100000 in
def f_X11_table (n : Nat) (v0 : Nat) (v1 : Int) (h : gi_H) : Option (Nat × gi_H) :=
  Option.bind (gi_gR h v0 9 8) fun t1 => Option.bind (gi_is h t1 2) fun _ => Option.bind (f_X3_learn n t1 h) fun q3 => Option.bind (gi_rg v1) fun _ => if v1 = 0 then (Option.bind (gi_gR q3 v0 9 11) fun t6 => some (t6, q3)) else (if v1 = (3 : Int) then (Option.bind (gi_gR q3 v0 9 10) fun t8 => Option.bind (gi_is q3 t8 0) fun _ => Option.bind (f_X0_build n t8 q3) fun q10 => Option.bind (gi_gR q10 v0 9 14) fun t11 => some (t11, q10)) else (Option.bind (gi_gR q3 v0 9 9) fun t12 => Option.bind (gi_is q3 t12 0) fun _ => Option.bind (f_X0_build n t12 q3) fun q14 => if v1 = (1 : Int) then (Option.bind (gi_gR q14 v0 9 12) fun t16 => some (t16, q14)) else (Option.bind (gi_gR q14 v0 9 13) fun t17 => some (t17, q14))))
set_option maxRecDepth 100000 in
theorem z_X11_table {al : Bool} {n : Nat} {v0 : Nat} {v1 : Int} {h : gi_H} {res : Nat} {h1 : gi_H} (e : f_X11_table n v0 v1 h = some (res, h1)) : gx_Cw mX11_table al [.ref v0, .int (gI v1)] (gi_cv h) (.inl (some (.ref res))) (gi_cv h1) := by
  refine gx_enter (by decide +kernel) rfl (Nat.le_of_ble_eq_true rfl) ?_
  show gx_Z mX11_table al al 0 0 0 [(0, .ref v0), (1, .int (gI v1))] [] (gi_cv h) (.inl (some (.ref res))) (gi_cv h1)
  refine gx_aload_n dX11_table_0 rfl 0 rfl ?_
  refine gx_bE e (fun t1 ht1 e => ?_)
  refine gy_fR ht1 dX11_table_1 gf_RX11_52_9_8 (by decide) gkN_9_8 gkR_9_8 ?_
  refine gx_bE e (fun _ hu2 e => ?_)
  refine gx_bE e (fun q3 hq3 e => ?_)
  refine gx_callV (n := 0) (st := []) (As := []) (b := t1) dX11_table_4 (z_X3_learn hq3) rfl ⟨rfl, gw_cw_X3_learn, gw_6, gp_X3_learn, ⟨Nat.le_of_ble_eq_true rfl, Nat.le_of_ble_eq_true rfl⟩⟩ (gi_isS hu2) (by decide) gw_391 gw_392 gw_393 rfl ⟨Nat.le_of_ble_eq_true rfl, Nat.le_of_ble_eq_true rfl⟩ (Nat.le_of_ble_eq_true rfl) (gy_k0 (kc2 := 0) (ks2 := 0) ⟨rfl, rfl⟩ ?_) gy_kn
  refine gx_iload_n dX11_table_7 rfl 1 rfl ?_
  refine gx_bE e (fun _ g4 e => ?_)
  refine gx_iE e (fun c5 e => ?_) (fun c5 e => ?_)
  · refine gy_if_ne (tgt := 16) (gi_rgS g4) dX11_table_8 (by decide) (fun z => absurd c5 z) (fun _ => ?_)
    refine gx_aload_n dX11_table_11 rfl 0 rfl ?_
    refine gx_bE e (fun t6 ht6 e => ?_)
    refine gy_fR ht6 dX11_table_12 gf_RX11_68_9_11 (by decide) gkN_9_11 gkR_9_11 ?_
    cases e
    exact gx_aret dX11_table_15 rfl ⟨Nat.le_of_ble_eq_true rfl, Nat.le_of_ble_eq_true rfl⟩ (fun z => z)
  · refine gy_if_ne (tgt := 16) (gi_rgS g4) dX11_table_8 (by decide) (fun _ => ?_) (fun z => absurd z c5)
    refine gx_iload_n dX11_table_16 rfl 1 rfl ?_
    refine gy_iconst dX11_table_17 ?_
    refine gx_iE e (fun c7 e => ?_) (fun c7 e => ?_)
    · refine gy_icmp_ne (tgt := 33) (gi_rgS g4) (by decide) dX11_table_18 (by decide) (fun z => absurd c7 z) (fun _ => ?_)
      refine gx_aload_n dX11_table_21 rfl 0 rfl ?_
      refine gx_bE e (fun t8 ht8 e => ?_)
      refine gy_fR ht8 dX11_table_22 gf_RX11_60_9_10 (by decide) gkN_9_10 gkR_9_10 ?_
      refine gx_bE e (fun _ hu9 e => ?_)
      refine gx_bE e (fun q10 hq10 e => ?_)
      refine gx_callV (n := 0) (st := []) (As := []) (b := t8) dX11_table_25 (z_X0_build hq10) rfl ⟨rfl, gw_cw_X0_build, gw_7, gp_X0_build, ⟨Nat.le_of_ble_eq_true rfl, Nat.le_of_ble_eq_true rfl⟩⟩ (gi_isS hu9) (by decide) gw_979 gw_980 gw_981 rfl ⟨Nat.le_of_ble_eq_true rfl, Nat.le_of_ble_eq_true rfl⟩ (Nat.le_of_ble_eq_true rfl) (gy_k0 (kc2 := 0) (ks2 := 0) ⟨rfl, rfl⟩ ?_) gy_kn
      refine gx_aload_n dX11_table_28 rfl 0 rfl ?_
      refine gx_bE e (fun t11 ht11 e => ?_)
      refine gy_fR ht11 dX11_table_29 gf_RX11_83_9_14 (by decide) gkN_9_14 gkR_9_14 ?_
      cases e
      exact gx_aret dX11_table_32 rfl ⟨Nat.le_of_ble_eq_true rfl, Nat.le_of_ble_eq_true rfl⟩ (fun z => z)
    · refine gy_icmp_ne (tgt := 33) (gi_rgS g4) (by decide) dX11_table_18 (by decide) (fun _ => ?_) (fun z => absurd z c7)
      refine gx_aload_n dX11_table_33 rfl 0 rfl ?_
      refine gx_bE e (fun t12 ht12 e => ?_)
      refine gy_fR ht12 dX11_table_34 gf_RX11_56_9_9 (by decide) gkN_9_9 gkR_9_9 ?_
      refine gx_bE e (fun _ hu13 e => ?_)
      refine gx_bE e (fun q14 hq14 e => ?_)
      refine gx_callV (n := 0) (st := []) (As := []) (b := t12) dX11_table_37 (z_X0_build hq14) rfl ⟨rfl, gw_cw_X0_build, gw_7, gp_X0_build, ⟨Nat.le_of_ble_eq_true rfl, Nat.le_of_ble_eq_true rfl⟩⟩ (gi_isS hu13) (by decide) gw_979 gw_980 gw_981 rfl ⟨Nat.le_of_ble_eq_true rfl, Nat.le_of_ble_eq_true rfl⟩ (Nat.le_of_ble_eq_true rfl) (gy_k0 (kc2 := 0) (ks2 := 0) ⟨rfl, rfl⟩ ?_) gy_kn
      refine gx_iload_n dX11_table_40 rfl 1 rfl ?_
      refine gy_iconst dX11_table_41 ?_
      refine gx_iE e (fun c15 e => ?_) (fun c15 e => ?_)
      · refine gy_icmp_ne (tgt := 52) (gi_rgS g4) (by decide) dX11_table_42 (by decide) (fun z => absurd c15 z) (fun _ => ?_)
        refine gx_aload_n dX11_table_45 rfl 0 rfl ?_
        refine gx_bE e (fun t16 ht16 e => ?_)
        refine gy_fR ht16 dX11_table_46 gf_RX11_77_9_12 (by decide) gkN_9_12 gkR_9_12 ?_
        refine gx_goto (tgt := 56) dX11_table_49 (by decide) ?_
        cases e
        exact gx_aret dX11_table_56 rfl ⟨Nat.le_of_ble_eq_true rfl, Nat.le_of_ble_eq_true rfl⟩ (fun z => z)
      · refine gy_icmp_ne (tgt := 52) (gi_rgS g4) (by decide) dX11_table_42 (by decide) (fun _ => ?_) (fun z => absurd z c15)
        refine gx_aload_n dX11_table_52 rfl 0 rfl ?_
        refine gx_bE e (fun t17 ht17 e => ?_)
        refine gy_fR ht17 dX11_table_53 gf_RX11_80_9_13 (by decide) gkN_9_13 gkR_9_13 ?_
        cases e
        exact gx_aret dX11_table_56 rfl ⟨Nat.le_of_ble_eq_true rfl, Nat.le_of_ble_eq_true rfl⟩ (fun z => z)
/-! X3_prediction  -/
set_option maxRecDepth 100000 in
def b_X3_prediction_19    (h : gi_H) : Option (Int) :=
  some (0 : Int)
set_option maxRecDepth 100000 in
theorem zb_X3_prediction_19 {al : Bool}  {res : Int}    {h : gi_H} (e : b_X3_prediction_19  h = some res) : gx_Z mX3_prediction al al 0 0 19 [] [] (gi_cv h) (.inl (some (.int (gI res)))) (gi_cv h) := by
  refine gy_iconst dX3_prediction_19 ?_
  cases e
  exact gx_iret dX3_prediction_20 rfl ⟨Nat.le_of_ble_eq_true rfl, Nat.le_of_ble_eq_true rfl⟩ (fun z => z)
set_option maxRecDepth 100000 in
def f_X3_prediction (v0 : Nat) (v1 : Int) (h : gi_H) : Option (Int) :=
  Option.bind (gi_rg v1) fun _ => if v1 < 0 then (b_X3_prediction_19   h) else (if (24 : Int) ≤ v1 then (b_X3_prediction_19   h) else (Option.bind (gi_gR h v0 2 7) fun t4 => Option.bind (gi_aI h 1 t4 v1) fun t5 => some t5))
set_option maxRecDepth 100000 in
theorem z_X3_prediction {al : Bool} {v0 : Nat} {v1 : Int} {h : gi_H} {res : Int} (e : f_X3_prediction v0 v1 h = some res) : gx_Cw mX3_prediction al [.ref v0, .int (gI v1)] (gi_cv h) (.inl (some (.int (gI res)))) (gi_cv h) := by
  refine gx_enter (by decide +kernel) rfl (Nat.le_of_ble_eq_true rfl) ?_
  show gx_Z mX3_prediction al al 0 0 0 [(0, .ref v0), (1, .int (gI v1))] [] (gi_cv h) (.inl (some (.int (gI res)))) (gi_cv h)
  refine gx_iload_n dX3_prediction_0 rfl 1 rfl ?_
  refine gx_bE e (fun _ g1 e => ?_)
  refine gx_iE e (fun c2 e => ?_) (fun c2 e => ?_)
  · refine gy_if_lt (tgt := 19) (gi_rgS g1) dX3_prediction_1 (by decide) (fun _ => ?_) (fun z => absurd c2 z)
    refine gx_sub (ls2 := []) [] rfl ?_
    exact zb_X3_prediction_19  e
  · refine gy_if_lt (tgt := 19) (gi_rgS g1) dX3_prediction_1 (by decide) (fun z => absurd z c2) (fun _ => ?_)
    refine gx_iload_n dX3_prediction_4 rfl 1 rfl ?_
    refine gy_bipush dX3_prediction_5 gcb_24 ?_
    refine gx_iE e (fun c3 e => ?_) (fun c3 e => ?_)
    · refine gy_icmp_ge (tgt := 19) (gi_rgS g1) (by decide) dX3_prediction_7 (by decide) (fun _ => ?_) (fun z => absurd c3 z)
      refine gx_sub (ls2 := []) [] rfl ?_
      exact zb_X3_prediction_19  e
    · refine gy_icmp_ge (tgt := 19) (gi_rgS g1) (by decide) dX3_prediction_7 (by decide) (fun z => absurd z c3) (fun _ => ?_)
      refine gx_aload_n dX3_prediction_10 rfl 0 rfl ?_
      refine gx_bE e (fun t4 ht4 e => ?_)
      refine gy_fR ht4 dX3_prediction_11 gf_RX3_18_2_7 (by decide) gkN_2_7 gkR_2_7 ?_
      refine gx_iload_n dX3_prediction_14 rfl 1 rfl ?_
      refine gx_bE e (fun t5 ht5 e => ?_)
      refine gy_l1 ht5 dX3_prediction_15 ?_
      refine gx_goto (tgt := 20) dX3_prediction_16 (by decide) ?_
      cases e
      exact gx_iret dX3_prediction_20 rfl ⟨Nat.le_of_ble_eq_true rfl, Nat.le_of_ble_eq_true rfl⟩ (fun z => z)
/-! X5_isIn  -/
set_option maxRecDepth 100000 in
def b_X5_isIn_34    (h : gi_H) : Option (Int) :=
  some (0 : Int)
set_option maxRecDepth 100000 in
theorem zb_X5_isIn_34 {al : Bool}  {res : Int}    {h : gi_H} (e : b_X5_isIn_34  h = some res) : gx_Z mX5_isIn al al 0 0 34 [] [] (gi_cv h) (.inl (some (.int (gI res)))) (gi_cv h) := by
  refine gy_iconst dX5_isIn_34 ?_
  cases e
  exact gx_zret (by decide +kernel) dX5_isIn_35 rfl ⟨Nat.le_of_ble_eq_true rfl, Nat.le_of_ble_eq_true rfl⟩ (fun z => z)
set_option maxRecDepth 100000 in
def f_X5_isIn (v0 : Nat) (v1 : Int) (v2 : Int) (v3 : Int) (h : gi_H) : Option (Int) :=
  Option.bind (gi_gR h v0 4 1) fun t1 => Option.bind (gi_is h t1 2) fun _ => Option.bind (f_X3_grammar t1 h) fun q3 => Option.bind (gi_is h q3 3) fun _ => Option.bind (f_X4_owner q3 v1 h) fun q5 => Option.bind (gi_rg q5) fun _ => Option.bind (gi_rg v2) fun _ => if q5 = v2 then (Option.bind (gi_gR h v0 4 1) fun t9 => Option.bind (gi_is h t9 2) fun _ => Option.bind (f_X3_prediction t9 v1 h) fun q11 => Option.bind (f_X11_has q11 v3 h) fun q12 => Option.bind (gi_rg q12) fun _ => if q12 = 0 then (b_X5_isIn_34   h) else (some (1 : Int))) else (b_X5_isIn_34   h)
set_option maxRecDepth 100000 in
theorem z_X5_isIn {al : Bool} {v0 : Nat} {v1 : Int} {v2 : Int} {v3 : Int} {h : gi_H} {res : Int} (e : f_X5_isIn v0 v1 v2 v3 h = some res) : gx_Cw mX5_isIn al [.ref v0, .int (gI v1), .int (gI v2), .int (gI v3)] (gi_cv h) (.inl (some (.int (gI res)))) (gi_cv h) := by
  refine gx_enter (by decide +kernel) rfl (Nat.le_of_ble_eq_true rfl) ?_
  show gx_Z mX5_isIn al al 0 0 0 [(0, .ref v0), (1, .int (gI v1)), (2, .int (gI v2)), (3, .int (gI v3))] [] (gi_cv h) (.inl (some (.int (gI res)))) (gi_cv h)
  refine gx_aload_n dX5_isIn_0 rfl 0 rfl ?_
  refine gx_bE e (fun t1 ht1 e => ?_)
  refine gy_fR ht1 dX5_isIn_1 gf_RX5_18_4_1 (by decide) gkN_4_1 gkR_4_1 ?_
  refine gx_bE e (fun _ hu2 e => ?_)
  refine gx_bE e (fun q3 hq3 e => ?_)
  refine gx_callV (n := 0) (st := []) (As := []) (b := t1) dX5_isIn_4 (z_X3_grammar hq3) rfl ⟨rfl, gw_cw_X3_grammar, gw_6, gp_X3_grammar, ⟨Nat.le_of_ble_eq_true rfl, Nat.le_of_ble_eq_true rfl⟩⟩ (gi_isS hu2) (by decide) gw_1057 gw_553 gw_554 rfl ⟨Nat.le_of_ble_eq_true rfl, Nat.le_of_ble_eq_true rfl⟩ (Nat.le_of_ble_eq_true rfl) (gy_k1 (x := .ref q3) (kc2 := 0) (ks2 := 0) ⟨rfl, rfl⟩ ?_) gy_kn
  refine gx_iload_n dX5_isIn_7 rfl 1 rfl ?_
  refine gx_bE e (fun _ hu4 e => ?_)
  refine gx_bE e (fun q5 hq5 e => ?_)
  refine gx_callV (n := 1) (st := []) (As := [.int (gI v1)]) (b := q3) dX5_isIn_8 (z_X4_owner hq5) rfl ⟨rfl, gw_cw_X4_owner, gw_3, gp_X4_owner, ⟨Nat.le_of_ble_eq_true rfl, Nat.le_of_ble_eq_true rfl⟩⟩ (gi_isS hu4) (by decide) gw_1063 gw_403 gw_404 rfl ⟨Nat.le_of_ble_eq_true rfl, Nat.le_of_ble_eq_true rfl⟩ (Nat.le_of_ble_eq_true rfl) (gy_k1 (x := .int (gI q5)) (kc2 := 0) (ks2 := 0) ⟨rfl, rfl⟩ ?_) gy_kn
  refine gx_iload_n dX5_isIn_11 rfl 2 rfl ?_
  refine gx_bE e (fun _ g6 e => ?_)
  refine gx_bE e (fun _ g7 e => ?_)
  refine gx_iE e (fun c8 e => ?_) (fun c8 e => ?_)
  · refine gy_icmp_ne (tgt := 34) (gi_rgS g6) (gi_rgS g7) dX5_isIn_12 (by decide) (fun z => absurd c8 z) (fun _ => ?_)
    refine gx_aload_n dX5_isIn_15 rfl 0 rfl ?_
    refine gx_bE e (fun t9 ht9 e => ?_)
    refine gy_fR ht9 dX5_isIn_16 gf_RX5_18_4_1 (by decide) gkN_4_1 gkR_4_1 ?_
    refine gx_iload_n dX5_isIn_19 rfl 1 rfl ?_
    refine gx_bE e (fun _ hu10 e => ?_)
    refine gx_bE e (fun q11 hq11 e => ?_)
    refine gx_callV (n := 1) (st := []) (As := [.int (gI v1)]) (b := t9) dX5_isIn_20 (z_X3_prediction hq11) rfl ⟨rfl, gw_cw_X3_prediction, gw_6, gp_X3_prediction, ⟨Nat.le_of_ble_eq_true rfl, Nat.le_of_ble_eq_true rfl⟩⟩ (gi_isS hu10) (by decide) gw_1064 gw_1065 gw_1066 rfl ⟨Nat.le_of_ble_eq_true rfl, Nat.le_of_ble_eq_true rfl⟩ (Nat.le_of_ble_eq_true rfl) (gy_k1 (x := .int (gI q11)) (kc2 := 0) (ks2 := 0) ⟨rfl, rfl⟩ ?_) gy_kn
    refine gx_iload_n dX5_isIn_23 rfl 3 rfl ?_
    refine gx_bE e (fun q12 hq12 e => ?_)
    refine gx_callSN (n := 2) (st := []) (As := [.int (gI q11), .int (gI v3)]) dX5_isIn_24 (z_X11_has hq12) rfl ⟨rfl, gw_cw_X11_has, gw_1, gp_X11_has, ⟨Nat.le_of_ble_eq_true rfl, Nat.le_of_ble_eq_true rfl⟩⟩ (host := "Grammarsmith") (by decide +kernel) gw_460 ⟨Nat.le_of_ble_eq_true rfl, Nat.le_of_ble_eq_true rfl⟩ (Nat.le_of_ble_eq_true rfl) (gy_k1 (x := .int (gI q12)) (kc2 := 0) (ks2 := 0) ⟨rfl, rfl⟩ ?_) gy_kn
    refine gx_bE e (fun _ g13 e => ?_)
    refine gx_iE e (fun c14 e => ?_) (fun c14 e => ?_)
    · refine gy_if_eq (tgt := 34) (gi_rgS g13) dX5_isIn_27 (by decide) (fun _ => ?_) (fun z => absurd c14 z)
      refine gx_sub (ls2 := []) [] rfl ?_
      exact zb_X5_isIn_34  e
    · refine gy_if_eq (tgt := 34) (gi_rgS g13) dX5_isIn_27 (by decide) (fun z => absurd z c14) (fun _ => ?_)
      refine gy_iconst dX5_isIn_30 ?_
      refine gx_goto (tgt := 35) dX5_isIn_31 (by decide) ?_
      cases e
      exact gx_zret (by decide +kernel) dX5_isIn_35 rfl ⟨Nat.le_of_ble_eq_true rfl, Nat.le_of_ble_eq_true rfl⟩ (fun z => z)
  · refine gy_icmp_ne (tgt := 34) (gi_rgS g6) (gi_rgS g7) dX5_isIn_12 (by decide) (fun _ => ?_) (fun z => absurd z c8)
    refine gx_sub (ls2 := []) [] rfl ?_
    exact zb_X5_isIn_34  e
/-! X5_countIn  -/
set_option maxRecDepth 100000 in
def b_X5_countIn_34 (n : Nat) (r5 : Nat → Int → Int → Int → Int → gi_H → Option (Int)) (v0 : Nat) (v1 : Int) (v2 : Int) (v3 : Int) (v4 : Int)  (h : gi_H) : Option (Int) :=
  gx_nm (v4 + (1 : Int)) fun t13 => r5 v0 v1 v2 v3 t13 h
set_option maxRecDepth 100000 in
theorem zb_X5_countIn_34 {al : Bool} {n : Nat} {r5 : Nat → Int → Int → Int → Int → gi_H → Option (Int)} {res : Int} (hr5 : ∀ (x0 : Nat) (x1 : Int) (x2 : Int) (x3 : Int) (x4 : Int) (hh : gi_H), r5 x0 x1 x2 x3 x4 hh = some res → gx_Z mX5_countIn al al 0 0 5 [(0, .ref x0), (1, .int (gI x1)), (2, .int (gI x2)), (3, .int (gI x3)), (4, .int (gI x4))] [] (gi_cv hh) (.inl (some (.int (gI res)))) (gi_cv hh)) {v0 : Nat} {v1 : Int} {v2 : Int} {v3 : Int} {v4 : Int}  {h : gi_H} (e : b_X5_countIn_34 n r5 v0 v1 v2 v3 v4 h = some res) : gx_Z mX5_countIn al al 0 0 34 [(0, .ref v0), (1, .int (gI v1)), (2, .int (gI v2)), (3, .int (gI v3)), (4, .int (gI v4))] [] (gi_cv h) (.inl (some (.int (gI res)))) (gi_cv h) := by
  refine gx_nE e (fun t13 ht13 e => ?_)
  refine gy_iinc (v := t13) (ls2 := [(4, .int (gI t13)), (0, .ref v0), (1, .int (gI v1)), (2, .int (gI v2)), (3, .int (gI v3))]) dX5_countIn_34 4 rfl ht13 (Nat.le_of_ble_eq_true rfl) rfl ?_
  refine gx_goto (tgt := 5) dX5_countIn_37 (by decide) ?_
  refine gx_sub (ls2 := [(0, .ref v0), (1, .int (gI v1)), (2, .int (gI v2)), (3, .int (gI v3)), (4, .int (gI t13))]) [1, 2, 3, 4, 0] rfl ?_
  exact hr5 _ _ _ _ _ _ e
set_option maxRecDepth 100000 in
def b_X5_countIn_5 (n : Nat) (r5 : Nat → Int → Int → Int → Int → gi_H → Option (Int)) (v0 : Nat) (v1 : Int) (v2 : Int) (v3 : Int) (v4 : Int)  (h : gi_H) : Option (Int) :=
  Option.bind (gi_gR h v0 4 1) fun t1 => Option.bind (gi_is h t1 2) fun _ => Option.bind (f_X3_grammar t1 h) fun q3 => Option.bind (gi_is h q3 3) fun _ => Option.bind (f_X4_count q3 h) fun q5 => Option.bind (gi_rg v4) fun _ => Option.bind (gi_rg q5) fun _ => if q5 ≤ v4 then (some v3) else (Option.bind (gi_is h v0 4) fun _ => Option.bind (f_X5_isIn v0 v4 v1 v2 h) fun q10 => Option.bind (gi_rg q10) fun _ => if q10 = 0 then (b_X5_countIn_34 n r5 v0 v1 v2 v3 v4 h) else (gx_nm (v3 + (1 : Int)) fun t14 => b_X5_countIn_34 n r5 v0 v1 v2 t14 v4 h))
set_option maxRecDepth 100000 in
theorem zb_X5_countIn_5 {al : Bool} {n : Nat} {r5 : Nat → Int → Int → Int → Int → gi_H → Option (Int)} {res : Int} (hr5 : ∀ (x0 : Nat) (x1 : Int) (x2 : Int) (x3 : Int) (x4 : Int) (hh : gi_H), r5 x0 x1 x2 x3 x4 hh = some res → gx_Z mX5_countIn al al 0 0 5 [(0, .ref x0), (1, .int (gI x1)), (2, .int (gI x2)), (3, .int (gI x3)), (4, .int (gI x4))] [] (gi_cv hh) (.inl (some (.int (gI res)))) (gi_cv hh)) {v0 : Nat} {v1 : Int} {v2 : Int} {v3 : Int} {v4 : Int}  {h : gi_H} (e : b_X5_countIn_5 n r5 v0 v1 v2 v3 v4 h = some res) : gx_Z mX5_countIn al al 0 0 5 [(0, .ref v0), (1, .int (gI v1)), (2, .int (gI v2)), (3, .int (gI v3)), (4, .int (gI v4))] [] (gi_cv h) (.inl (some (.int (gI res)))) (gi_cv h) := by
  refine gx_iload dX5_countIn_5 4 rfl ?_
  refine gx_aload_n dX5_countIn_7 rfl 0 rfl ?_
  refine gx_bE e (fun t1 ht1 e => ?_)
  refine gy_fR ht1 dX5_countIn_8 gf_RX5_18_4_1 (by decide) gkN_4_1 gkR_4_1 ?_
  refine gx_bE e (fun _ hu2 e => ?_)
  refine gx_bE e (fun q3 hq3 e => ?_)
  refine gx_callV (n := 0) (st := [.int (gI v4)]) (As := []) (b := t1) dX5_countIn_11 (z_X3_grammar hq3) rfl ⟨rfl, gw_cw_X3_grammar, gw_6, gp_X3_grammar, ⟨Nat.le_of_ble_eq_true rfl, Nat.le_of_ble_eq_true rfl⟩⟩ (gi_isS hu2) (by decide) gw_1057 gw_553 gw_554 rfl ⟨Nat.le_of_ble_eq_true rfl, Nat.le_of_ble_eq_true rfl⟩ (Nat.le_of_ble_eq_true rfl) (gy_k1 (x := .ref q3) (kc2 := 0) (ks2 := 0) ⟨rfl, rfl⟩ ?_) gy_kn
  refine gx_bE e (fun _ hu4 e => ?_)
  refine gx_bE e (fun q5 hq5 e => ?_)
  refine gx_callV (n := 0) (st := [.int (gI v4)]) (As := []) (b := q3) dX5_countIn_14 (z_X4_count hq5) rfl ⟨rfl, gw_cw_X4_count, gw_3, gp_X4_count, ⟨Nat.le_of_ble_eq_true rfl, Nat.le_of_ble_eq_true rfl⟩⟩ (gi_isS hu4) (by decide) gw_1058 gw_384 gw_385 rfl ⟨Nat.le_of_ble_eq_true rfl, Nat.le_of_ble_eq_true rfl⟩ (Nat.le_of_ble_eq_true rfl) (gy_k1 (x := .int (gI q5)) (kc2 := 0) (ks2 := 0) ⟨rfl, rfl⟩ ?_) gy_kn
  refine gx_bE e (fun _ g6 e => ?_)
  refine gx_bE e (fun _ g7 e => ?_)
  refine gx_iE e (fun c8 e => ?_) (fun c8 e => ?_)
  · refine gy_icmp_ge (tgt := 40) (gi_rgS g6) (gi_rgS g7) dX5_countIn_17 (by decide) (fun _ => ?_) (fun z => absurd c8 z)
    refine gx_iload_n dX5_countIn_40 rfl 3 rfl ?_
    cases e
    exact gx_iret dX5_countIn_41 rfl ⟨Nat.le_of_ble_eq_true rfl, Nat.le_of_ble_eq_true rfl⟩ (fun z => z)
  · refine gy_icmp_ge (tgt := 40) (gi_rgS g6) (gi_rgS g7) dX5_countIn_17 (by decide) (fun z => absurd z c8) (fun _ => ?_)
    refine gx_aload_n dX5_countIn_20 rfl 0 rfl ?_
    refine gx_iload dX5_countIn_21 4 rfl ?_
    refine gx_iload_n dX5_countIn_23 rfl 1 rfl ?_
    refine gx_iload_n dX5_countIn_24 rfl 2 rfl ?_
    refine gx_bE e (fun _ hu9 e => ?_)
    refine gx_bE e (fun q10 hq10 e => ?_)
    refine gx_callV (n := 3) (st := []) (As := [.int (gI v4), .int (gI v1), .int (gI v2)]) (b := v0) dX5_countIn_25 (z_X5_isIn hq10) rfl ⟨rfl, gw_cw_X5_isIn, gw_9, gp_X5_isIn, ⟨Nat.le_of_ble_eq_true rfl, Nat.le_of_ble_eq_true rfl⟩⟩ (gi_isS hu9) (by decide) gw_1059 gw_1061 gs_38 rfl ⟨Nat.le_of_ble_eq_true rfl, Nat.le_of_ble_eq_true rfl⟩ (Nat.le_of_ble_eq_true rfl) (gy_k1 (x := .int (gI q10)) (kc2 := 0) (ks2 := 0) ⟨rfl, rfl⟩ ?_) gy_kn
    refine gx_bE e (fun _ g11 e => ?_)
    refine gx_iE e (fun c12 e => ?_) (fun c12 e => ?_)
    · refine gy_if_eq (tgt := 34) (gi_rgS g11) dX5_countIn_28 (by decide) (fun _ => ?_) (fun z => absurd c12 z)
      exact zb_X5_countIn_34 hr5 e
    · refine gy_if_eq (tgt := 34) (gi_rgS g11) dX5_countIn_28 (by decide) (fun z => absurd z c12) (fun _ => ?_)
      refine gx_nE e (fun t14 ht14 e => ?_)
      refine gy_iinc (v := t14) (ls2 := [(3, .int (gI t14)), (0, .ref v0), (1, .int (gI v1)), (2, .int (gI v2)), (4, .int (gI v4))]) dX5_countIn_31 3 rfl ht14 (Nat.le_of_ble_eq_true rfl) rfl ?_
      refine gx_sub (ls2 := [(0, .ref v0), (1, .int (gI v1)), (2, .int (gI v2)), (3, .int (gI t14)), (4, .int (gI v4))]) [1, 2, 3, 0, 4] rfl ?_
      exact zb_X5_countIn_34 hr5 e
def l_X5_countIn_5 (n : Nat)  : Nat → Nat → Int → Int → Int → Int → gi_H → Option (Int)
  | 0, _, _, _, _, _, _ => none
  | k + 1, v0, v1, v2, v3, v4, h => b_X5_countIn_5 n  (l_X5_countIn_5 n  k) v0 v1 v2 v3 v4 h
theorem zl_X5_countIn_5 {al : Bool} {n : Nat}  {res : Int}  : ∀ (k : Nat) (v0 : Nat) (v1 : Int) (v2 : Int) (v3 : Int) (v4 : Int) (h : gi_H), l_X5_countIn_5 n  k v0 v1 v2 v3 v4 h = some res → gx_Z mX5_countIn al al 0 0 5 [(0, .ref v0), (1, .int (gI v1)), (2, .int (gI v2)), (3, .int (gI v3)), (4, .int (gI v4))] [] (gi_cv h) (.inl (some (.int (gI res)))) (gi_cv h)
  | 0, _, _, _, _, _, _, e => gx_0E e
  | k + 1, _, _, _, _, _, _, e => zb_X5_countIn_5 (n := n)  (zl_X5_countIn_5  k) e
set_option maxRecDepth 100000 in
def f_X5_countIn (n : Nat) (v0 : Nat) (v1 : Int) (v2 : Int) (h : gi_H) : Option (Int) :=
  l_X5_countIn_5 n  n v0 v1 v2 (0 : Int) (0 : Int) h
set_option maxRecDepth 100000 in
theorem z_X5_countIn {al : Bool} {n : Nat} {v0 : Nat} {v1 : Int} {v2 : Int} {h : gi_H} {res : Int} (e : f_X5_countIn n v0 v1 v2 h = some res) : gx_Cw mX5_countIn al [.ref v0, .int (gI v1), .int (gI v2)] (gi_cv h) (.inl (some (.int (gI res)))) (gi_cv h) := by
  refine gx_enter (by decide +kernel) rfl (Nat.le_of_ble_eq_true rfl) ?_
  show gx_Z mX5_countIn al al 0 0 0 [(0, .ref v0), (1, .int (gI v1)), (2, .int (gI v2))] [] (gi_cv h) (.inl (some (.int (gI res)))) (gi_cv h)
  refine gy_iconst dX5_countIn_0 ?_
  refine gx_istore_n (ls2 := [(3, .int (gI (0 : Int))), (0, .ref v0), (1, .int (gI v1)), (2, .int (gI v2))]) dX5_countIn_1 rfl (Nat.le_of_ble_eq_true rfl) rfl ?_
  refine gy_iconst dX5_countIn_2 ?_
  refine gx_istore (ls2 := [(4, .int (gI (0 : Int))), (3, .int (gI (0 : Int))), (0, .ref v0), (1, .int (gI v1)), (2, .int (gI v2))]) dX5_countIn_3 (Nat.le_of_ble_eq_true rfl) rfl ?_
  refine gx_sub (ls2 := [(0, .ref v0), (1, .int (gI v1)), (2, .int (gI v2)), (3, .int (gI (0 : Int))), (4, .int (gI (0 : Int)))]) [2, 3, 4, 1, 0] rfl ?_
  exact zl_X5_countIn_5  n _ _ _ _ _ _ e
/-! X5_cellsWith  -/
set_option maxRecDepth 100000 in
def b_X5_cellsWith_40 (n : Nat) (r4 : Nat → Int → Int → Int → gi_H → Option (Int)) (v0 : Nat) (v1 : Int) (v2 : Int) (v3 : Int)  (h : gi_H) : Option (Int) :=
  gx_nm (v3 + (1 : Int)) fun t5 => r4 v0 v1 v2 t5 h
set_option maxRecDepth 100000 in
theorem zb_X5_cellsWith_40 {al : Bool} {n : Nat} {r4 : Nat → Int → Int → Int → gi_H → Option (Int)} {res : Int} (hr4 : ∀ (x0 : Nat) (x1 : Int) (x2 : Int) (x3 : Int) (hh : gi_H), r4 x0 x1 x2 x3 hh = some res → gx_Z mX5_cellsWith al al 0 0 4 [(0, .ref x0), (1, .int (gI x1)), (2, .int (gI x2)), (3, .int (gI x3))] [] (gi_cv hh) (.inl (some (.int (gI res)))) (gi_cv hh)) {v0 : Nat} {v1 : Int} {v2 : Int} {v3 : Int}  {h : gi_H} (e : b_X5_cellsWith_40 n r4 v0 v1 v2 v3 h = some res) : gx_Z mX5_cellsWith al al 0 0 40 [(0, .ref v0), (1, .int (gI v1)), (2, .int (gI v2)), (3, .int (gI v3))] [] (gi_cv h) (.inl (some (.int (gI res)))) (gi_cv h) := by
  refine gx_nE e (fun t5 ht5 e => ?_)
  refine gy_iinc (v := t5) (ls2 := [(3, .int (gI t5)), (0, .ref v0), (1, .int (gI v1)), (2, .int (gI v2))]) dX5_cellsWith_40 3 rfl ht5 (Nat.le_of_ble_eq_true rfl) rfl ?_
  refine gx_goto (tgt := 4) dX5_cellsWith_43 (by decide) ?_
  refine gx_sub (ls2 := [(0, .ref v0), (1, .int (gI v1)), (2, .int (gI v2)), (3, .int (gI t5))]) [1, 2, 3, 0] rfl ?_
  exact hr4 _ _ _ _ _ e
set_option maxRecDepth 100000 in
def b_X5_cellsWith_34 (n : Nat) (r4 : Nat → Int → Int → Int → gi_H → Option (Int)) (r13 : Nat → Int → Int → Int → Int → gi_H → Option (Int)) (v0 : Nat) (v1 : Int) (v2 : Int) (v3 : Int) (v4 : Int)  (h : gi_H) : Option (Int) :=
  gx_nm (v4 + (1 : Int)) fun t11 => r13 v0 v1 v2 v3 t11 h
set_option maxRecDepth 100000 in
theorem zb_X5_cellsWith_34 {al : Bool} {n : Nat} {r4 : Nat → Int → Int → Int → gi_H → Option (Int)} {r13 : Nat → Int → Int → Int → Int → gi_H → Option (Int)} {res : Int} (hr4 : ∀ (x0 : Nat) (x1 : Int) (x2 : Int) (x3 : Int) (hh : gi_H), r4 x0 x1 x2 x3 hh = some res → gx_Z mX5_cellsWith al al 0 0 4 [(0, .ref x0), (1, .int (gI x1)), (2, .int (gI x2)), (3, .int (gI x3))] [] (gi_cv hh) (.inl (some (.int (gI res)))) (gi_cv hh)) (hr13 : ∀ (x0 : Nat) (x1 : Int) (x2 : Int) (x3 : Int) (x4 : Int) (hh : gi_H), r13 x0 x1 x2 x3 x4 hh = some res → gx_Z mX5_cellsWith al al 0 0 13 [(0, .ref x0), (1, .int (gI x1)), (2, .int (gI x2)), (3, .int (gI x3)), (4, .int (gI x4))] [] (gi_cv hh) (.inl (some (.int (gI res)))) (gi_cv hh)) {v0 : Nat} {v1 : Int} {v2 : Int} {v3 : Int} {v4 : Int}  {h : gi_H} (e : b_X5_cellsWith_34 n r4 r13 v0 v1 v2 v3 v4 h = some res) : gx_Z mX5_cellsWith al al 0 0 34 [(0, .ref v0), (1, .int (gI v1)), (2, .int (gI v2)), (3, .int (gI v3)), (4, .int (gI v4))] [] (gi_cv h) (.inl (some (.int (gI res)))) (gi_cv h) := by
  refine gx_nE e (fun t11 ht11 e => ?_)
  refine gy_iinc (v := t11) (ls2 := [(4, .int (gI t11)), (0, .ref v0), (1, .int (gI v1)), (2, .int (gI v2)), (3, .int (gI v3))]) dX5_cellsWith_34 4 rfl ht11 (Nat.le_of_ble_eq_true rfl) rfl ?_
  refine gx_goto (tgt := 13) dX5_cellsWith_37 (by decide) ?_
  refine gx_sub (ls2 := [(0, .ref v0), (1, .int (gI v1)), (2, .int (gI v2)), (3, .int (gI v3)), (4, .int (gI t11))]) [1, 2, 3, 4, 0] rfl ?_
  exact hr13 _ _ _ _ _ _ e
set_option maxRecDepth 100000 in
def b_X5_cellsWith_13 (n : Nat) (r4 : Nat → Int → Int → Int → gi_H → Option (Int)) (r13 : Nat → Int → Int → Int → Int → gi_H → Option (Int)) (v0 : Nat) (v1 : Int) (v2 : Int) (v3 : Int) (v4 : Int)  (h : gi_H) : Option (Int) :=
  Option.bind (gi_rg v4) fun _ => if (9 : Int) ≤ v4 then (b_X5_cellsWith_40 n r4 v0 v1 v2 v3 h) else (Option.bind (gi_is h v0 4) fun _ => Option.bind (f_X5_countIn n v0 v3 v4 h) fun q7 => Option.bind (gi_rg q7) fun _ => Option.bind (gi_rg v1) fun _ => if q7 < v1 then (b_X5_cellsWith_34 n r4 r13 v0 v1 v2 v3 v4 h) else (gx_nm (v2 + (1 : Int)) fun t12 => b_X5_cellsWith_34 n r4 r13 v0 v1 t12 v3 v4 h))
set_option maxRecDepth 100000 in
theorem zb_X5_cellsWith_13 {al : Bool} {n : Nat} {r4 : Nat → Int → Int → Int → gi_H → Option (Int)} {r13 : Nat → Int → Int → Int → Int → gi_H → Option (Int)} {res : Int} (hr4 : ∀ (x0 : Nat) (x1 : Int) (x2 : Int) (x3 : Int) (hh : gi_H), r4 x0 x1 x2 x3 hh = some res → gx_Z mX5_cellsWith al al 0 0 4 [(0, .ref x0), (1, .int (gI x1)), (2, .int (gI x2)), (3, .int (gI x3))] [] (gi_cv hh) (.inl (some (.int (gI res)))) (gi_cv hh)) (hr13 : ∀ (x0 : Nat) (x1 : Int) (x2 : Int) (x3 : Int) (x4 : Int) (hh : gi_H), r13 x0 x1 x2 x3 x4 hh = some res → gx_Z mX5_cellsWith al al 0 0 13 [(0, .ref x0), (1, .int (gI x1)), (2, .int (gI x2)), (3, .int (gI x3)), (4, .int (gI x4))] [] (gi_cv hh) (.inl (some (.int (gI res)))) (gi_cv hh)) {v0 : Nat} {v1 : Int} {v2 : Int} {v3 : Int} {v4 : Int}  {h : gi_H} (e : b_X5_cellsWith_13 n r4 r13 v0 v1 v2 v3 v4 h = some res) : gx_Z mX5_cellsWith al al 0 0 13 [(0, .ref v0), (1, .int (gI v1)), (2, .int (gI v2)), (3, .int (gI v3)), (4, .int (gI v4))] [] (gi_cv h) (.inl (some (.int (gI res)))) (gi_cv h) := by
  refine gx_iload dX5_cellsWith_13 4 rfl ?_
  refine gy_bipush dX5_cellsWith_15 gcb_9 ?_
  refine gx_bE e (fun _ g3 e => ?_)
  refine gx_iE e (fun c4 e => ?_) (fun c4 e => ?_)
  · refine gy_icmp_ge (tgt := 40) (gi_rgS g3) (by decide) dX5_cellsWith_17 (by decide) (fun _ => ?_) (fun z => absurd c4 z)
    refine gx_sub (ls2 := [(0, .ref v0), (1, .int (gI v1)), (2, .int (gI v2)), (3, .int (gI v3))]) [0, 1, 2, 3] rfl ?_
    exact zb_X5_cellsWith_40 hr4 e
  · refine gy_icmp_ge (tgt := 40) (gi_rgS g3) (by decide) dX5_cellsWith_17 (by decide) (fun z => absurd z c4) (fun _ => ?_)
    refine gx_aload_n dX5_cellsWith_20 rfl 0 rfl ?_
    refine gx_iload_n dX5_cellsWith_21 rfl 3 rfl ?_
    refine gx_iload dX5_cellsWith_22 4 rfl ?_
    refine gx_bE e (fun _ hu6 e => ?_)
    refine gx_bE e (fun q7 hq7 e => ?_)
    refine gx_callV (n := 2) (st := []) (As := [.int (gI v3), .int (gI v4)]) (b := v0) dX5_cellsWith_24 (z_X5_countIn hq7) rfl ⟨rfl, gw_cw_X5_countIn, gw_9, gp_X5_countIn, ⟨Nat.le_of_ble_eq_true rfl, Nat.le_of_ble_eq_true rfl⟩⟩ (gi_isS hu6) (by decide) gw_1053 gw_1055 gs_37 rfl ⟨Nat.le_of_ble_eq_true rfl, Nat.le_of_ble_eq_true rfl⟩ (Nat.le_of_ble_eq_true rfl) (gy_k1 (x := .int (gI q7)) (kc2 := 0) (ks2 := 0) ⟨rfl, rfl⟩ ?_) gy_kn
    refine gx_iload_n dX5_cellsWith_27 rfl 1 rfl ?_
    refine gx_bE e (fun _ g8 e => ?_)
    refine gx_bE e (fun _ g9 e => ?_)
    refine gx_iE e (fun c10 e => ?_) (fun c10 e => ?_)
    · refine gy_icmp_lt (tgt := 34) (gi_rgS g8) (gi_rgS g9) dX5_cellsWith_28 (by decide) (fun _ => ?_) (fun z => absurd c10 z)
      exact zb_X5_cellsWith_34 hr4 hr13 e
    · refine gy_icmp_lt (tgt := 34) (gi_rgS g8) (gi_rgS g9) dX5_cellsWith_28 (by decide) (fun z => absurd z c10) (fun _ => ?_)
      refine gx_nE e (fun t12 ht12 e => ?_)
      refine gy_iinc (v := t12) (ls2 := [(2, .int (gI t12)), (0, .ref v0), (1, .int (gI v1)), (3, .int (gI v3)), (4, .int (gI v4))]) dX5_cellsWith_31 2 rfl ht12 (Nat.le_of_ble_eq_true rfl) rfl ?_
      refine gx_sub (ls2 := [(0, .ref v0), (1, .int (gI v1)), (2, .int (gI t12)), (3, .int (gI v3)), (4, .int (gI v4))]) [1, 2, 0, 3, 4] rfl ?_
      exact zb_X5_cellsWith_34 hr4 hr13 e
def l_X5_cellsWith_13 (n : Nat) (r4 : Nat → Int → Int → Int → gi_H → Option (Int)) : Nat → Nat → Int → Int → Int → Int → gi_H → Option (Int)
  | 0, _, _, _, _, _, _ => none
  | k + 1, v0, v1, v2, v3, v4, h => b_X5_cellsWith_13 n r4 (l_X5_cellsWith_13 n r4 k) v0 v1 v2 v3 v4 h
theorem zl_X5_cellsWith_13 {al : Bool} {n : Nat} {r4 : Nat → Int → Int → Int → gi_H → Option (Int)} {res : Int} (hr4 : ∀ (x0 : Nat) (x1 : Int) (x2 : Int) (x3 : Int) (hh : gi_H), r4 x0 x1 x2 x3 hh = some res → gx_Z mX5_cellsWith al al 0 0 4 [(0, .ref x0), (1, .int (gI x1)), (2, .int (gI x2)), (3, .int (gI x3))] [] (gi_cv hh) (.inl (some (.int (gI res)))) (gi_cv hh)) : ∀ (k : Nat) (v0 : Nat) (v1 : Int) (v2 : Int) (v3 : Int) (v4 : Int) (h : gi_H), l_X5_cellsWith_13 n r4 k v0 v1 v2 v3 v4 h = some res → gx_Z mX5_cellsWith al al 0 0 13 [(0, .ref v0), (1, .int (gI v1)), (2, .int (gI v2)), (3, .int (gI v3)), (4, .int (gI v4))] [] (gi_cv h) (.inl (some (.int (gI res)))) (gi_cv h)
  | 0, _, _, _, _, _, _, e => gx_0E e
  | k + 1, _, _, _, _, _, _, e => zb_X5_cellsWith_13 (n := n) hr4 (zl_X5_cellsWith_13 hr4 k) e
set_option maxRecDepth 100000 in
def b_X5_cellsWith_4 (n : Nat) (r4 : Nat → Int → Int → Int → gi_H → Option (Int)) (v0 : Nat) (v1 : Int) (v2 : Int) (v3 : Int)  (h : gi_H) : Option (Int) :=
  Option.bind (gi_rg v3) fun _ => if (16 : Int) ≤ v3 then (some v2) else (l_X5_cellsWith_13 n r4 n v0 v1 v2 v3 (0 : Int) h)
set_option maxRecDepth 100000 in
theorem zb_X5_cellsWith_4 {al : Bool} {n : Nat} {r4 : Nat → Int → Int → Int → gi_H → Option (Int)} {res : Int} (hr4 : ∀ (x0 : Nat) (x1 : Int) (x2 : Int) (x3 : Int) (hh : gi_H), r4 x0 x1 x2 x3 hh = some res → gx_Z mX5_cellsWith al al 0 0 4 [(0, .ref x0), (1, .int (gI x1)), (2, .int (gI x2)), (3, .int (gI x3))] [] (gi_cv hh) (.inl (some (.int (gI res)))) (gi_cv hh)) {v0 : Nat} {v1 : Int} {v2 : Int} {v3 : Int}  {h : gi_H} (e : b_X5_cellsWith_4 n r4 v0 v1 v2 v3 h = some res) : gx_Z mX5_cellsWith al al 0 0 4 [(0, .ref v0), (1, .int (gI v1)), (2, .int (gI v2)), (3, .int (gI v3))] [] (gi_cv h) (.inl (some (.int (gI res)))) (gi_cv h) := by
  refine gx_iload_n dX5_cellsWith_4 rfl 3 rfl ?_
  refine gy_bipush dX5_cellsWith_5 gcb_16 ?_
  refine gx_bE e (fun _ g1 e => ?_)
  refine gx_iE e (fun c2 e => ?_) (fun c2 e => ?_)
  · refine gy_icmp_ge (tgt := 46) (gi_rgS g1) (by decide) dX5_cellsWith_7 (by decide) (fun _ => ?_) (fun z => absurd c2 z)
    refine gx_iload_n dX5_cellsWith_46 rfl 2 rfl ?_
    cases e
    exact gx_iret dX5_cellsWith_47 rfl ⟨Nat.le_of_ble_eq_true rfl, Nat.le_of_ble_eq_true rfl⟩ (fun z => z)
  · refine gy_icmp_ge (tgt := 46) (gi_rgS g1) (by decide) dX5_cellsWith_7 (by decide) (fun z => absurd z c2) (fun _ => ?_)
    refine gy_iconst dX5_cellsWith_10 ?_
    refine gx_istore (ls2 := [(4, .int (gI (0 : Int))), (0, .ref v0), (1, .int (gI v1)), (2, .int (gI v2)), (3, .int (gI v3))]) dX5_cellsWith_11 (Nat.le_of_ble_eq_true rfl) rfl ?_
    refine gx_sub (ls2 := [(0, .ref v0), (1, .int (gI v1)), (2, .int (gI v2)), (3, .int (gI v3)), (4, .int (gI (0 : Int)))]) [1, 2, 3, 4, 0] rfl ?_
    exact zl_X5_cellsWith_13 hr4 n _ _ _ _ _ _ e
def l_X5_cellsWith_4 (n : Nat)  : Nat → Nat → Int → Int → Int → gi_H → Option (Int)
  | 0, _, _, _, _, _ => none
  | k + 1, v0, v1, v2, v3, h => b_X5_cellsWith_4 n  (l_X5_cellsWith_4 n  k) v0 v1 v2 v3 h
theorem zl_X5_cellsWith_4 {al : Bool} {n : Nat}  {res : Int}  : ∀ (k : Nat) (v0 : Nat) (v1 : Int) (v2 : Int) (v3 : Int) (h : gi_H), l_X5_cellsWith_4 n  k v0 v1 v2 v3 h = some res → gx_Z mX5_cellsWith al al 0 0 4 [(0, .ref v0), (1, .int (gI v1)), (2, .int (gI v2)), (3, .int (gI v3))] [] (gi_cv h) (.inl (some (.int (gI res)))) (gi_cv h)
  | 0, _, _, _, _, _, e => gx_0E e
  | k + 1, _, _, _, _, _, e => zb_X5_cellsWith_4 (n := n)  (zl_X5_cellsWith_4  k) e
set_option maxRecDepth 100000 in
def f_X5_cellsWith (n : Nat) (v0 : Nat) (v1 : Int) (h : gi_H) : Option (Int) :=
  l_X5_cellsWith_4 n  n v0 v1 (0 : Int) (0 : Int) h
set_option maxRecDepth 100000 in
theorem z_X5_cellsWith {al : Bool} {n : Nat} {v0 : Nat} {v1 : Int} {h : gi_H} {res : Int} (e : f_X5_cellsWith n v0 v1 h = some res) : gx_Cw mX5_cellsWith al [.ref v0, .int (gI v1)] (gi_cv h) (.inl (some (.int (gI res)))) (gi_cv h) := by
  refine gx_enter (by decide +kernel) rfl (Nat.le_of_ble_eq_true rfl) ?_
  show gx_Z mX5_cellsWith al al 0 0 0 [(0, .ref v0), (1, .int (gI v1))] [] (gi_cv h) (.inl (some (.int (gI res)))) (gi_cv h)
  refine gy_iconst dX5_cellsWith_0 ?_
  refine gx_istore_n (ls2 := [(2, .int (gI (0 : Int))), (0, .ref v0), (1, .int (gI v1))]) dX5_cellsWith_1 rfl (Nat.le_of_ble_eq_true rfl) rfl ?_
  refine gy_iconst dX5_cellsWith_2 ?_
  refine gx_istore_n (ls2 := [(3, .int (gI (0 : Int))), (2, .int (gI (0 : Int))), (0, .ref v0), (1, .int (gI v1))]) dX5_cellsWith_3 rfl (Nat.le_of_ble_eq_true rfl) rfl ?_
  refine gx_sub (ls2 := [(0, .ref v0), (1, .int (gI v1)), (2, .int (gI (0 : Int))), (3, .int (gI (0 : Int)))]) [2, 3, 1, 0] rfl ?_
  exact zl_X5_cellsWith_4  n _ _ _ _ _ e
/-! X5_extent  -/
set_option maxRecDepth 100000 in
def f_X5_extent (n : Nat) (v0 : Nat) (h : gi_H) : Option (Int) :=
  Option.bind (gi_is h v0 4) fun _ => Option.bind (f_X5_cellsWith n v0 (1 : Int) h) fun q2 => some q2
set_option maxRecDepth 100000 in
theorem z_X5_extent {al : Bool} {n : Nat} {v0 : Nat} {h : gi_H} {res : Int} (e : f_X5_extent n v0 h = some res) : gx_Cw mX5_extent al [.ref v0] (gi_cv h) (.inl (some (.int (gI res)))) (gi_cv h) := by
  refine gx_enter (by decide +kernel) rfl (Nat.le_of_ble_eq_true rfl) ?_
  show gx_Z mX5_extent al al 0 0 0 [(0, .ref v0)] [] (gi_cv h) (.inl (some (.int (gI res)))) (gi_cv h)
  refine gx_aload_n dX5_extent_0 rfl 0 rfl ?_
  refine gy_iconst dX5_extent_1 ?_
  refine gx_bE e (fun _ hu1 e => ?_)
  refine gx_bE e (fun q2 hq2 e => ?_)
  refine gx_callV (n := 1) (st := []) (As := [.int (gI (1 : Int))]) (b := v0) dX5_extent_2 (z_X5_cellsWith hq2) rfl ⟨rfl, gw_cw_X5_cellsWith, gw_9, gp_X5_cellsWith, ⟨Nat.le_of_ble_eq_true rfl, Nat.le_of_ble_eq_true rfl⟩⟩ (gi_isS hu1) (by decide) gw_1049 gw_1051 gs_36 rfl ⟨Nat.le_of_ble_eq_true rfl, Nat.le_of_ble_eq_true rfl⟩ (Nat.le_of_ble_eq_true rfl) (gy_k1 (x := .int (gI q2)) (kc2 := 0) (ks2 := 0) ⟨rfl, rfl⟩ ?_) gy_kn
  cases e
  exact gx_iret dX5_extent_5 rfl ⟨Nat.le_of_ble_eq_true rfl, Nat.le_of_ble_eq_true rfl⟩ (fun z => z)
/-! X0_extent  -/
set_option maxRecDepth 100000 in
def f_X0_extent (v0 : Nat) (h : gi_H) : Option (Int) :=
  Option.bind (gi_gI h v0 0 3) fun t1 => Option.bind (gi_rg t1) fun _ => if t1 = 0 then (Option.bind (gi_gI h v0 0 4) fun t4 => some t4) else (some (-2 : Int))
set_option maxRecDepth 100000 in
theorem z_X0_extent {al : Bool} {v0 : Nat} {h : gi_H} {res : Int} (e : f_X0_extent v0 h = some res) : gx_Cw mX0_extent al [.ref v0] (gi_cv h) (.inl (some (.int (gI res)))) (gi_cv h) := by
  refine gx_enter (by decide +kernel) rfl (Nat.le_of_ble_eq_true rfl) ?_
  show gx_Z mX0_extent al al 0 0 0 [(0, .ref v0)] [] (gi_cv h) (.inl (some (.int (gI res)))) (gi_cv h)
  refine gx_aload_n dX0_extent_0 rfl 0 rfl ?_
  refine gx_bE e (fun t1 ht1 e => ?_)
  refine gy_fI ht1 dX0_extent_1 gf_RX0_39_0_3 (by decide) gkN_0_3 gkR_0_3 ?_
  refine gx_bE e (fun _ g2 e => ?_)
  refine gx_iE e (fun c3 e => ?_) (fun c3 e => ?_)
  · refine gy_if_eq (tgt := 12) (gi_rgS g2) dX0_extent_4 (by decide) (fun _ => ?_) (fun z => absurd c3 z)
    refine gx_aload_n dX0_extent_12 rfl 0 rfl ?_
    refine gx_bE e (fun t4 ht4 e => ?_)
    refine gy_fI ht4 dX0_extent_13 gf_RX0_42_0_4 (by decide) gkN_0_4 gkR_0_4 ?_
    cases e
    exact gx_iret dX0_extent_16 rfl ⟨Nat.le_of_ble_eq_true rfl, Nat.le_of_ble_eq_true rfl⟩ (fun z => z)
  · refine gy_if_eq (tgt := 12) (gi_rgS g2) dX0_extent_4 (by decide) (fun z => absurd z c3) (fun _ => ?_)
    refine gy_bipush dX0_extent_7 gcb_m2 ?_
    refine gx_goto (tgt := 16) dX0_extent_9 (by decide) ?_
    cases e
    exact gx_iret dX0_extent_16 rfl ⟨Nat.le_of_ble_eq_true rfl, Nat.le_of_ble_eq_true rfl⟩ (fun z => z)
/-! X9_extent  -/
set_option maxRecDepth 100000 in
def f_X9_extent (v0 : Nat) (h : gi_H) : Option (Int) :=
  Option.bind (gi_gR h v0 8 1) fun t1 => Option.bind (gi_is h t1 0) fun _ => Option.bind (f_X0_extent t1 h) fun q3 => some q3
set_option maxRecDepth 100000 in
theorem z_X9_extent {al : Bool} {v0 : Nat} {h : gi_H} {res : Int} (e : f_X9_extent v0 h = some res) : gx_Cw mX9_extent al [.ref v0] (gi_cv h) (.inl (some (.int (gI res)))) (gi_cv h) := by
  refine gx_enter (by decide +kernel) rfl (Nat.le_of_ble_eq_true rfl) ?_
  show gx_Z mX9_extent al al 0 0 0 [(0, .ref v0)] [] (gi_cv h) (.inl (some (.int (gI res)))) (gi_cv h)
  refine gx_aload_n dX9_extent_0 rfl 0 rfl ?_
  refine gx_bE e (fun t1 ht1 e => ?_)
  refine gy_fR ht1 dX9_extent_1 gf_RX9_18_8_1 (by decide) gkN_8_1 gkR_8_1 ?_
  refine gx_bE e (fun _ hu2 e => ?_)
  refine gx_bE e (fun q3 hq3 e => ?_)
  refine gx_callV (n := 0) (st := []) (As := []) (b := t1) dX9_extent_4 (z_X0_extent hq3) rfl ⟨rfl, gw_cw_X0_extent, gw_7, gp_X0_extent, ⟨Nat.le_of_ble_eq_true rfl, Nat.le_of_ble_eq_true rfl⟩⟩ (gi_isS hu2) (by decide) gw_1072 gw_1073 gw_1074 rfl ⟨Nat.le_of_ble_eq_true rfl, Nat.le_of_ble_eq_true rfl⟩ (Nat.le_of_ble_eq_true rfl) (gy_k1 (x := .int (gI q3)) (kc2 := 0) (ks2 := 0) ⟨rfl, rfl⟩ ?_) gy_kn
  cases e
  exact gx_iret dX9_extent_7 rfl ⟨Nat.le_of_ble_eq_true rfl, Nat.le_of_ble_eq_true rfl⟩ (fun z => z)
/-! X11_size  -/
set_option maxRecDepth 100000 in
def f_X11_size (n : Nat) (v0 : Nat) (v1 : Int) (h : gi_H) : Option ((Int ⊕ String) × gi_H) :=
  Option.bind (f_X11_requireKind v1 h) fun q1 => gx_sm q1.1 (fun t2 => Option.bind (gi_is q1.2 v0 9) fun _ => Option.bind (f_X11_table n v0 v1 q1.2) fun q4 => if gi_S q4.2 q4.1 = (0, 4) then (Option.bind (gi_is q4.2 q4.1 4) fun _ => Option.bind (f_X5_extent n q4.1 q4.2) fun q7 => some (.inl q7, q4.2)) else (Option.bind (gi_is q4.2 q4.1 8) fun _ => Option.bind (f_X9_extent q4.1 q4.2) fun q9 => some (.inl q9, q4.2))) (fun t2 => some (.inr t2, q1.2))
set_option maxRecDepth 100000 in
theorem z_X11_size {n : Nat} {v0 : Nat} {v1 : Int} {h : gi_H} {res : Int ⊕ String} {h1 : gi_H} (e : f_X11_size n v0 v1 h = some (res, h1)) : gx_Cw mX11_size false [.ref v0, .int (gI v1)] (gi_cv h) (gx_oI res) (gi_cv h1) := by
  refine gx_enter (by decide +kernel) rfl (Nat.le_of_ble_eq_true rfl) ?_
  show gx_Z mX11_size false false 0 0 0 [(0, .ref v0), (1, .int (gI v1))] [] (gi_cv h) (gx_oI res) (gi_cv h1)
  refine gx_iload_n dX11_size_0 rfl 1 rfl ?_
  refine gx_bE e (fun q1 hq1 e => ?_)
  refine gx_smE e (fun t2 ht2 e => ?_) (fun t2 ht2 e => ?_)
  · have zq1 := z_X11_requireKind hq1
    rw [ht2] at zq1
    refine gx_callS (n := 1) (st := []) (As := [.int (gI v1)]) dX11_size_1 zq1 rfl ⟨rfl, gw_cw_X11_requireKind, gw_1, gp_X11_requireKind, ⟨Nat.le_of_ble_eq_true rfl, Nat.le_of_ble_eq_true rfl⟩⟩ gw_971 gw_972 ⟨Nat.le_of_ble_eq_true rfl, Nat.le_of_ble_eq_true rfl⟩ (Nat.le_of_ble_eq_true rfl) (gy_k0 (kc2 := 1) (ks2 := 6) ⟨rfl, rfl⟩ ?_) gy_kn
    refine gx_aload_n dX11_size_4 rfl 0 rfl ?_
    refine gx_iload_n dX11_size_5 rfl 1 rfl ?_
    refine gx_bE e (fun _ hu3 e => ?_)
    refine gx_bE e (fun q4 hq4 e => ?_)
    refine gx_callV (n := 1) (st := []) (As := [.int (gI v1)]) (b := v0) dX11_size_6 (z_X11_table hq4) rfl ⟨rfl, gw_cw_X11_table, gw_1, gp_X11_table, ⟨Nat.le_of_ble_eq_true rfl, Nat.le_of_ble_eq_true rfl⟩⟩ (gi_isS hu3) (by decide) gw_975 gw_977 gs_25 rfl ⟨Nat.le_of_ble_eq_true rfl, Nat.le_of_ble_eq_true rfl⟩ (Nat.le_of_ble_eq_true rfl) (gy_k1 (x := .ref q4.1) (kc2 := 1) (ks2 := 6) ⟨rfl, rfl⟩ ?_) gy_kn
    refine gx_iE e (fun c5 e => ?_) (fun c5 e => ?_)
    · refine gx_bE e (fun _ hu6 e => ?_)
      refine gx_bE e (fun q7 hq7 e => ?_)
      refine gx_callA (n := 0) (st := []) (As := []) (b := q4.1) dX11_size_9 (z_X5_extent hq7) rfl ⟨rfl, gw_cw_X5_extent, gw_9, gp_X5_extent, ⟨Nat.le_of_ble_eq_true rfl, Nat.le_of_ble_eq_true rfl⟩⟩ (gi_isS hu6) (by decide) (x := ⟨"Grammarsmith$Table", "extent", "()I"⟩) (owner := "Grammarsmith$Table") gw_1043 gw_1045 gw_1046 gw_1047 (by decide +kernel) (by decide +kernel) ⟨Nat.le_of_ble_eq_true rfl, Nat.le_of_ble_eq_true rfl⟩ (Nat.le_of_ble_eq_true rfl) (gy_k1 (x := .int (gI q7)) (kc2 := 1) (ks2 := 6) ⟨rfl, rfl⟩ ?_) gy_kn
      cases e
      exact gx_iret dX11_size_12 rfl ⟨Nat.le_of_ble_eq_true rfl, Nat.le_of_ble_eq_true rfl⟩ (fun z => z)
    · refine gx_bE e (fun _ hu8 e => ?_)
      refine gx_bE e (fun q9 hq9 e => ?_)
      refine gx_callA (n := 0) (st := []) (As := []) (b := q4.1) dX11_size_9 (z_X9_extent hq9) rfl ⟨rfl, gw_cw_X9_extent, gw_10, gp_X9_extent, ⟨Nat.le_of_ble_eq_true rfl, Nat.le_of_ble_eq_true rfl⟩⟩ (gi_isS hu8) (by decide) (x := ⟨"Grammarsmith$Table", "extent", "()I"⟩) (owner := "Grammarsmith$Table") gw_1043 gw_1045 gw_1069 gw_1070 (by decide +kernel) (by decide +kernel) ⟨Nat.le_of_ble_eq_true rfl, Nat.le_of_ble_eq_true rfl⟩ (Nat.le_of_ble_eq_true rfl) (gy_k1 (x := .int (gI q9)) (kc2 := 1) (ks2 := 6) ⟨rfl, rfl⟩ ?_) gy_kn
      cases e
      exact gx_iret dX11_size_12 rfl ⟨Nat.le_of_ble_eq_true rfl, Nat.le_of_ble_eq_true rfl⟩ (fun z => z)
  · have zq1 := z_X11_requireKind hq1
    rw [ht2] at zq1
    refine gx_callS (n := 1) (st := []) (As := [.int (gI v1)]) dX11_size_1 zq1 rfl ⟨rfl, gw_cw_X11_requireKind, gw_1, gp_X11_requireKind, ⟨Nat.le_of_ble_eq_true rfl, Nat.le_of_ble_eq_true rfl⟩⟩ gw_971 gw_972 ⟨Nat.le_of_ble_eq_true rfl, Nat.le_of_ble_eq_true rfl⟩ (Nat.le_of_ble_eq_true rfl) gy_kN (gy_kE (kc2 := 1) (ks2 := 6) ⟨rfl, rfl⟩ ?_)
    cases e
    exact gx_out rfl ⟨Nat.le_of_ble_eq_true rfl, Nat.le_of_ble_eq_true rfl⟩ (fun z => z)
/-! L_size  -/
set_option maxRecDepth 100000 in
def f_L_size (n : Nat) (v0 : Nat) (v1 : Int) (h : gi_H) : Option (Int × gi_H) :=
  Option.bind (gi_is h v0 9) fun _ => Option.bind (f_X11_size n v0 v1 h) fun q2 => gx_sm q2.1 (fun t3 => some (t3, q2.2)) (fun t3 => if t3 = gx_IOB then (some ((-101 : Int), q2.2)) else (none))
set_option maxRecDepth 100000 in
theorem z_L_size {n : Nat} {v0 : Nat} {v1 : Int} {h : gi_H} {res : Int} {h1 : gi_H} (e : f_L_size n v0 v1 h = some (res, h1)) : gx_Cw mL_size false [.ref v0, .int (gI v1)] (gi_cv h) (.inl (some (.int (gI res)))) (gi_cv h1) := by
  refine gx_enter (by decide +kernel) rfl (Nat.le_of_ble_eq_true rfl) ?_
  show gx_Z mL_size false false 0 0 0 [(0, .ref v0), (1, .int (gI v1))] [] (gi_cv h) (.inl (some (.int (gI res)))) (gi_cv h1)
  refine gx_aload_n dL_size_0 rfl 0 rfl ?_
  refine gx_iload_n dL_size_1 rfl 1 rfl ?_
  refine gx_bE e (fun _ hu1 e => ?_)
  refine gx_bE e (fun q2 hq2 e => ?_)
  refine gx_smE e (fun t3 ht3 e => ?_) (fun t3 ht3 e => ?_)
  · have zq2 := z_X11_size hq2
    rw [ht3] at zq2
    refine gx_callV (n := 1) (st := []) (As := [.int (gI v1)]) (b := v0) dL_size_2 zq2 rfl ⟨rfl, gw_cw_X11_size, gw_1, gp_X11_size, ⟨Nat.le_of_ble_eq_true rfl, Nat.le_of_ble_eq_true rfl⟩⟩ (gi_isS hu1) (by decide) gw_967 gw_968 gw_969 rfl ⟨Nat.le_of_ble_eq_true rfl, Nat.le_of_ble_eq_true rfl⟩ (Nat.le_of_ble_eq_true rfl) (gy_k1 (x := .int (gI t3)) (kc2 := 1) (ks2 := 6) ⟨rfl, rfl⟩ ?_) gy_kn
    cases e
    exact gx_iret dL_size_5 rfl ⟨Nat.le_of_ble_eq_true rfl, Nat.le_of_ble_eq_true rfl⟩ (fun z => z)
  · have zq2 := z_X11_size hq2
    rw [ht3] at zq2
    refine gx_callV (n := 1) (st := []) (As := [.int (gI v1)]) (b := v0) dL_size_2 zq2 rfl ⟨rfl, gw_cw_X11_size, gw_1, gp_X11_size, ⟨Nat.le_of_ble_eq_true rfl, Nat.le_of_ble_eq_true rfl⟩⟩ (gi_isS hu1) (by decide) gw_967 gw_968 gw_969 rfl ⟨Nat.le_of_ble_eq_true rfl, Nat.le_of_ble_eq_true rfl⟩ (Nat.le_of_ble_eq_true rfl) gy_kN (gy_kE (kc2 := 1) (ks2 := 6) ⟨rfl, rfl⟩ ?_)
    refine gx_iE e (fun c4 e => ?_) (fun c4 e => ?_)
    · rw [c4]
      refine gx_catch (ls2 := [(0, .ref v0), (1, .int (gI v1))]) [] (x := (0, 5, 6, 33)) rfl (fun z hz => by cases hz) (by decide +kernel) (by decide) gw_866 (by decide +kernel) (Nat.le_of_ble_eq_true rfl) (Or.inl ⟨2, rfl, rfl, dL_size_6⟩) rfl ?_
      refine gy_bipush dL_size_7 gcb_m101 ?_
      cases e
      exact gx_iret dL_size_9 rfl ⟨Nat.le_of_ble_eq_true rfl, Nat.le_of_ble_eq_true rfl⟩ (fun z => z)
    cases e
/-! X5_clashes  -/
set_option maxRecDepth 100000 in
def f_X5_clashes (n : Nat) (v0 : Nat) (h : gi_H) : Option (Int) :=
  Option.bind (gi_is h v0 4) fun _ => Option.bind (f_X5_cellsWith n v0 (2 : Int) h) fun q2 => some q2
set_option maxRecDepth 100000 in
theorem z_X5_clashes {al : Bool} {n : Nat} {v0 : Nat} {h : gi_H} {res : Int} (e : f_X5_clashes n v0 h = some res) : gx_Cw mX5_clashes al [.ref v0] (gi_cv h) (.inl (some (.int (gI res)))) (gi_cv h) := by
  refine gx_enter (by decide +kernel) rfl (Nat.le_of_ble_eq_true rfl) ?_
  show gx_Z mX5_clashes al al 0 0 0 [(0, .ref v0)] [] (gi_cv h) (.inl (some (.int (gI res)))) (gi_cv h)
  refine gx_aload_n dX5_clashes_0 rfl 0 rfl ?_
  refine gy_iconst dX5_clashes_1 ?_
  refine gx_bE e (fun _ hu1 e => ?_)
  refine gx_bE e (fun q2 hq2 e => ?_)
  refine gx_callV (n := 1) (st := []) (As := [.int (gI (2 : Int))]) (b := v0) dX5_clashes_2 (z_X5_cellsWith hq2) rfl ⟨rfl, gw_cw_X5_cellsWith, gw_9, gp_X5_cellsWith, ⟨Nat.le_of_ble_eq_true rfl, Nat.le_of_ble_eq_true rfl⟩⟩ (gi_isS hu1) (by decide) gw_1049 gw_1051 gs_36 rfl ⟨Nat.le_of_ble_eq_true rfl, Nat.le_of_ble_eq_true rfl⟩ (Nat.le_of_ble_eq_true rfl) (gy_k1 (x := .int (gI q2)) (kc2 := 0) (ks2 := 0) ⟨rfl, rfl⟩ ?_) gy_kn
  cases e
  exact gx_iret dX5_clashes_5 rfl ⟨Nat.le_of_ble_eq_true rfl, Nat.le_of_ble_eq_true rfl⟩ (fun z => z)
/-! X0_facts  -/
set_option maxRecDepth 100000 in
def f_X0_facts (v0 : Nat) (h : gi_H) : Option (Nat) :=
  Option.bind (gi_gR h v0 0 0) fun t1 => some t1
set_option maxRecDepth 100000 in
theorem z_X0_facts {al : Bool} {v0 : Nat} {h : gi_H} {res : Nat} (e : f_X0_facts v0 h = some res) : gx_Cw mX0_facts al [.ref v0] (gi_cv h) (.inl (some (.ref res))) (gi_cv h) := by
  refine gx_enter (by decide +kernel) rfl (Nat.le_of_ble_eq_true rfl) ?_
  show gx_Z mX0_facts al al 0 0 0 [(0, .ref v0)] [] (gi_cv h) (.inl (some (.ref res))) (gi_cv h)
  refine gx_aload_n dX0_facts_0 rfl 0 rfl ?_
  refine gx_bE e (fun t1 ht1 e => ?_)
  refine gy_fR ht1 dX0_facts_1 gf_RX0_28_0_0 (by decide) gkN_0_0 gkR_0_0 ?_
  cases e
  exact gx_aret dX0_facts_4 rfl ⟨Nat.le_of_ble_eq_true rfl, Nat.le_of_ble_eq_true rfl⟩ (fun z => z)
/-! X0_move  -/
set_option maxRecDepth 100000 in
def b_X0_move_25  (v0 : Nat) (v1 : Int) (v2 : Int) (s0 : Int) (h : gi_H) : Option (Int) :=
  Option.bind (gi_rg s0) fun _ => if s0 = 0 then (some (-1 : Int)) else (Option.bind (gi_gR h v0 0 6) fun t5 => Option.bind (gi_aI h 1 t5 ((v1 * (32 : Int)) + v2)) fun t6 => some t6)
set_option maxRecDepth 100000 in
theorem zb_X0_move_25 {al : Bool}  {res : Int}  {v0 : Nat} {v1 : Int} {v2 : Int} {s0 : Int} {h : gi_H} (e : b_X0_move_25 v0 v1 v2 s0 h = some res) : gx_Z mX0_move al al 0 0 25 [(0, .ref v0), (1, .int (gI v1)), (2, .int (gI v2))] [.int (gI s0)] (gi_cv h) (.inl (some (.int (gI res)))) (gi_cv h) := by
  refine gx_istore_n (ls2 := [(3, .int (gI s0)), (0, .ref v0), (1, .int (gI v1)), (2, .int (gI v2))]) dX0_move_25 rfl (Nat.le_of_ble_eq_true rfl) rfl ?_
  refine gx_iload_n dX0_move_26 rfl 0 rfl ?_
  refine gx_bE e (fun _ g3 e => ?_)
  refine gx_iE e (fun c4 e => ?_) (fun c4 e => ?_)
  · refine gy_if_eq (tgt := 44) (gi_rgS g3) dX0_move_27 (by decide) (fun _ => ?_) (fun z => absurd c4 z)
    refine gy_iconst dX0_move_44 ?_
    cases e
    exact gx_iret dX0_move_45 rfl ⟨Nat.le_of_ble_eq_true rfl, Nat.le_of_ble_eq_true rfl⟩ (fun z => z)
  · refine gy_if_eq (tgt := 44) (gi_rgS g3) dX0_move_27 (by decide) (fun z => absurd z c4) (fun _ => ?_)
    refine gx_aload_n dX0_move_30 rfl 1 rfl ?_
    refine gx_bE e (fun t5 ht5 e => ?_)
    refine gy_fR ht5 dX0_move_31 gf_RX0_15_0_6 (by decide) gkN_0_6 gkR_0_6 ?_
    refine gx_iload_n dX0_move_34 rfl 2 rfl ?_
    refine gy_bipush dX0_move_35 gcb_32 ?_
    refine gy_imul dX0_move_37 ?_
    refine gx_iload_n dX0_move_38 rfl 3 rfl ?_
    refine gy_iadd dX0_move_39 ?_
    refine gx_bE e (fun t6 ht6 e => ?_)
    refine gy_l1 ht6 dX0_move_40 ?_
    refine gx_goto (tgt := 45) dX0_move_41 (by decide) ?_
    cases e
    exact gx_iret dX0_move_45 rfl ⟨Nat.le_of_ble_eq_true rfl, Nat.le_of_ble_eq_true rfl⟩ (fun z => z)
set_option maxRecDepth 100000 in
def b_X0_move_24  (v0 : Nat) (v1 : Int) (v2 : Int)  (h : gi_H) : Option (Int) :=
  b_X0_move_25  v0 v1 v2 (0 : Int) h
set_option maxRecDepth 100000 in
theorem zb_X0_move_24 {al : Bool}  {res : Int}  {v0 : Nat} {v1 : Int} {v2 : Int}  {h : gi_H} (e : b_X0_move_24 v0 v1 v2 h = some res) : gx_Z mX0_move al al 0 0 24 [(0, .ref v0), (1, .int (gI v1)), (2, .int (gI v2))] [] (gi_cv h) (.inl (some (.int (gI res)))) (gi_cv h) := by
  refine gy_iconst dX0_move_24 ?_
  exact zb_X0_move_25  e
set_option maxRecDepth 100000 in
def f_X0_move (v0 : Nat) (v1 : Int) (v2 : Int) (h : gi_H) : Option (Int) :=
  Option.bind (gi_rg v1) fun _ => if v1 < 0 then (b_X0_move_24  v0 v1 v2 h) else (if (80 : Int) ≤ v1 then (b_X0_move_24  v0 v1 v2 h) else (Option.bind (gi_rg v2) fun _ => if v2 < 0 then (b_X0_move_24  v0 v1 v2 h) else (if (32 : Int) ≤ v2 then (b_X0_move_24  v0 v1 v2 h) else (b_X0_move_25  v0 v1 v2 (1 : Int) h))))
set_option maxRecDepth 100000 in
theorem z_X0_move {al : Bool} {v0 : Nat} {v1 : Int} {v2 : Int} {h : gi_H} {res : Int} (e : f_X0_move v0 v1 v2 h = some res) : gx_Cw mX0_move al [.ref v0, .int (gI v1), .int (gI v2)] (gi_cv h) (.inl (some (.int (gI res)))) (gi_cv h) := by
  refine gx_enter (by decide +kernel) rfl (Nat.le_of_ble_eq_true rfl) ?_
  show gx_Z mX0_move al al 0 0 0 [(0, .ref v0), (1, .int (gI v1)), (2, .int (gI v2))] [] (gi_cv h) (.inl (some (.int (gI res)))) (gi_cv h)
  refine gx_iload_n dX0_move_0 rfl 1 rfl ?_
  refine gx_bE e (fun _ g1 e => ?_)
  refine gx_iE e (fun c2 e => ?_) (fun c2 e => ?_)
  · refine gy_if_lt (tgt := 24) (gi_rgS g1) dX0_move_1 (by decide) (fun _ => ?_) (fun z => absurd c2 z)
    exact zb_X0_move_24  e
  · refine gy_if_lt (tgt := 24) (gi_rgS g1) dX0_move_1 (by decide) (fun z => absurd z c2) (fun _ => ?_)
    refine gx_iload_n dX0_move_4 rfl 1 rfl ?_
    refine gy_bipush dX0_move_5 gcb_80 ?_
    refine gx_iE e (fun c7 e => ?_) (fun c7 e => ?_)
    · refine gy_icmp_ge (tgt := 24) (gi_rgS g1) (by decide) dX0_move_7 (by decide) (fun _ => ?_) (fun z => absurd c7 z)
      exact zb_X0_move_24  e
    · refine gy_icmp_ge (tgt := 24) (gi_rgS g1) (by decide) dX0_move_7 (by decide) (fun z => absurd z c7) (fun _ => ?_)
      refine gx_iload_n dX0_move_10 rfl 2 rfl ?_
      refine gx_bE e (fun _ g8 e => ?_)
      refine gx_iE e (fun c9 e => ?_) (fun c9 e => ?_)
      · refine gy_if_lt (tgt := 24) (gi_rgS g8) dX0_move_11 (by decide) (fun _ => ?_) (fun z => absurd c9 z)
        exact zb_X0_move_24  e
      · refine gy_if_lt (tgt := 24) (gi_rgS g8) dX0_move_11 (by decide) (fun z => absurd z c9) (fun _ => ?_)
        refine gx_iload_n dX0_move_14 rfl 2 rfl ?_
        refine gy_bipush dX0_move_15 gcb_32 ?_
        refine gx_iE e (fun c10 e => ?_) (fun c10 e => ?_)
        · refine gy_icmp_ge (tgt := 24) (gi_rgS g8) (by decide) dX0_move_17 (by decide) (fun _ => ?_) (fun z => absurd c10 z)
          exact zb_X0_move_24  e
        · refine gy_icmp_ge (tgt := 24) (gi_rgS g8) (by decide) dX0_move_17 (by decide) (fun z => absurd z c10) (fun _ => ?_)
          refine gy_iconst dX0_move_20 ?_
          refine gx_goto (tgt := 25) dX0_move_21 (by decide) ?_
          exact zb_X0_move_25  e
/-! X9_reducedBy  -/
set_option maxRecDepth 100000 in
def f_X9_reducedBy (v0 : Nat) (v1 : Int) (v2 : Int) (h : gi_H) : Option (Int) :=
  Option.bind (gi_gR h v0 8 1) fun t1 => Option.bind (gi_is h t1 0) fun _ => Option.bind (f_X0_facts t1 h) fun q3 => Option.bind (gi_is h q3 2) fun _ => Option.bind (f_X3_grammar q3 h) fun q5 => Option.bind (gi_gR h v0 8 1) fun t6 => Option.bind (gi_is h q5 3) fun _ => Option.bind (f_X4_length q5 v2 h) fun q8 => Option.bind (gi_is h t6 0) fun _ => Option.bind (f_X0_row t6 v1 ((v2 * (6 : Int)) + q8) h) fun q10 => Option.bind (gi_rg q10) fun _ => if q10 = 0 then (some (0 : Int)) else (Option.bind (gi_gI h v0 8 2) fun t13 => Option.bind (gi_rg t13) fun _ => if t13 = 0 then (some (gi_and q10 (511 : Int))) else (Option.bind (gi_gR h v0 8 1) fun t16 => Option.bind (gi_is h t16 0) fun _ => Option.bind (f_X0_facts t16 h) fun q18 => Option.bind (gi_is h q5 3) fun _ => Option.bind (f_X4_owner q5 v2 h) fun q20 => Option.bind (gi_is h q18 2) fun _ => Option.bind (f_X3_behind q18 q20 h) fun q22 => some q22))
set_option maxRecDepth 100000 in
theorem z_X9_reducedBy {al : Bool} {v0 : Nat} {v1 : Int} {v2 : Int} {h : gi_H} {res : Int} (e : f_X9_reducedBy v0 v1 v2 h = some res) : gx_Cw mX9_reducedBy al [.ref v0, .int (gI v1), .int (gI v2)] (gi_cv h) (.inl (some (.int (gI res)))) (gi_cv h) := by
  refine gx_enter (by decide +kernel) rfl (Nat.le_of_ble_eq_true rfl) ?_
  show gx_Z mX9_reducedBy al al 0 0 0 [(0, .ref v0), (1, .int (gI v1)), (2, .int (gI v2))] [] (gi_cv h) (.inl (some (.int (gI res)))) (gi_cv h)
  refine gx_aload_n dX9_reducedBy_0 rfl 0 rfl ?_
  refine gx_bE e (fun t1 ht1 e => ?_)
  refine gy_fR ht1 dX9_reducedBy_1 gf_RX9_18_8_1 (by decide) gkN_8_1 gkR_8_1 ?_
  refine gx_bE e (fun _ hu2 e => ?_)
  refine gx_bE e (fun q3 hq3 e => ?_)
  refine gx_callV (n := 0) (st := []) (As := []) (b := t1) dX9_reducedBy_4 (z_X0_facts hq3) rfl ⟨rfl, gw_cw_X0_facts, gw_7, gp_X0_facts, ⟨Nat.le_of_ble_eq_true rfl, Nat.le_of_ble_eq_true rfl⟩⟩ (gi_isS hu2) (by decide) gw_1100 gw_1101 gw_1102 rfl ⟨Nat.le_of_ble_eq_true rfl, Nat.le_of_ble_eq_true rfl⟩ (Nat.le_of_ble_eq_true rfl) (gy_k1 (x := .ref q3) (kc2 := 0) (ks2 := 0) ⟨rfl, rfl⟩ ?_) gy_kn
  refine gx_bE e (fun _ hu4 e => ?_)
  refine gx_bE e (fun q5 hq5 e => ?_)
  refine gx_callV (n := 0) (st := []) (As := []) (b := q3) dX9_reducedBy_7 (z_X3_grammar hq5) rfl ⟨rfl, gw_cw_X3_grammar, gw_6, gp_X3_grammar, ⟨Nat.le_of_ble_eq_true rfl, Nat.le_of_ble_eq_true rfl⟩⟩ (gi_isS hu4) (by decide) gw_1104 gw_553 gw_554 rfl ⟨Nat.le_of_ble_eq_true rfl, Nat.le_of_ble_eq_true rfl⟩ (Nat.le_of_ble_eq_true rfl) (gy_k1 (x := .ref q5) (kc2 := 0) (ks2 := 0) ⟨rfl, rfl⟩ ?_) gy_kn
  refine gx_astore_n (ls2 := [(3, .ref q5), (0, .ref v0), (1, .int (gI v1)), (2, .int (gI v2))]) dX9_reducedBy_10 rfl (Nat.le_of_ble_eq_true rfl) rfl ?_
  refine gx_aload_n dX9_reducedBy_11 rfl 1 rfl ?_
  refine gx_bE e (fun t6 ht6 e => ?_)
  refine gy_fR ht6 dX9_reducedBy_12 gf_RX9_18_8_1 (by decide) gkN_8_1 gkR_8_1 ?_
  refine gx_iload_n dX9_reducedBy_15 rfl 2 rfl ?_
  refine gx_iload_n dX9_reducedBy_16 rfl 3 rfl ?_
  refine gy_bipush dX9_reducedBy_17 gcb_6 ?_
  refine gy_imul dX9_reducedBy_19 ?_
  refine gx_aload_n dX9_reducedBy_20 rfl 0 rfl ?_
  refine gx_iload_n dX9_reducedBy_21 rfl 3 rfl ?_
  refine gx_bE e (fun _ hu7 e => ?_)
  refine gx_bE e (fun q8 hq8 e => ?_)
  refine gx_callV (n := 1) (st := [.int (gI (v2 * (6 : Int))), .int (gI v1), .ref t6]) (As := [.int (gI v2)]) (b := q5) dX9_reducedBy_22 (z_X4_length hq8) rfl ⟨rfl, gw_cw_X4_length, gw_3, gp_X4_length, ⟨Nat.le_of_ble_eq_true rfl, Nat.le_of_ble_eq_true rfl⟩⟩ (gi_isS hu7) (by decide) gw_1117 gw_411 gw_412 rfl ⟨Nat.le_of_ble_eq_true rfl, Nat.le_of_ble_eq_true rfl⟩ (Nat.le_of_ble_eq_true rfl) (gy_k1 (x := .int (gI q8)) (kc2 := 0) (ks2 := 0) ⟨rfl, rfl⟩ ?_) gy_kn
  refine gy_iadd dX9_reducedBy_25 ?_
  refine gx_bE e (fun _ hu9 e => ?_)
  refine gx_bE e (fun q10 hq10 e => ?_)
  refine gx_callV (n := 2) (st := []) (As := [.int (gI v1), .int (gI ((v2 * (6 : Int)) + q8))]) (b := t6) dX9_reducedBy_26 (z_X0_row hq10) rfl ⟨rfl, gw_cw_X0_row, gw_7, gp_X0_row, ⟨Nat.le_of_ble_eq_true rfl, Nat.le_of_ble_eq_true rfl⟩⟩ (gi_isS hu9) (by decide) gw_1110 gw_994 gw_995 rfl ⟨Nat.le_of_ble_eq_true rfl, Nat.le_of_ble_eq_true rfl⟩ (Nat.le_of_ble_eq_true rfl) (gy_k1 (x := .int (gI q10)) (kc2 := 0) (ks2 := 0) ⟨rfl, rfl⟩ ?_) gy_kn
  refine gx_istore (ls2 := [(4, .int (gI q10)), (3, .ref q5), (0, .ref v0), (1, .int (gI v1)), (2, .int (gI v2))]) dX9_reducedBy_29 (Nat.le_of_ble_eq_true rfl) rfl ?_
  refine gx_iload dX9_reducedBy_31 0 rfl ?_
  refine gx_bE e (fun _ g11 e => ?_)
  refine gx_iE e (fun c12 e => ?_) (fun c12 e => ?_)
  · refine gy_if_ne (tgt := 38) (gi_rgS g11) dX9_reducedBy_33 (by decide) (fun z => absurd c12 z) (fun _ => ?_)
    refine gy_iconst dX9_reducedBy_36 ?_
    cases e
    exact gx_iret dX9_reducedBy_37 rfl ⟨Nat.le_of_ble_eq_true rfl, Nat.le_of_ble_eq_true rfl⟩ (fun z => z)
  · refine gy_if_ne (tgt := 38) (gi_rgS g11) dX9_reducedBy_33 (by decide) (fun _ => ?_) (fun z => absurd z c12)
    refine gx_aload_n dX9_reducedBy_38 rfl 2 rfl ?_
    refine gx_bE e (fun t13 ht13 e => ?_)
    refine gy_fI ht13 dX9_reducedBy_39 gf_RX9_22_8_2 (by decide) gkN_8_2 gkR_8_2 ?_
    refine gx_bE e (fun _ g14 e => ?_)
    refine gx_iE e (fun c15 e => ?_) (fun c15 e => ?_)
    · refine gy_if_eq (tgt := 63) (gi_rgS g14) dX9_reducedBy_42 (by decide) (fun _ => ?_) (fun z => absurd c15 z)
      refine gx_iload dX9_reducedBy_63 0 rfl ?_
      refine gy_sipush dX9_reducedBy_65 gcs_511 ?_
      refine gy_iand dX9_reducedBy_68 ?_
      cases e
      exact gx_iret dX9_reducedBy_69 rfl ⟨Nat.le_of_ble_eq_true rfl, Nat.le_of_ble_eq_true rfl⟩ (fun z => z)
    · refine gy_if_eq (tgt := 63) (gi_rgS g14) dX9_reducedBy_42 (by decide) (fun z => absurd z c15) (fun _ => ?_)
      refine gx_aload_n dX9_reducedBy_45 rfl 2 rfl ?_
      refine gx_bE e (fun t16 ht16 e => ?_)
      refine gy_fR ht16 dX9_reducedBy_46 gf_RX9_18_8_1 (by decide) gkN_8_1 gkR_8_1 ?_
      refine gx_bE e (fun _ hu17 e => ?_)
      refine gx_bE e (fun q18 hq18 e => ?_)
      refine gx_callV (n := 0) (st := []) (As := []) (b := t16) dX9_reducedBy_49 (z_X0_facts hq18) rfl ⟨rfl, gw_cw_X0_facts, gw_7, gp_X0_facts, ⟨Nat.le_of_ble_eq_true rfl, Nat.le_of_ble_eq_true rfl⟩⟩ (gi_isS hu17) (by decide) gw_1100 gw_1101 gw_1102 rfl ⟨Nat.le_of_ble_eq_true rfl, Nat.le_of_ble_eq_true rfl⟩ (Nat.le_of_ble_eq_true rfl) (gy_k1 (x := .ref q18) (kc2 := 0) (ks2 := 0) ⟨rfl, rfl⟩ ?_) gy_kn
      refine gx_aload_n dX9_reducedBy_52 rfl 1 rfl ?_
      refine gx_iload_n dX9_reducedBy_53 rfl 4 rfl ?_
      refine gx_bE e (fun _ hu19 e => ?_)
      refine gx_bE e (fun q20 hq20 e => ?_)
      refine gx_callV (n := 1) (st := [.ref q18]) (As := [.int (gI v2)]) (b := q5) dX9_reducedBy_54 (z_X4_owner hq20) rfl ⟨rfl, gw_cw_X4_owner, gw_3, gp_X4_owner, ⟨Nat.le_of_ble_eq_true rfl, Nat.le_of_ble_eq_true rfl⟩⟩ (gi_isS hu19) (by decide) gw_1118 gw_403 gw_404 rfl ⟨Nat.le_of_ble_eq_true rfl, Nat.le_of_ble_eq_true rfl⟩ (Nat.le_of_ble_eq_true rfl) (gy_k1 (x := .int (gI q20)) (kc2 := 0) (ks2 := 0) ⟨rfl, rfl⟩ ?_) gy_kn
      refine gx_bE e (fun _ hu21 e => ?_)
      refine gx_bE e (fun q22 hq22 e => ?_)
      refine gx_callV (n := 1) (st := []) (As := [.int (gI q20)]) (b := q18) dX9_reducedBy_57 (z_X3_behind hq22) rfl ⟨rfl, gw_cw_X3_behind, gw_6, gp_X3_behind, ⟨Nat.le_of_ble_eq_true rfl, Nat.le_of_ble_eq_true rfl⟩⟩ (gi_isS hu21) (by decide) gw_1119 gw_441 gw_442 rfl ⟨Nat.le_of_ble_eq_true rfl, Nat.le_of_ble_eq_true rfl⟩ (Nat.le_of_ble_eq_true rfl) (gy_k1 (x := .int (gI q22)) (kc2 := 0) (ks2 := 0) ⟨rfl, rfl⟩ ?_) gy_kn
      refine gx_goto (tgt := 69) dX9_reducedBy_60 (by decide) ?_
      cases e
      exact gx_iret dX9_reducedBy_69 rfl ⟨Nat.le_of_ble_eq_true rfl, Nat.le_of_ble_eq_true rfl⟩ (fun z => z)
/-! X9_readCell  -/
set_option maxRecDepth 100000 in
def b_X9_readCell_116 (n : Nat) (r81 : Nat → Int → Int → Int → gi_H → Option (gi_H)) (v0 : Nat) (v1 : Int) (v2 : Int) (v4 : Int)  (h : gi_H) : Option (gi_H) :=
  gx_nm (v4 + (-1 : Int)) fun t27 => r81 v0 v1 v2 t27 h
set_option maxRecDepth 100000 in
theorem zb_X9_readCell_116 {al : Bool} {n : Nat} {r81 : Nat → Int → Int → Int → gi_H → Option (gi_H)} {h1 : gi_H} (hr81 : ∀ (x0 : Nat) (x1 : Int) (x2 : Int) (x4 : Int) (hh : gi_H), r81 x0 x1 x2 x4 hh = some h1 → gx_Z mX9_readCell al al 0 0 81 [(0, .ref x0), (1, .int (gI x1)), (2, .int (gI x2)), (4, .int (gI x4))] [] (gi_cv hh) (.inl none) (gi_cv h1)) {v0 : Nat} {v1 : Int} {v2 : Int} {v4 : Int}  {h : gi_H} (e : b_X9_readCell_116 n r81 v0 v1 v2 v4 h = some h1) : gx_Z mX9_readCell al al 0 0 116 [(0, .ref v0), (1, .int (gI v1)), (2, .int (gI v2)), (4, .int (gI v4))] [] (gi_cv h) (.inl none) (gi_cv h1) := by
  refine gx_nE e (fun t27 ht27 e => ?_)
  refine gy_iinc (v := t27) (ls2 := [(4, .int (gI t27)), (0, .ref v0), (1, .int (gI v1)), (2, .int (gI v2))]) dX9_readCell_116 3 rfl ht27 (Nat.le_of_ble_eq_true rfl) rfl ?_
  refine gx_goto (tgt := 81) dX9_readCell_119 (by decide) ?_
  refine gx_sub (ls2 := [(0, .ref v0), (1, .int (gI v1)), (2, .int (gI v2)), (4, .int (gI t27))]) [1, 2, 3, 0] rfl ?_
  exact hr81 _ _ _ _ _ e
set_option maxRecDepth 100000 in
def b_X9_readCell_81 (n : Nat) (r81 : Nat → Int → Int → Int → gi_H → Option (gi_H)) (v0 : Nat) (v1 : Int) (v2 : Int) (v4 : Int)  (h : gi_H) : Option (gi_H) :=
  Option.bind (gi_rg v4) fun _ => if v4 < 0 then (some h) else (Option.bind (gi_is h v0 8) fun _ => Option.bind (f_X9_reducedBy v0 v1 v4 h) fun q23 => Option.bind (f_X11_has q23 v2 h) fun q24 => Option.bind (gi_rg q24) fun _ => if q24 = 0 then (b_X9_readCell_116 n r81 v0 v1 v2 v4 h) else (Option.bind (gi_gI h v0 8 8) fun t28 => Option.bind (gi_pI h v0 8 8 (t28 + (1 : Int))) fun h29 => Option.bind (gi_pI h29 v0 8 9 v4) fun h30 => b_X9_readCell_116 n r81 v0 v1 v2 v4 h30))
set_option maxRecDepth 100000 in
theorem zb_X9_readCell_81 {al : Bool} {n : Nat} {r81 : Nat → Int → Int → Int → gi_H → Option (gi_H)} {h1 : gi_H} (hr81 : ∀ (x0 : Nat) (x1 : Int) (x2 : Int) (x4 : Int) (hh : gi_H), r81 x0 x1 x2 x4 hh = some h1 → gx_Z mX9_readCell al al 0 0 81 [(0, .ref x0), (1, .int (gI x1)), (2, .int (gI x2)), (4, .int (gI x4))] [] (gi_cv hh) (.inl none) (gi_cv h1)) {v0 : Nat} {v1 : Int} {v2 : Int} {v4 : Int}  {h : gi_H} (e : b_X9_readCell_81 n r81 v0 v1 v2 v4 h = some h1) : gx_Z mX9_readCell al al 0 0 81 [(0, .ref v0), (1, .int (gI v1)), (2, .int (gI v2)), (4, .int (gI v4))] [] (gi_cv h) (.inl none) (gi_cv h1) := by
  refine gx_iload dX9_readCell_81 3 rfl ?_
  refine gx_bE e (fun _ g20 e => ?_)
  refine gx_iE e (fun c21 e => ?_) (fun c21 e => ?_)
  · refine gy_if_lt (tgt := 122) (gi_rgS g20) dX9_readCell_83 (by decide) (fun _ => ?_) (fun z => absurd c21 z)
    cases e
    exact gx_vret dX9_readCell_122 rfl ⟨Nat.le_of_ble_eq_true rfl, Nat.le_of_ble_eq_true rfl⟩ (fun z => z)
  · refine gy_if_lt (tgt := 122) (gi_rgS g20) dX9_readCell_83 (by decide) (fun z => absurd z c21) (fun _ => ?_)
    refine gx_aload_n dX9_readCell_86 rfl 0 rfl ?_
    refine gx_iload_n dX9_readCell_87 rfl 1 rfl ?_
    refine gx_iload dX9_readCell_88 3 rfl ?_
    refine gx_bE e (fun _ hu22 e => ?_)
    refine gx_bE e (fun q23 hq23 e => ?_)
    refine gx_callV (n := 2) (st := []) (As := [.int (gI v1), .int (gI v4)]) (b := v0) dX9_readCell_90 (z_X9_reducedBy hq23) rfl ⟨rfl, gw_cw_X9_reducedBy, gw_10, gp_X9_reducedBy, ⟨Nat.le_of_ble_eq_true rfl, Nat.le_of_ble_eq_true rfl⟩⟩ (gi_isS hu22) (by decide) gw_1113 gw_1115 gs_41 rfl ⟨Nat.le_of_ble_eq_true rfl, Nat.le_of_ble_eq_true rfl⟩ (Nat.le_of_ble_eq_true rfl) (gy_k1 (x := .int (gI q23)) (kc2 := 0) (ks2 := 0) ⟨rfl, rfl⟩ ?_) gy_kn
    refine gx_iload_n dX9_readCell_93 rfl 2 rfl ?_
    refine gx_bE e (fun q24 hq24 e => ?_)
    refine gx_callSN (n := 2) (st := []) (As := [.int (gI q23), .int (gI v2)]) dX9_readCell_94 (z_X11_has hq24) rfl ⟨rfl, gw_cw_X11_has, gw_1, gp_X11_has, ⟨Nat.le_of_ble_eq_true rfl, Nat.le_of_ble_eq_true rfl⟩⟩ (host := "Grammarsmith") (by decide +kernel) gw_460 ⟨Nat.le_of_ble_eq_true rfl, Nat.le_of_ble_eq_true rfl⟩ (Nat.le_of_ble_eq_true rfl) (gy_k1 (x := .int (gI q24)) (kc2 := 0) (ks2 := 0) ⟨rfl, rfl⟩ ?_) gy_kn
    refine gx_bE e (fun _ g25 e => ?_)
    refine gx_iE e (fun c26 e => ?_) (fun c26 e => ?_)
    · refine gy_if_eq (tgt := 116) (gi_rgS g25) dX9_readCell_97 (by decide) (fun _ => ?_) (fun z => absurd c26 z)
      exact zb_X9_readCell_116 hr81 e
    · refine gy_if_eq (tgt := 116) (gi_rgS g25) dX9_readCell_97 (by decide) (fun z => absurd z c26) (fun _ => ?_)
      refine gx_aload_n dX9_readCell_100 rfl 0 rfl ?_
      refine gx_dup dX9_readCell_101 rfl ?_
      refine gx_bE e (fun t28 ht28 e => ?_)
      refine gy_fI ht28 dX9_readCell_102 gf_RX9_114_8_8 (by decide) gkN_8_8 gkR_8_8 ?_
      refine gy_iconst dX9_readCell_105 ?_
      refine gy_iadd dX9_readCell_106 ?_
      refine gx_bE e (fun h29 hh29 e => ?_)
      refine gy_qI hh29 dX9_readCell_107 gf_RX9_114_8_8 (by decide) gkN_8_8 rfl (Or.inl rfl) ?_
      refine gx_aload_n dX9_readCell_110 rfl 0 rfl ?_
      refine gx_iload dX9_readCell_111 3 rfl ?_
      refine gx_bE e (fun h30 hh30 e => ?_)
      refine gy_qI hh30 dX9_readCell_113 gf_RX9_117_8_9 (by decide) gkN_8_9 rfl (Or.inl rfl) ?_
      exact zb_X9_readCell_116 hr81 e
def l_X9_readCell_81 (n : Nat)  : Nat → Nat → Int → Int → Int → gi_H → Option (gi_H)
  | 0, _, _, _, _, _ => none
  | k + 1, v0, v1, v2, v4, h => b_X9_readCell_81 n  (l_X9_readCell_81 n  k) v0 v1 v2 v4 h
theorem zl_X9_readCell_81 {al : Bool} {n : Nat}  {h1 : gi_H}  : ∀ (k : Nat) (v0 : Nat) (v1 : Int) (v2 : Int) (v4 : Int) (h : gi_H), l_X9_readCell_81 n  k v0 v1 v2 v4 h = some h1 → gx_Z mX9_readCell al al 0 0 81 [(0, .ref v0), (1, .int (gI v1)), (2, .int (gI v2)), (4, .int (gI v4))] [] (gi_cv h) (.inl none) (gi_cv h1)
  | 0, _, _, _, _, _, e => gx_0E e
  | k + 1, _, _, _, _, _, e => zb_X9_readCell_81 (n := n)  (zl_X9_readCell_81  k) e
set_option maxRecDepth 100000 in
def b_X9_readCell_37 (n : Nat)  (v0 : Nat) (v1 : Int) (v2 : Int) (v3 : Nat) (s0 : Nat) (s1 : Int) (h : gi_H) : Option (gi_H) :=
  Option.bind (gi_pZ h s0 8 6 s1) fun h9 => Option.bind (gi_gR h9 v0 8 1) fun t10 => Option.bind (gi_is h9 t10 0) fun _ => Option.bind (f_X0_row t10 v1 (145 : Int) h9) fun q12 => Option.bind (f_X11_has (gi_and q12 (511 : Int)) v2 h9) fun q13 => Option.bind (gi_pZ h9 v0 8 7 q13) fun h14 => Option.bind (gi_pI h14 v0 8 8 (0 : Int)) fun h15 => Option.bind (gi_pI h15 v0 8 9 (-1 : Int)) fun h16 => Option.bind (gi_is h16 v3 3) fun _ => Option.bind (f_X4_count v3 h16) fun q18 => gx_nm (q18 - (1 : Int)) fun t19 => l_X9_readCell_81 n  n v0 v1 v2 t19 h16
set_option maxRecDepth 100000 in
theorem zb_X9_readCell_37 {al : Bool} {n : Nat}  {h1 : gi_H}  {v0 : Nat} {v1 : Int} {v2 : Int} {v3 : Nat} {s0 : Nat} {s1 : Int} {h : gi_H} (e : b_X9_readCell_37 n v0 v1 v2 v3 s0 s1 h = some h1) : gx_Z mX9_readCell al al 0 0 37 [(0, .ref v0), (1, .int (gI v1)), (2, .int (gI v2)), (3, .ref v3)] [.int (gI s1), .ref s0] (gi_cv h) (.inl none) (gi_cv h1) := by
  refine gx_bE e (fun h9 hh9 e => ?_)
  refine gy_qZ hh9 dX9_readCell_37 gf_RX9_101_8_6 (by decide) gkN_8_6 rfl (Or.inl rfl) ?_
  refine gx_aload_n dX9_readCell_40 rfl 0 rfl ?_
  refine gx_aload_n dX9_readCell_41 rfl 0 rfl ?_
  refine gx_bE e (fun t10 ht10 e => ?_)
  refine gy_fR ht10 dX9_readCell_42 gf_RX9_18_8_1 (by decide) gkN_8_1 gkR_8_1 ?_
  refine gx_iload_n dX9_readCell_45 rfl 1 rfl ?_
  refine gy_sipush dX9_readCell_46 gcs_145 ?_
  refine gx_bE e (fun _ hu11 e => ?_)
  refine gx_bE e (fun q12 hq12 e => ?_)
  refine gx_callV (n := 2) (st := [.ref v0]) (As := [.int (gI v1), .int (gI (145 : Int))]) (b := t10) dX9_readCell_49 (z_X0_row hq12) rfl ⟨rfl, gw_cw_X0_row, gw_7, gp_X0_row, ⟨Nat.le_of_ble_eq_true rfl, Nat.le_of_ble_eq_true rfl⟩⟩ (gi_isS hu11) (by decide) gw_1110 gw_994 gw_995 rfl ⟨Nat.le_of_ble_eq_true rfl, Nat.le_of_ble_eq_true rfl⟩ (Nat.le_of_ble_eq_true rfl) (gy_k1 (x := .int (gI q12)) (kc2 := 0) (ks2 := 0) ⟨rfl, rfl⟩ ?_) gy_kn
  refine gy_sipush dX9_readCell_52 gcs_511 ?_
  refine gy_iand dX9_readCell_55 ?_
  refine gx_iload_n dX9_readCell_56 rfl 2 rfl ?_
  refine gx_bE e (fun q13 hq13 e => ?_)
  refine gx_callSN (n := 2) (st := [.ref v0]) (As := [.int (gI (gi_and q12 (511 : Int))), .int (gI v2)]) dX9_readCell_57 (z_X11_has hq13) rfl ⟨rfl, gw_cw_X11_has, gw_1, gp_X11_has, ⟨Nat.le_of_ble_eq_true rfl, Nat.le_of_ble_eq_true rfl⟩⟩ (host := "Grammarsmith") (by decide +kernel) gw_460 ⟨Nat.le_of_ble_eq_true rfl, Nat.le_of_ble_eq_true rfl⟩ (Nat.le_of_ble_eq_true rfl) (gy_k1 (x := .int (gI q13)) (kc2 := 0) (ks2 := 0) ⟨rfl, rfl⟩ ?_) gy_kn
  refine gx_bE e (fun h14 hh14 e => ?_)
  refine gy_qZ hh14 dX9_readCell_60 gf_RX9_111_8_7 (by decide) gkN_8_7 rfl (Or.inl rfl) ?_
  refine gx_aload_n dX9_readCell_63 rfl 0 rfl ?_
  refine gy_iconst dX9_readCell_64 ?_
  refine gx_bE e (fun h15 hh15 e => ?_)
  refine gy_qI hh15 dX9_readCell_65 gf_RX9_114_8_8 (by decide) gkN_8_8 rfl (Or.inl rfl) ?_
  refine gx_aload_n dX9_readCell_68 rfl 0 rfl ?_
  refine gy_iconst dX9_readCell_69 ?_
  refine gx_bE e (fun h16 hh16 e => ?_)
  refine gy_qI hh16 dX9_readCell_70 gf_RX9_117_8_9 (by decide) gkN_8_9 rfl (Or.inl rfl) ?_
  refine gx_aload_n dX9_readCell_73 rfl 3 rfl ?_
  refine gx_bE e (fun _ hu17 e => ?_)
  refine gx_bE e (fun q18 hq18 e => ?_)
  refine gx_callV (n := 0) (st := []) (As := []) (b := v3) dX9_readCell_74 (z_X4_count hq18) rfl ⟨rfl, gw_cw_X4_count, gw_3, gp_X4_count, ⟨Nat.le_of_ble_eq_true rfl, Nat.le_of_ble_eq_true rfl⟩⟩ (gi_isS hu17) (by decide) gw_1112 gw_384 gw_385 rfl ⟨Nat.le_of_ble_eq_true rfl, Nat.le_of_ble_eq_true rfl⟩ (Nat.le_of_ble_eq_true rfl) (gy_k1 (x := .int (gI q18)) (kc2 := 0) (ks2 := 0) ⟨rfl, rfl⟩ ?_) gy_kn
  refine gy_iconst dX9_readCell_77 ?_
  refine gy_isub dX9_readCell_78 ?_
  refine gx_nE e (fun t19 ht19 e => ?_)
  rw [ht19]
  refine gx_istore (ls2 := [(4, .int (gI t19)), (0, .ref v0), (1, .int (gI v1)), (2, .int (gI v2)), (3, .ref v3)]) dX9_readCell_79 (Nat.le_of_ble_eq_true rfl) rfl ?_
  refine gx_sub (ls2 := [(0, .ref v0), (1, .int (gI v1)), (2, .int (gI v2)), (4, .int (gI t19))]) [1, 2, 3, 0] rfl ?_
  exact zl_X9_readCell_81  n _ _ _ _ _ e
set_option maxRecDepth 100000 in
def b_X9_readCell_36 (n : Nat)  (v0 : Nat) (v1 : Int) (v2 : Int) (v3 : Nat) (s0 : Nat) (h : gi_H) : Option (gi_H) :=
  b_X9_readCell_37 n  v0 v1 v2 v3 s0 (0 : Int) h
set_option maxRecDepth 100000 in
theorem zb_X9_readCell_36 {al : Bool} {n : Nat}  {h1 : gi_H}  {v0 : Nat} {v1 : Int} {v2 : Int} {v3 : Nat} {s0 : Nat} {h : gi_H} (e : b_X9_readCell_36 n v0 v1 v2 v3 s0 h = some h1) : gx_Z mX9_readCell al al 0 0 36 [(0, .ref v0), (1, .int (gI v1)), (2, .int (gI v2)), (3, .ref v3)] [.ref s0] (gi_cv h) (.inl none) (gi_cv h1) := by
  refine gy_iconst dX9_readCell_36 ?_
  exact zb_X9_readCell_37  e
set_option maxRecDepth 100000 in
def f_X9_readCell (n : Nat) (v0 : Nat) (v1 : Int) (v2 : Int) (h : gi_H) : Option (gi_H) :=
  Option.bind (gi_gR h v0 8 1) fun t1 => Option.bind (gi_is h t1 0) fun _ => Option.bind (f_X0_facts t1 h) fun q3 => Option.bind (gi_is h q3 2) fun _ => Option.bind (f_X3_grammar q3 h) fun q5 => Option.bind (f_X11_isTerminal v2 h) fun q6 => Option.bind (gi_rg q6) fun _ => if q6 = 0 then (b_X9_readCell_36 n  v0 v1 v2 q5 v0 h) else (Option.bind (gi_gR h v0 8 1) fun t31 => Option.bind (gi_is h t31 0) fun _ => Option.bind (f_X0_move t31 v1 v2 h) fun q33 => Option.bind (gi_rg q33) fun _ => if q33 = (-1 : Int) then (b_X9_readCell_36 n  v0 v1 v2 q5 v0 h) else (b_X9_readCell_37 n  v0 v1 v2 q5 v0 (1 : Int) h))
set_option maxRecDepth 100000 in
theorem z_X9_readCell {al : Bool} {n : Nat} {v0 : Nat} {v1 : Int} {v2 : Int} {h : gi_H} {h1 : gi_H} (e : f_X9_readCell n v0 v1 v2 h = some h1) : gx_Cw mX9_readCell al [.ref v0, .int (gI v1), .int (gI v2)] (gi_cv h) (.inl none) (gi_cv h1) := by
  refine gx_enter (by decide +kernel) rfl (Nat.le_of_ble_eq_true rfl) ?_
  show gx_Z mX9_readCell al al 0 0 0 [(0, .ref v0), (1, .int (gI v1)), (2, .int (gI v2))] [] (gi_cv h) (.inl none) (gi_cv h1)
  refine gx_aload_n dX9_readCell_0 rfl 0 rfl ?_
  refine gx_bE e (fun t1 ht1 e => ?_)
  refine gy_fR ht1 dX9_readCell_1 gf_RX9_18_8_1 (by decide) gkN_8_1 gkR_8_1 ?_
  refine gx_bE e (fun _ hu2 e => ?_)
  refine gx_bE e (fun q3 hq3 e => ?_)
  refine gx_callV (n := 0) (st := []) (As := []) (b := t1) dX9_readCell_4 (z_X0_facts hq3) rfl ⟨rfl, gw_cw_X0_facts, gw_7, gp_X0_facts, ⟨Nat.le_of_ble_eq_true rfl, Nat.le_of_ble_eq_true rfl⟩⟩ (gi_isS hu2) (by decide) gw_1100 gw_1101 gw_1102 rfl ⟨Nat.le_of_ble_eq_true rfl, Nat.le_of_ble_eq_true rfl⟩ (Nat.le_of_ble_eq_true rfl) (gy_k1 (x := .ref q3) (kc2 := 0) (ks2 := 0) ⟨rfl, rfl⟩ ?_) gy_kn
  refine gx_bE e (fun _ hu4 e => ?_)
  refine gx_bE e (fun q5 hq5 e => ?_)
  refine gx_callV (n := 0) (st := []) (As := []) (b := q3) dX9_readCell_7 (z_X3_grammar hq5) rfl ⟨rfl, gw_cw_X3_grammar, gw_6, gp_X3_grammar, ⟨Nat.le_of_ble_eq_true rfl, Nat.le_of_ble_eq_true rfl⟩⟩ (gi_isS hu4) (by decide) gw_1104 gw_553 gw_554 rfl ⟨Nat.le_of_ble_eq_true rfl, Nat.le_of_ble_eq_true rfl⟩ (Nat.le_of_ble_eq_true rfl) (gy_k1 (x := .ref q5) (kc2 := 0) (ks2 := 0) ⟨rfl, rfl⟩ ?_) gy_kn
  refine gx_astore_n (ls2 := [(3, .ref q5), (0, .ref v0), (1, .int (gI v1)), (2, .int (gI v2))]) dX9_readCell_10 rfl (Nat.le_of_ble_eq_true rfl) rfl ?_
  refine gx_aload_n dX9_readCell_11 rfl 1 rfl ?_
  refine gx_iload_n dX9_readCell_12 rfl 3 rfl ?_
  refine gx_bE e (fun q6 hq6 e => ?_)
  refine gx_callSN (n := 1) (st := [.ref v0]) (As := [.int (gI v2)]) dX9_readCell_13 (z_X11_isTerminal hq6) rfl ⟨rfl, gw_cw_X11_isTerminal, gw_1, gp_X11_isTerminal, ⟨Nat.le_of_ble_eq_true rfl, Nat.le_of_ble_eq_true rfl⟩⟩ (host := "Grammarsmith") (by decide +kernel) gw_582 ⟨Nat.le_of_ble_eq_true rfl, Nat.le_of_ble_eq_true rfl⟩ (Nat.le_of_ble_eq_true rfl) (gy_k1 (x := .int (gI q6)) (kc2 := 0) (ks2 := 0) ⟨rfl, rfl⟩ ?_) gy_kn
  refine gx_bE e (fun _ g7 e => ?_)
  refine gx_iE e (fun c8 e => ?_) (fun c8 e => ?_)
  · refine gy_if_eq (tgt := 36) (gi_rgS g7) dX9_readCell_16 (by decide) (fun _ => ?_) (fun z => absurd c8 z)
    refine gx_sub (ls2 := [(0, .ref v0), (1, .int (gI v1)), (2, .int (gI v2)), (3, .ref q5)]) [1, 2, 3, 0] rfl ?_
    exact zb_X9_readCell_36  e
  · refine gy_if_eq (tgt := 36) (gi_rgS g7) dX9_readCell_16 (by decide) (fun z => absurd z c8) (fun _ => ?_)
    refine gx_aload_n dX9_readCell_19 rfl 1 rfl ?_
    refine gx_bE e (fun t31 ht31 e => ?_)
    refine gy_fR ht31 dX9_readCell_20 gf_RX9_18_8_1 (by decide) gkN_8_1 gkR_8_1 ?_
    refine gx_iload_n dX9_readCell_23 rfl 2 rfl ?_
    refine gx_iload_n dX9_readCell_24 rfl 3 rfl ?_
    refine gx_bE e (fun _ hu32 e => ?_)
    refine gx_bE e (fun q33 hq33 e => ?_)
    refine gx_callV (n := 2) (st := [.ref v0]) (As := [.int (gI v1), .int (gI v2)]) (b := t31) dX9_readCell_25 (z_X0_move hq33) rfl ⟨rfl, gw_cw_X0_move, gw_7, gp_X0_move, ⟨Nat.le_of_ble_eq_true rfl, Nat.le_of_ble_eq_true rfl⟩⟩ (gi_isS hu32) (by decide) gw_1106 gw_1107 gw_1108 rfl ⟨Nat.le_of_ble_eq_true rfl, Nat.le_of_ble_eq_true rfl⟩ (Nat.le_of_ble_eq_true rfl) (gy_k1 (x := .int (gI q33)) (kc2 := 0) (ks2 := 0) ⟨rfl, rfl⟩ ?_) gy_kn
    refine gy_iconst dX9_readCell_28 ?_
    refine gx_bE e (fun _ g34 e => ?_)
    refine gx_iE e (fun c35 e => ?_) (fun c35 e => ?_)
    · refine gy_icmp_eq (tgt := 36) (gi_rgS g34) (by decide) dX9_readCell_29 (by decide) (fun _ => ?_) (fun z => absurd c35 z)
      refine gx_sub (ls2 := [(0, .ref v0), (1, .int (gI v1)), (2, .int (gI v2)), (3, .ref q5)]) [1, 2, 3, 0] rfl ?_
      exact zb_X9_readCell_36  e
    · refine gy_icmp_eq (tgt := 36) (gi_rgS g34) (by decide) dX9_readCell_29 (by decide) (fun z => absurd z c35) (fun _ => ?_)
      refine gy_iconst dX9_readCell_32 ?_
      refine gx_goto (tgt := 37) dX9_readCell_33 (by decide) ?_
      refine gx_sub (ls2 := [(0, .ref v0), (1, .int (gI v1)), (2, .int (gI v2)), (3, .ref q5)]) [1, 2, 3, 0] rfl ?_
      exact zb_X9_readCell_37  e
/-! X9_isConflict  -/
set_option maxRecDepth 100000 in
def b_X9_isConflict_24  (v0 : Nat) (s0 : Int) (s1 : Int) (h : gi_H) : Option (Int) :=
  Option.bind (gi_gI h v0 8 8) fun t7 => Option.bind (gi_rg ((s0 + s1) + t7)) fun _ => if ((s0 + s1) + t7) ≤ (1 : Int) then (some (0 : Int)) else (some (1 : Int))
set_option maxRecDepth 100000 in
theorem zb_X9_isConflict_24 {al : Bool}  {res : Int}  {v0 : Nat} {s0 : Int} {s1 : Int} {h : gi_H} (e : b_X9_isConflict_24 v0 s0 s1 h = some res) : gx_Z mX9_isConflict al al 0 0 24 [(0, .ref v0)] [.int (gI s1), .int (gI s0)] (gi_cv h) (.inl (some (.int (gI res)))) (gi_cv h) := by
  refine gy_iadd dX9_isConflict_24 ?_
  refine gx_aload_n dX9_isConflict_25 rfl 0 rfl ?_
  refine gx_bE e (fun t7 ht7 e => ?_)
  refine gy_fI ht7 dX9_isConflict_26 gf_RX9_114_8_8 (by decide) gkN_8_8 gkR_8_8 ?_
  refine gy_iadd dX9_isConflict_29 ?_
  refine gy_iconst dX9_isConflict_30 ?_
  refine gx_bE e (fun _ g8 e => ?_)
  refine gx_iE e (fun c9 e => ?_) (fun c9 e => ?_)
  · refine gy_icmp_le (tgt := 38) (gi_rgS g8) (by decide) dX9_isConflict_31 (by decide) (fun _ => ?_) (fun z => absurd c9 z)
    refine gy_iconst dX9_isConflict_38 ?_
    cases e
    exact gx_zret (by decide +kernel) dX9_isConflict_39 rfl ⟨Nat.le_of_ble_eq_true rfl, Nat.le_of_ble_eq_true rfl⟩ (fun z => z)
  · refine gy_icmp_le (tgt := 38) (gi_rgS g8) (by decide) dX9_isConflict_31 (by decide) (fun z => absurd z c9) (fun _ => ?_)
    refine gy_iconst dX9_isConflict_34 ?_
    refine gx_goto (tgt := 39) dX9_isConflict_35 (by decide) ?_
    cases e
    exact gx_zret (by decide +kernel) dX9_isConflict_39 rfl ⟨Nat.le_of_ble_eq_true rfl, Nat.le_of_ble_eq_true rfl⟩ (fun z => z)
set_option maxRecDepth 100000 in
def b_X9_isConflict_12  (v0 : Nat) (s0 : Int) (h : gi_H) : Option (Int) :=
  Option.bind (gi_gI h v0 8 7) fun t4 => Option.bind (gi_rg t4) fun _ => if t4 = 0 then (b_X9_isConflict_24  v0 s0 (0 : Int) h) else (b_X9_isConflict_24  v0 s0 (1 : Int) h)
set_option maxRecDepth 100000 in
theorem zb_X9_isConflict_12 {al : Bool}  {res : Int}  {v0 : Nat} {s0 : Int} {h : gi_H} (e : b_X9_isConflict_12 v0 s0 h = some res) : gx_Z mX9_isConflict al al 0 0 12 [(0, .ref v0)] [.int (gI s0)] (gi_cv h) (.inl (some (.int (gI res)))) (gi_cv h) := by
  refine gx_aload_n dX9_isConflict_12 rfl 0 rfl ?_
  refine gx_bE e (fun t4 ht4 e => ?_)
  refine gy_fI ht4 dX9_isConflict_13 gf_RX9_111_8_7 (by decide) gkN_8_7 gkR_8_7 ?_
  refine gx_bE e (fun _ g5 e => ?_)
  refine gx_iE e (fun c6 e => ?_) (fun c6 e => ?_)
  · refine gy_if_eq (tgt := 23) (gi_rgS g5) dX9_isConflict_16 (by decide) (fun _ => ?_) (fun z => absurd c6 z)
    refine gy_iconst dX9_isConflict_23 ?_
    exact zb_X9_isConflict_24  e
  · refine gy_if_eq (tgt := 23) (gi_rgS g5) dX9_isConflict_16 (by decide) (fun z => absurd z c6) (fun _ => ?_)
    refine gy_iconst dX9_isConflict_19 ?_
    refine gx_goto (tgt := 24) dX9_isConflict_20 (by decide) ?_
    exact zb_X9_isConflict_24  e
set_option maxRecDepth 100000 in
def f_X9_isConflict (v0 : Nat) (h : gi_H) : Option (Int) :=
  Option.bind (gi_gI h v0 8 6) fun t1 => Option.bind (gi_rg t1) fun _ => if t1 = 0 then (b_X9_isConflict_12  v0 (0 : Int) h) else (b_X9_isConflict_12  v0 (1 : Int) h)
set_option maxRecDepth 100000 in
theorem z_X9_isConflict {al : Bool} {v0 : Nat} {h : gi_H} {res : Int} (e : f_X9_isConflict v0 h = some res) : gx_Cw mX9_isConflict al [.ref v0] (gi_cv h) (.inl (some (.int (gI res)))) (gi_cv h) := by
  refine gx_enter (by decide +kernel) rfl (Nat.le_of_ble_eq_true rfl) ?_
  show gx_Z mX9_isConflict al al 0 0 0 [(0, .ref v0)] [] (gi_cv h) (.inl (some (.int (gI res)))) (gi_cv h)
  refine gx_aload_n dX9_isConflict_0 rfl 0 rfl ?_
  refine gx_bE e (fun t1 ht1 e => ?_)
  refine gy_fI ht1 dX9_isConflict_1 gf_RX9_101_8_6 (by decide) gkN_8_6 gkR_8_6 ?_
  refine gx_bE e (fun _ g2 e => ?_)
  refine gx_iE e (fun c3 e => ?_) (fun c3 e => ?_)
  · refine gy_if_eq (tgt := 11) (gi_rgS g2) dX9_isConflict_4 (by decide) (fun _ => ?_) (fun z => absurd c3 z)
    refine gy_iconst dX9_isConflict_11 ?_
    exact zb_X9_isConflict_12  e
  · refine gy_if_eq (tgt := 11) (gi_rgS g2) dX9_isConflict_4 (by decide) (fun z => absurd z c3) (fun _ => ?_)
    refine gy_iconst dX9_isConflict_7 ?_
    refine gx_goto (tgt := 12) dX9_isConflict_8 (by decide) ?_
    exact zb_X9_isConflict_12  e
/-! X9_levelOf  -/
set_option maxRecDepth 100000 in
def b_X9_levelOf_22    (h : gi_H) : Option (Int) :=
  some (0 : Int)
set_option maxRecDepth 100000 in
theorem zb_X9_levelOf_22 {al : Bool}  {res : Int}    {h : gi_H} (e : b_X9_levelOf_22  h = some res) : gx_Z mX9_levelOf al al 0 0 22 [] [] (gi_cv h) (.inl (some (.int (gI res)))) (gi_cv h) := by
  refine gy_iconst dX9_levelOf_22 ?_
  cases e
  exact gx_iret dX9_levelOf_23 rfl ⟨Nat.le_of_ble_eq_true rfl, Nat.le_of_ble_eq_true rfl⟩ (fun z => z)
set_option maxRecDepth 100000 in
def f_X9_levelOf (v0 : Nat) (v1 : Int) (h : gi_H) : Option (Int) :=
  Option.bind (gi_rg v1) fun _ => if v1 < 0 then (b_X9_levelOf_22   h) else (Option.bind (gi_gR h v0 8 3) fun t3 => Option.bind (gi_ln h t3) fun t4 => Option.bind (gi_rg t4) fun _ => if t4 ≤ v1 then (b_X9_levelOf_22   h) else (Option.bind (gi_gR h v0 8 3) fun t7 => Option.bind (gi_aI h 1 t7 v1) fun t8 => some t8))
set_option maxRecDepth 100000 in
theorem z_X9_levelOf {al : Bool} {v0 : Nat} {v1 : Int} {h : gi_H} {res : Int} (e : f_X9_levelOf v0 v1 h = some res) : gx_Cw mX9_levelOf al [.ref v0, .int (gI v1)] (gi_cv h) (.inl (some (.int (gI res)))) (gi_cv h) := by
  refine gx_enter (by decide +kernel) rfl (Nat.le_of_ble_eq_true rfl) ?_
  show gx_Z mX9_levelOf al al 0 0 0 [(0, .ref v0), (1, .int (gI v1))] [] (gi_cv h) (.inl (some (.int (gI res)))) (gi_cv h)
  refine gx_iload_n dX9_levelOf_0 rfl 1 rfl ?_
  refine gx_bE e (fun _ g1 e => ?_)
  refine gx_iE e (fun c2 e => ?_) (fun c2 e => ?_)
  · refine gy_if_lt (tgt := 22) (gi_rgS g1) dX9_levelOf_1 (by decide) (fun _ => ?_) (fun z => absurd c2 z)
    refine gx_sub (ls2 := []) [] rfl ?_
    exact zb_X9_levelOf_22  e
  · refine gy_if_lt (tgt := 22) (gi_rgS g1) dX9_levelOf_1 (by decide) (fun z => absurd z c2) (fun _ => ?_)
    refine gx_iload_n dX9_levelOf_4 rfl 1 rfl ?_
    refine gx_aload_n dX9_levelOf_5 rfl 0 rfl ?_
    refine gx_bE e (fun t3 ht3 e => ?_)
    refine gy_fR ht3 dX9_levelOf_6 gf_RX9_26_8_3 (by decide) gkN_8_3 gkR_8_3 ?_
    refine gx_bE e (fun t4 ht4 e => ?_)
    refine gy_al0 ht4 dX9_levelOf_9 ?_
    refine gx_bE e (fun _ g5 e => ?_)
    refine gx_iE e (fun c6 e => ?_) (fun c6 e => ?_)
    · refine gy_icmp_ge (tgt := 22) (gi_rgS g1) (gi_rgS g5) dX9_levelOf_10 (by decide) (fun _ => ?_) (fun z => absurd c6 z)
      refine gx_sub (ls2 := []) [] rfl ?_
      exact zb_X9_levelOf_22  e
    · refine gy_icmp_ge (tgt := 22) (gi_rgS g1) (gi_rgS g5) dX9_levelOf_10 (by decide) (fun z => absurd z c6) (fun _ => ?_)
      refine gx_aload_n dX9_levelOf_13 rfl 0 rfl ?_
      refine gx_bE e (fun t7 ht7 e => ?_)
      refine gy_fR ht7 dX9_levelOf_14 gf_RX9_26_8_3 (by decide) gkN_8_3 gkR_8_3 ?_
      refine gx_iload_n dX9_levelOf_17 rfl 1 rfl ?_
      refine gx_bE e (fun t8 ht8 e => ?_)
      refine gy_l1 ht8 dX9_levelOf_18 ?_
      refine gx_goto (tgt := 23) dX9_levelOf_19 (by decide) ?_
      cases e
      exact gx_iret dX9_levelOf_23 rfl ⟨Nat.le_of_ble_eq_true rfl, Nat.le_of_ble_eq_true rfl⟩ (fun z => z)
/-! X4_lastTerminal  -/
set_option maxRecDepth 100000 in
def b_X4_lastTerminal_24 (n : Nat)  (v0 : Nat) (v1 : Int) (v2 : Int)  (h : gi_H) : Option (Int) :=
  Option.bind (gi_is h v0 3) fun _ => Option.bind (f_X4_symbol v0 v1 v2 h) fun q13 => some q13
set_option maxRecDepth 100000 in
theorem zb_X4_lastTerminal_24 {al : Bool} {n : Nat}  {res : Int}  {v0 : Nat} {v1 : Int} {v2 : Int}  {h : gi_H} (e : b_X4_lastTerminal_24 n v0 v1 v2 h = some res) : gx_Z mX4_lastTerminal al al 0 0 24 [(0, .ref v0), (1, .int (gI v1)), (2, .int (gI v2))] [] (gi_cv h) (.inl (some (.int (gI res)))) (gi_cv h) := by
  refine gx_aload_n dX4_lastTerminal_24 rfl 0 rfl ?_
  refine gx_iload_n dX4_lastTerminal_25 rfl 1 rfl ?_
  refine gx_iload_n dX4_lastTerminal_26 rfl 2 rfl ?_
  refine gx_bE e (fun _ hu12 e => ?_)
  refine gx_bE e (fun q13 hq13 e => ?_)
  refine gx_callV (n := 2) (st := []) (As := [.int (gI v1), .int (gI v2)]) (b := v0) dX4_lastTerminal_27 (z_X4_symbol hq13) rfl ⟨rfl, gw_cw_X4_symbol, gw_3, gp_X4_symbol, ⟨Nat.le_of_ble_eq_true rfl, Nat.le_of_ble_eq_true rfl⟩⟩ (gi_isS hu12) (by decide) gw_789 gw_415 gw_416 rfl ⟨Nat.le_of_ble_eq_true rfl, Nat.le_of_ble_eq_true rfl⟩ (Nat.le_of_ble_eq_true rfl) (gy_k1 (x := .int (gI q13)) (kc2 := 0) (ks2 := 0) ⟨rfl, rfl⟩ ?_) gy_kn
  cases e
  exact gx_iret dX4_lastTerminal_30 rfl ⟨Nat.le_of_ble_eq_true rfl, Nat.le_of_ble_eq_true rfl⟩ (fun z => z)
set_option maxRecDepth 100000 in
def b_X4_lastTerminal_8 (n : Nat) (r8 : Nat → Int → Int → gi_H → Option (Int)) (v0 : Nat) (v1 : Int) (v2 : Int)  (h : gi_H) : Option (Int) :=
  Option.bind (gi_rg v2) fun _ => if v2 < 0 then (some (-1 : Int)) else (Option.bind (gi_is h v0 3) fun _ => Option.bind (f_X4_symbol v0 v1 v2 h) fun q7 => Option.bind (f_X11_isTerminal q7 h) fun q8 => Option.bind (gi_rg q8) fun _ => if q8 = 0 then (gx_nm (v2 + (-1 : Int)) fun t11 => r8 v0 v1 t11 h) else (b_X4_lastTerminal_24 n  v0 v1 v2 h))
set_option maxRecDepth 100000 in
theorem zb_X4_lastTerminal_8 {al : Bool} {n : Nat} {r8 : Nat → Int → Int → gi_H → Option (Int)} {res : Int} (hr8 : ∀ (x0 : Nat) (x1 : Int) (x2 : Int) (hh : gi_H), r8 x0 x1 x2 hh = some res → gx_Z mX4_lastTerminal al al 0 0 8 [(0, .ref x0), (1, .int (gI x1)), (2, .int (gI x2))] [] (gi_cv hh) (.inl (some (.int (gI res)))) (gi_cv hh)) {v0 : Nat} {v1 : Int} {v2 : Int}  {h : gi_H} (e : b_X4_lastTerminal_8 n r8 v0 v1 v2 h = some res) : gx_Z mX4_lastTerminal al al 0 0 8 [(0, .ref v0), (1, .int (gI v1)), (2, .int (gI v2))] [] (gi_cv h) (.inl (some (.int (gI res)))) (gi_cv h) := by
  refine gx_iload_n dX4_lastTerminal_8 rfl 2 rfl ?_
  refine gx_bE e (fun _ g4 e => ?_)
  refine gx_iE e (fun c5 e => ?_) (fun c5 e => ?_)
  · refine gy_if_lt (tgt := 37) (gi_rgS g4) dX4_lastTerminal_9 (by decide) (fun _ => ?_) (fun z => absurd c5 z)
    refine gy_iconst dX4_lastTerminal_37 ?_
    cases e
    exact gx_iret dX4_lastTerminal_38 rfl ⟨Nat.le_of_ble_eq_true rfl, Nat.le_of_ble_eq_true rfl⟩ (fun z => z)
  · refine gy_if_lt (tgt := 37) (gi_rgS g4) dX4_lastTerminal_9 (by decide) (fun z => absurd z c5) (fun _ => ?_)
    refine gx_aload_n dX4_lastTerminal_12 rfl 0 rfl ?_
    refine gx_iload_n dX4_lastTerminal_13 rfl 1 rfl ?_
    refine gx_iload_n dX4_lastTerminal_14 rfl 2 rfl ?_
    refine gx_bE e (fun _ hu6 e => ?_)
    refine gx_bE e (fun q7 hq7 e => ?_)
    refine gx_callV (n := 2) (st := []) (As := [.int (gI v1), .int (gI v2)]) (b := v0) dX4_lastTerminal_15 (z_X4_symbol hq7) rfl ⟨rfl, gw_cw_X4_symbol, gw_3, gp_X4_symbol, ⟨Nat.le_of_ble_eq_true rfl, Nat.le_of_ble_eq_true rfl⟩⟩ (gi_isS hu6) (by decide) gw_789 gw_415 gw_416 rfl ⟨Nat.le_of_ble_eq_true rfl, Nat.le_of_ble_eq_true rfl⟩ (Nat.le_of_ble_eq_true rfl) (gy_k1 (x := .int (gI q7)) (kc2 := 0) (ks2 := 0) ⟨rfl, rfl⟩ ?_) gy_kn
    refine gx_bE e (fun q8 hq8 e => ?_)
    refine gx_callSN (n := 1) (st := []) (As := [.int (gI q7)]) dX4_lastTerminal_18 (z_X11_isTerminal hq8) rfl ⟨rfl, gw_cw_X11_isTerminal, gw_1, gp_X11_isTerminal, ⟨Nat.le_of_ble_eq_true rfl, Nat.le_of_ble_eq_true rfl⟩⟩ (host := "Grammarsmith") (by decide +kernel) gw_582 ⟨Nat.le_of_ble_eq_true rfl, Nat.le_of_ble_eq_true rfl⟩ (Nat.le_of_ble_eq_true rfl) (gy_k1 (x := .int (gI q8)) (kc2 := 0) (ks2 := 0) ⟨rfl, rfl⟩ ?_) gy_kn
    refine gx_bE e (fun _ g9 e => ?_)
    refine gx_iE e (fun c10 e => ?_) (fun c10 e => ?_)
    · refine gy_if_eq (tgt := 31) (gi_rgS g9) dX4_lastTerminal_21 (by decide) (fun _ => ?_) (fun z => absurd c10 z)
      refine gx_nE e (fun t11 ht11 e => ?_)
      refine gy_iinc (v := t11) (ls2 := [(2, .int (gI t11)), (0, .ref v0), (1, .int (gI v1))]) dX4_lastTerminal_31 2 rfl ht11 (Nat.le_of_ble_eq_true rfl) rfl ?_
      refine gx_goto (tgt := 8) dX4_lastTerminal_34 (by decide) ?_
      refine gx_sub (ls2 := [(0, .ref v0), (1, .int (gI v1)), (2, .int (gI t11))]) [1, 2, 0] rfl ?_
      exact hr8 _ _ _ _ e
    · refine gy_if_eq (tgt := 31) (gi_rgS g9) dX4_lastTerminal_21 (by decide) (fun z => absurd z c10) (fun _ => ?_)
      exact zb_X4_lastTerminal_24  e
def l_X4_lastTerminal_8 (n : Nat)  : Nat → Nat → Int → Int → gi_H → Option (Int)
  | 0, _, _, _, _ => none
  | k + 1, v0, v1, v2, h => b_X4_lastTerminal_8 n  (l_X4_lastTerminal_8 n  k) v0 v1 v2 h
theorem zl_X4_lastTerminal_8 {al : Bool} {n : Nat}  {res : Int}  : ∀ (k : Nat) (v0 : Nat) (v1 : Int) (v2 : Int) (h : gi_H), l_X4_lastTerminal_8 n  k v0 v1 v2 h = some res → gx_Z mX4_lastTerminal al al 0 0 8 [(0, .ref v0), (1, .int (gI v1)), (2, .int (gI v2))] [] (gi_cv h) (.inl (some (.int (gI res)))) (gi_cv h)
  | 0, _, _, _, _, e => gx_0E e
  | k + 1, _, _, _, _, e => zb_X4_lastTerminal_8 (n := n)  (zl_X4_lastTerminal_8  k) e
set_option maxRecDepth 100000 in
def f_X4_lastTerminal (n : Nat) (v0 : Nat) (v1 : Int) (h : gi_H) : Option (Int) :=
  Option.bind (gi_is h v0 3) fun _ => Option.bind (f_X4_length v0 v1 h) fun q2 => gx_nm (q2 - (1 : Int)) fun t3 => l_X4_lastTerminal_8 n  n v0 v1 t3 h
set_option maxRecDepth 100000 in
theorem z_X4_lastTerminal {al : Bool} {n : Nat} {v0 : Nat} {v1 : Int} {h : gi_H} {res : Int} (e : f_X4_lastTerminal n v0 v1 h = some res) : gx_Cw mX4_lastTerminal al [.ref v0, .int (gI v1)] (gi_cv h) (.inl (some (.int (gI res)))) (gi_cv h) := by
  refine gx_enter (by decide +kernel) rfl (Nat.le_of_ble_eq_true rfl) ?_
  show gx_Z mX4_lastTerminal al al 0 0 0 [(0, .ref v0), (1, .int (gI v1))] [] (gi_cv h) (.inl (some (.int (gI res)))) (gi_cv h)
  refine gx_aload_n dX4_lastTerminal_0 rfl 0 rfl ?_
  refine gx_iload_n dX4_lastTerminal_1 rfl 1 rfl ?_
  refine gx_bE e (fun _ hu1 e => ?_)
  refine gx_bE e (fun q2 hq2 e => ?_)
  refine gx_callV (n := 1) (st := []) (As := [.int (gI v1)]) (b := v0) dX4_lastTerminal_2 (z_X4_length hq2) rfl ⟨rfl, gw_cw_X4_length, gw_3, gp_X4_length, ⟨Nat.le_of_ble_eq_true rfl, Nat.le_of_ble_eq_true rfl⟩⟩ (gi_isS hu1) (by decide) gw_788 gw_411 gw_412 rfl ⟨Nat.le_of_ble_eq_true rfl, Nat.le_of_ble_eq_true rfl⟩ (Nat.le_of_ble_eq_true rfl) (gy_k1 (x := .int (gI q2)) (kc2 := 0) (ks2 := 0) ⟨rfl, rfl⟩ ?_) gy_kn
  refine gy_iconst dX4_lastTerminal_5 ?_
  refine gy_isub dX4_lastTerminal_6 ?_
  refine gx_nE e (fun t3 ht3 e => ?_)
  rw [ht3]
  refine gx_istore_n (ls2 := [(2, .int (gI t3)), (0, .ref v0), (1, .int (gI v1))]) dX4_lastTerminal_7 rfl (Nat.le_of_ble_eq_true rfl) rfl ?_
  refine gx_sub (ls2 := [(0, .ref v0), (1, .int (gI v1)), (2, .int (gI t3))]) [1, 2, 0] rfl ?_
  exact zl_X4_lastTerminal_8  n _ _ _ _ e
/-! X9_levelOfLowest  -/
set_option maxRecDepth 100000 in
def f_X9_levelOfLowest (n : Nat) (v0 : Nat) (h : gi_H) : Option (Int) :=
  Option.bind (gi_gR h v0 8 1) fun t1 => Option.bind (gi_is h t1 0) fun _ => Option.bind (f_X0_facts t1 h) fun q3 => Option.bind (gi_is h q3 2) fun _ => Option.bind (f_X3_grammar q3 h) fun q5 => Option.bind (gi_gI h v0 8 9) fun t6 => Option.bind (gi_is h q5 3) fun _ => Option.bind (f_X4_lastTerminal n q5 t6 h) fun q8 => Option.bind (gi_is h v0 8) fun _ => Option.bind (f_X9_levelOf v0 q8 h) fun q10 => some q10
set_option maxRecDepth 100000 in
theorem z_X9_levelOfLowest {al : Bool} {n : Nat} {v0 : Nat} {h : gi_H} {res : Int} (e : f_X9_levelOfLowest n v0 h = some res) : gx_Cw mX9_levelOfLowest al [.ref v0] (gi_cv h) (.inl (some (.int (gI res)))) (gi_cv h) := by
  refine gx_enter (by decide +kernel) rfl (Nat.le_of_ble_eq_true rfl) ?_
  show gx_Z mX9_levelOfLowest al al 0 0 0 [(0, .ref v0)] [] (gi_cv h) (.inl (some (.int (gI res)))) (gi_cv h)
  refine gx_aload_n dX9_levelOfLowest_0 rfl 0 rfl ?_
  refine gx_aload_n dX9_levelOfLowest_1 rfl 0 rfl ?_
  refine gx_bE e (fun t1 ht1 e => ?_)
  refine gy_fR ht1 dX9_levelOfLowest_2 gf_RX9_18_8_1 (by decide) gkN_8_1 gkR_8_1 ?_
  refine gx_bE e (fun _ hu2 e => ?_)
  refine gx_bE e (fun q3 hq3 e => ?_)
  refine gx_callV (n := 0) (st := [.ref v0]) (As := []) (b := t1) dX9_levelOfLowest_5 (z_X0_facts hq3) rfl ⟨rfl, gw_cw_X0_facts, gw_7, gp_X0_facts, ⟨Nat.le_of_ble_eq_true rfl, Nat.le_of_ble_eq_true rfl⟩⟩ (gi_isS hu2) (by decide) gw_1100 gw_1101 gw_1102 rfl ⟨Nat.le_of_ble_eq_true rfl, Nat.le_of_ble_eq_true rfl⟩ (Nat.le_of_ble_eq_true rfl) (gy_k1 (x := .ref q3) (kc2 := 0) (ks2 := 0) ⟨rfl, rfl⟩ ?_) gy_kn
  refine gx_bE e (fun _ hu4 e => ?_)
  refine gx_bE e (fun q5 hq5 e => ?_)
  refine gx_callV (n := 0) (st := [.ref v0]) (As := []) (b := q3) dX9_levelOfLowest_8 (z_X3_grammar hq5) rfl ⟨rfl, gw_cw_X3_grammar, gw_6, gp_X3_grammar, ⟨Nat.le_of_ble_eq_true rfl, Nat.le_of_ble_eq_true rfl⟩⟩ (gi_isS hu4) (by decide) gw_1104 gw_553 gw_554 rfl ⟨Nat.le_of_ble_eq_true rfl, Nat.le_of_ble_eq_true rfl⟩ (Nat.le_of_ble_eq_true rfl) (gy_k1 (x := .ref q5) (kc2 := 0) (ks2 := 0) ⟨rfl, rfl⟩ ?_) gy_kn
  refine gx_aload_n dX9_levelOfLowest_11 rfl 0 rfl ?_
  refine gx_bE e (fun t6 ht6 e => ?_)
  refine gy_fI ht6 dX9_levelOfLowest_12 gf_RX9_117_8_9 (by decide) gkN_8_9 gkR_8_9 ?_
  refine gx_bE e (fun _ hu7 e => ?_)
  refine gx_bE e (fun q8 hq8 e => ?_)
  refine gx_callV (n := 1) (st := [.ref v0]) (As := [.int (gI t6)]) (b := q5) dX9_levelOfLowest_15 (z_X4_lastTerminal hq8) rfl ⟨rfl, gw_cw_X4_lastTerminal, gw_3, gp_X4_lastTerminal, ⟨Nat.le_of_ble_eq_true rfl, Nat.le_of_ble_eq_true rfl⟩⟩ (gi_isS hu7) (by decide) gw_1136 gw_1137 gw_1138 rfl ⟨Nat.le_of_ble_eq_true rfl, Nat.le_of_ble_eq_true rfl⟩ (Nat.le_of_ble_eq_true rfl) (gy_k1 (x := .int (gI q8)) (kc2 := 0) (ks2 := 0) ⟨rfl, rfl⟩ ?_) gy_kn
  refine gx_bE e (fun _ hu9 e => ?_)
  refine gx_bE e (fun q10 hq10 e => ?_)
  refine gx_callV (n := 1) (st := []) (As := [.int (gI q8)]) (b := v0) dX9_levelOfLowest_18 (z_X9_levelOf hq10) rfl ⟨rfl, gw_cw_X9_levelOf, gw_10, gp_X9_levelOf, ⟨Nat.le_of_ble_eq_true rfl, Nat.le_of_ble_eq_true rfl⟩⟩ (gi_isS hu9) (by decide) gw_1128 gw_1130 gs_44 rfl ⟨Nat.le_of_ble_eq_true rfl, Nat.le_of_ble_eq_true rfl⟩ (Nat.le_of_ble_eq_true rfl) (gy_k1 (x := .int (gI q10)) (kc2 := 0) (ks2 := 0) ⟨rfl, rfl⟩ ?_) gy_kn
  cases e
  exact gx_iret dX9_levelOfLowest_21 rfl ⟨Nat.le_of_ble_eq_true rfl, Nat.le_of_ble_eq_true rfl⟩ (fun z => z)
/-! X9_isSettled  -/
set_option maxRecDepth 100000 in
def b_X9_isSettled_41 (n : Nat)    (h : gi_H) : Option (Int) :=
  some (0 : Int)
set_option maxRecDepth 100000 in
theorem zb_X9_isSettled_41 {al : Bool} {n : Nat}  {res : Int}    {h : gi_H} (e : b_X9_isSettled_41 n  h = some res) : gx_Z mX9_isSettled al al 0 0 41 [] [] (gi_cv h) (.inl (some (.int (gI res)))) (gi_cv h) := by
  refine gy_iconst dX9_isSettled_41 ?_
  cases e
  exact gx_zret (by decide +kernel) dX9_isSettled_42 rfl ⟨Nat.le_of_ble_eq_true rfl, Nat.le_of_ble_eq_true rfl⟩ (fun z => z)
set_option maxRecDepth 100000 in
def f_X9_isSettled (n : Nat) (v0 : Nat) (v1 : Int) (h : gi_H) : Option (Int) :=
  Option.bind (gi_gI h v0 8 6) fun t1 => Option.bind (gi_rg t1) fun _ => if t1 = 0 then (b_X9_isSettled_41 n   h) else (Option.bind (gi_gI h v0 8 7) fun t4 => Option.bind (gi_rg t4) fun _ => if t4 = 0 then (Option.bind (gi_gI h v0 8 8) fun t7 => Option.bind (gi_rg t7) fun _ => if t7 = (1 : Int) then (Option.bind (gi_is h v0 8) fun _ => Option.bind (f_X9_levelOf v0 v1 h) fun q11 => Option.bind (gi_rg q11) fun _ => if q11 ≤ 0 then (b_X9_isSettled_41 n   h) else (Option.bind (gi_is h v0 8) fun _ => Option.bind (f_X9_levelOfLowest n v0 h) fun q15 => Option.bind (gi_rg q15) fun _ => if q15 ≤ 0 then (b_X9_isSettled_41 n   h) else (some (1 : Int)))) else (b_X9_isSettled_41 n   h)) else (b_X9_isSettled_41 n   h))
set_option maxRecDepth 100000 in
theorem z_X9_isSettled {al : Bool} {n : Nat} {v0 : Nat} {v1 : Int} {h : gi_H} {res : Int} (e : f_X9_isSettled n v0 v1 h = some res) : gx_Cw mX9_isSettled al [.ref v0, .int (gI v1)] (gi_cv h) (.inl (some (.int (gI res)))) (gi_cv h) := by
  refine gx_enter (by decide +kernel) rfl (Nat.le_of_ble_eq_true rfl) ?_
  show gx_Z mX9_isSettled al al 0 0 0 [(0, .ref v0), (1, .int (gI v1))] [] (gi_cv h) (.inl (some (.int (gI res)))) (gi_cv h)
  refine gx_aload_n dX9_isSettled_0 rfl 0 rfl ?_
  refine gx_bE e (fun t1 ht1 e => ?_)
  refine gy_fI ht1 dX9_isSettled_1 gf_RX9_101_8_6 (by decide) gkN_8_6 gkR_8_6 ?_
  refine gx_bE e (fun _ g2 e => ?_)
  refine gx_iE e (fun c3 e => ?_) (fun c3 e => ?_)
  · refine gy_if_eq (tgt := 41) (gi_rgS g2) dX9_isSettled_4 (by decide) (fun _ => ?_) (fun z => absurd c3 z)
    refine gx_sub (ls2 := []) [] rfl ?_
    exact zb_X9_isSettled_41  e
  · refine gy_if_eq (tgt := 41) (gi_rgS g2) dX9_isSettled_4 (by decide) (fun z => absurd z c3) (fun _ => ?_)
    refine gx_aload_n dX9_isSettled_7 rfl 0 rfl ?_
    refine gx_bE e (fun t4 ht4 e => ?_)
    refine gy_fI ht4 dX9_isSettled_8 gf_RX9_111_8_7 (by decide) gkN_8_7 gkR_8_7 ?_
    refine gx_bE e (fun _ g5 e => ?_)
    refine gx_iE e (fun c6 e => ?_) (fun c6 e => ?_)
    · refine gy_if_ne (tgt := 41) (gi_rgS g5) dX9_isSettled_11 (by decide) (fun z => absurd c6 z) (fun _ => ?_)
      refine gx_aload_n dX9_isSettled_14 rfl 0 rfl ?_
      refine gx_bE e (fun t7 ht7 e => ?_)
      refine gy_fI ht7 dX9_isSettled_15 gf_RX9_114_8_8 (by decide) gkN_8_8 gkR_8_8 ?_
      refine gy_iconst dX9_isSettled_18 ?_
      refine gx_bE e (fun _ g8 e => ?_)
      refine gx_iE e (fun c9 e => ?_) (fun c9 e => ?_)
      · refine gy_icmp_ne (tgt := 41) (gi_rgS g8) (by decide) dX9_isSettled_19 (by decide) (fun z => absurd c9 z) (fun _ => ?_)
        refine gx_aload_n dX9_isSettled_22 rfl 0 rfl ?_
        refine gx_iload_n dX9_isSettled_23 rfl 1 rfl ?_
        refine gx_bE e (fun _ hu10 e => ?_)
        refine gx_bE e (fun q11 hq11 e => ?_)
        refine gx_callV (n := 1) (st := []) (As := [.int (gI v1)]) (b := v0) dX9_isSettled_24 (z_X9_levelOf hq11) rfl ⟨rfl, gw_cw_X9_levelOf, gw_10, gp_X9_levelOf, ⟨Nat.le_of_ble_eq_true rfl, Nat.le_of_ble_eq_true rfl⟩⟩ (gi_isS hu10) (by decide) gw_1128 gw_1130 gs_44 rfl ⟨Nat.le_of_ble_eq_true rfl, Nat.le_of_ble_eq_true rfl⟩ (Nat.le_of_ble_eq_true rfl) (gy_k1 (x := .int (gI q11)) (kc2 := 0) (ks2 := 0) ⟨rfl, rfl⟩ ?_) gy_kn
        refine gx_bE e (fun _ g12 e => ?_)
        refine gx_iE e (fun c13 e => ?_) (fun c13 e => ?_)
        · refine gy_if_le (tgt := 41) (gi_rgS g12) dX9_isSettled_27 (by decide) (fun _ => ?_) (fun z => absurd c13 z)
          refine gx_sub (ls2 := []) [] rfl ?_
          exact zb_X9_isSettled_41  e
        · refine gy_if_le (tgt := 41) (gi_rgS g12) dX9_isSettled_27 (by decide) (fun z => absurd z c13) (fun _ => ?_)
          refine gx_aload_n dX9_isSettled_30 rfl 0 rfl ?_
          refine gx_bE e (fun _ hu14 e => ?_)
          refine gx_bE e (fun q15 hq15 e => ?_)
          refine gx_callV (n := 0) (st := []) (As := []) (b := v0) dX9_isSettled_31 (z_X9_levelOfLowest hq15) rfl ⟨rfl, gw_cw_X9_levelOfLowest, gw_10, gp_X9_levelOfLowest, ⟨Nat.le_of_ble_eq_true rfl, Nat.le_of_ble_eq_true rfl⟩⟩ (gi_isS hu14) (by decide) gw_1132 gw_1134 gs_45 rfl ⟨Nat.le_of_ble_eq_true rfl, Nat.le_of_ble_eq_true rfl⟩ (Nat.le_of_ble_eq_true rfl) (gy_k1 (x := .int (gI q15)) (kc2 := 0) (ks2 := 0) ⟨rfl, rfl⟩ ?_) gy_kn
          refine gx_bE e (fun _ g16 e => ?_)
          refine gx_iE e (fun c17 e => ?_) (fun c17 e => ?_)
          · refine gy_if_le (tgt := 41) (gi_rgS g16) dX9_isSettled_34 (by decide) (fun _ => ?_) (fun z => absurd c17 z)
            refine gx_sub (ls2 := []) [] rfl ?_
            exact zb_X9_isSettled_41  e
          · refine gy_if_le (tgt := 41) (gi_rgS g16) dX9_isSettled_34 (by decide) (fun z => absurd z c17) (fun _ => ?_)
            refine gy_iconst dX9_isSettled_37 ?_
            refine gx_goto (tgt := 42) dX9_isSettled_38 (by decide) ?_
            cases e
            exact gx_zret (by decide +kernel) dX9_isSettled_42 rfl ⟨Nat.le_of_ble_eq_true rfl, Nat.le_of_ble_eq_true rfl⟩ (fun z => z)
      · refine gy_icmp_ne (tgt := 41) (gi_rgS g8) (by decide) dX9_isSettled_19 (by decide) (fun _ => ?_) (fun z => absurd z c9)
        refine gx_sub (ls2 := []) [] rfl ?_
        exact zb_X9_isSettled_41  e
    · refine gy_if_ne (tgt := 41) (gi_rgS g5) dX9_isSettled_11 (by decide) (fun _ => ?_) (fun z => absurd z c6)
      refine gx_sub (ls2 := []) [] rfl ?_
      exact zb_X9_isSettled_41  e
/-! X9_cellsInConflict  -/
set_option maxRecDepth 100000 in
def b_X9_cellsInConflict_76 (n : Nat) (r19 : Nat → Int → Int → Int → gi_H → Option (Int × gi_H)) (v0 : Nat) (v1 : Int) (v2 : Int) (v3 : Int)  (h : gi_H) : Option (Int × gi_H) :=
  gx_nm (v3 + (1 : Int)) fun t14 => r19 v0 v1 v2 t14 h
set_option maxRecDepth 100000 in
theorem zb_X9_cellsInConflict_76 {al : Bool} {n : Nat} {r19 : Nat → Int → Int → Int → gi_H → Option (Int × gi_H)} {res : Int} {h1 : gi_H} (hr19 : ∀ (x0 : Nat) (x1 : Int) (x2 : Int) (x3 : Int) (hh : gi_H), r19 x0 x1 x2 x3 hh = some (res, h1) → gx_Z mX9_cellsInConflict al al 0 0 19 [(0, .ref x0), (1, .int (gI x1)), (2, .int (gI x2)), (3, .int (gI x3))] [] (gi_cv hh) (.inl (some (.int (gI res)))) (gi_cv h1)) {v0 : Nat} {v1 : Int} {v2 : Int} {v3 : Int}  {h : gi_H} (e : b_X9_cellsInConflict_76 n r19 v0 v1 v2 v3 h = some (res, h1)) : gx_Z mX9_cellsInConflict al al 0 0 76 [(0, .ref v0), (1, .int (gI v1)), (2, .int (gI v2)), (3, .int (gI v3))] [] (gi_cv h) (.inl (some (.int (gI res)))) (gi_cv h1) := by
  refine gx_nE e (fun t14 ht14 e => ?_)
  refine gy_iinc (v := t14) (ls2 := [(3, .int (gI t14)), (0, .ref v0), (1, .int (gI v1)), (2, .int (gI v2))]) dX9_cellsInConflict_76 3 rfl ht14 (Nat.le_of_ble_eq_true rfl) rfl ?_
  refine gx_goto (tgt := 19) dX9_cellsInConflict_79 (by decide) ?_
  refine gx_sub (ls2 := [(0, .ref v0), (1, .int (gI v1)), (2, .int (gI v2)), (3, .int (gI t14))]) [1, 2, 3, 0] rfl ?_
  exact hr19 _ _ _ _ _ e
set_option maxRecDepth 100000 in
def b_X9_cellsInConflict_70 (n : Nat) (r19 : Nat → Int → Int → Int → gi_H → Option (Int × gi_H)) (r33 : Nat → Int → Int → Int → Int → gi_H → Option (Int × gi_H)) (v0 : Nat) (v1 : Int) (v2 : Int) (v3 : Int) (v4 : Int)  (h : gi_H) : Option (Int × gi_H) :=
  gx_nm (v4 + (1 : Int)) fun t21 => r33 v0 v1 v2 v3 t21 h
set_option maxRecDepth 100000 in
theorem zb_X9_cellsInConflict_70 {al : Bool} {n : Nat} {r19 : Nat → Int → Int → Int → gi_H → Option (Int × gi_H)} {r33 : Nat → Int → Int → Int → Int → gi_H → Option (Int × gi_H)} {res : Int} {h1 : gi_H} (hr19 : ∀ (x0 : Nat) (x1 : Int) (x2 : Int) (x3 : Int) (hh : gi_H), r19 x0 x1 x2 x3 hh = some (res, h1) → gx_Z mX9_cellsInConflict al al 0 0 19 [(0, .ref x0), (1, .int (gI x1)), (2, .int (gI x2)), (3, .int (gI x3))] [] (gi_cv hh) (.inl (some (.int (gI res)))) (gi_cv h1)) (hr33 : ∀ (x0 : Nat) (x1 : Int) (x2 : Int) (x3 : Int) (x4 : Int) (hh : gi_H), r33 x0 x1 x2 x3 x4 hh = some (res, h1) → gx_Z mX9_cellsInConflict al al 0 0 33 [(0, .ref x0), (1, .int (gI x1)), (2, .int (gI x2)), (3, .int (gI x3)), (4, .int (gI x4))] [] (gi_cv hh) (.inl (some (.int (gI res)))) (gi_cv h1)) {v0 : Nat} {v1 : Int} {v2 : Int} {v3 : Int} {v4 : Int}  {h : gi_H} (e : b_X9_cellsInConflict_70 n r19 r33 v0 v1 v2 v3 v4 h = some (res, h1)) : gx_Z mX9_cellsInConflict al al 0 0 70 [(0, .ref v0), (1, .int (gI v1)), (2, .int (gI v2)), (3, .int (gI v3)), (4, .int (gI v4))] [] (gi_cv h) (.inl (some (.int (gI res)))) (gi_cv h1) := by
  refine gx_nE e (fun t21 ht21 e => ?_)
  refine gy_iinc (v := t21) (ls2 := [(4, .int (gI t21)), (0, .ref v0), (1, .int (gI v1)), (2, .int (gI v2)), (3, .int (gI v3))]) dX9_cellsInConflict_70 4 rfl ht21 (Nat.le_of_ble_eq_true rfl) rfl ?_
  refine gx_goto (tgt := 33) dX9_cellsInConflict_73 (by decide) ?_
  refine gx_sub (ls2 := [(0, .ref v0), (1, .int (gI v1)), (2, .int (gI v2)), (3, .int (gI v3)), (4, .int (gI t21))]) [1, 2, 3, 4, 0] rfl ?_
  exact hr33 _ _ _ _ _ _ e
set_option maxRecDepth 100000 in
def b_X9_cellsInConflict_67 (n : Nat) (r19 : Nat → Int → Int → Int → gi_H → Option (Int × gi_H)) (r33 : Nat → Int → Int → Int → Int → gi_H → Option (Int × gi_H)) (v0 : Nat) (v1 : Int) (v2 : Int) (v3 : Int) (v4 : Int)  (h : gi_H) : Option (Int × gi_H) :=
  gx_nm (v2 + (1 : Int)) fun t24 => b_X9_cellsInConflict_70 n r19 r33 v0 v1 t24 v3 v4 h
set_option maxRecDepth 100000 in
theorem zb_X9_cellsInConflict_67 {al : Bool} {n : Nat} {r19 : Nat → Int → Int → Int → gi_H → Option (Int × gi_H)} {r33 : Nat → Int → Int → Int → Int → gi_H → Option (Int × gi_H)} {res : Int} {h1 : gi_H} (hr19 : ∀ (x0 : Nat) (x1 : Int) (x2 : Int) (x3 : Int) (hh : gi_H), r19 x0 x1 x2 x3 hh = some (res, h1) → gx_Z mX9_cellsInConflict al al 0 0 19 [(0, .ref x0), (1, .int (gI x1)), (2, .int (gI x2)), (3, .int (gI x3))] [] (gi_cv hh) (.inl (some (.int (gI res)))) (gi_cv h1)) (hr33 : ∀ (x0 : Nat) (x1 : Int) (x2 : Int) (x3 : Int) (x4 : Int) (hh : gi_H), r33 x0 x1 x2 x3 x4 hh = some (res, h1) → gx_Z mX9_cellsInConflict al al 0 0 33 [(0, .ref x0), (1, .int (gI x1)), (2, .int (gI x2)), (3, .int (gI x3)), (4, .int (gI x4))] [] (gi_cv hh) (.inl (some (.int (gI res)))) (gi_cv h1)) {v0 : Nat} {v1 : Int} {v2 : Int} {v3 : Int} {v4 : Int}  {h : gi_H} (e : b_X9_cellsInConflict_67 n r19 r33 v0 v1 v2 v3 v4 h = some (res, h1)) : gx_Z mX9_cellsInConflict al al 0 0 67 [(0, .ref v0), (1, .int (gI v1)), (2, .int (gI v2)), (3, .int (gI v3)), (4, .int (gI v4))] [] (gi_cv h) (.inl (some (.int (gI res)))) (gi_cv h1) := by
  refine gx_nE e (fun t24 ht24 e => ?_)
  refine gy_iinc (v := t24) (ls2 := [(2, .int (gI t24)), (0, .ref v0), (1, .int (gI v1)), (3, .int (gI v3)), (4, .int (gI v4))]) dX9_cellsInConflict_67 2 rfl ht24 (Nat.le_of_ble_eq_true rfl) rfl ?_
  refine gx_sub (ls2 := [(0, .ref v0), (1, .int (gI v1)), (2, .int (gI t24)), (3, .int (gI v3)), (4, .int (gI v4))]) [1, 2, 0, 3, 4] rfl ?_
  exact zb_X9_cellsInConflict_70 hr19 hr33 e
set_option maxRecDepth 100000 in
def b_X9_cellsInConflict_33 (n : Nat) (r19 : Nat → Int → Int → Int → gi_H → Option (Int × gi_H)) (r33 : Nat → Int → Int → Int → Int → gi_H → Option (Int × gi_H)) (v0 : Nat) (v1 : Int) (v2 : Int) (v3 : Int) (v4 : Int)  (h : gi_H) : Option (Int × gi_H) :=
  Option.bind (gi_rg v4) fun _ => if (9 : Int) ≤ v4 then (b_X9_cellsInConflict_76 n r19 v0 v1 v2 v3 h) else (Option.bind (gi_is h v0 8) fun _ => Option.bind (f_X9_readCell n v0 v3 v4 h) fun q16 => Option.bind (gi_is q16 v0 8) fun _ => Option.bind (f_X9_isConflict v0 q16) fun q18 => Option.bind (gi_rg q18) fun _ => if q18 = 0 then (b_X9_cellsInConflict_70 n r19 r33 v0 v1 v2 v3 v4 q16) else (Option.bind (gi_rg v1) fun _ => if v1 = 0 then (b_X9_cellsInConflict_67 n r19 r33 v0 v1 v2 v3 v4 q16) else (Option.bind (gi_is q16 v0 8) fun _ => Option.bind (f_X9_isSettled n v0 v4 q16) fun q26 => Option.bind (gi_rg q26) fun _ => if q26 = 0 then (b_X9_cellsInConflict_70 n r19 r33 v0 v1 v2 v3 v4 q16) else (b_X9_cellsInConflict_67 n r19 r33 v0 v1 v2 v3 v4 q16))))
set_option maxRecDepth 100000 in
theorem zb_X9_cellsInConflict_33 {al : Bool} {n : Nat} {r19 : Nat → Int → Int → Int → gi_H → Option (Int × gi_H)} {r33 : Nat → Int → Int → Int → Int → gi_H → Option (Int × gi_H)} {res : Int} {h1 : gi_H} (hr19 : ∀ (x0 : Nat) (x1 : Int) (x2 : Int) (x3 : Int) (hh : gi_H), r19 x0 x1 x2 x3 hh = some (res, h1) → gx_Z mX9_cellsInConflict al al 0 0 19 [(0, .ref x0), (1, .int (gI x1)), (2, .int (gI x2)), (3, .int (gI x3))] [] (gi_cv hh) (.inl (some (.int (gI res)))) (gi_cv h1)) (hr33 : ∀ (x0 : Nat) (x1 : Int) (x2 : Int) (x3 : Int) (x4 : Int) (hh : gi_H), r33 x0 x1 x2 x3 x4 hh = some (res, h1) → gx_Z mX9_cellsInConflict al al 0 0 33 [(0, .ref x0), (1, .int (gI x1)), (2, .int (gI x2)), (3, .int (gI x3)), (4, .int (gI x4))] [] (gi_cv hh) (.inl (some (.int (gI res)))) (gi_cv h1)) {v0 : Nat} {v1 : Int} {v2 : Int} {v3 : Int} {v4 : Int}  {h : gi_H} (e : b_X9_cellsInConflict_33 n r19 r33 v0 v1 v2 v3 v4 h = some (res, h1)) : gx_Z mX9_cellsInConflict al al 0 0 33 [(0, .ref v0), (1, .int (gI v1)), (2, .int (gI v2)), (3, .int (gI v3)), (4, .int (gI v4))] [] (gi_cv h) (.inl (some (.int (gI res)))) (gi_cv h1) := by
  refine gx_iload dX9_cellsInConflict_33 4 rfl ?_
  refine gy_bipush dX9_cellsInConflict_35 gcb_9 ?_
  refine gx_bE e (fun _ g12 e => ?_)
  refine gx_iE e (fun c13 e => ?_) (fun c13 e => ?_)
  · refine gy_icmp_ge (tgt := 76) (gi_rgS g12) (by decide) dX9_cellsInConflict_37 (by decide) (fun _ => ?_) (fun z => absurd c13 z)
    refine gx_sub (ls2 := [(0, .ref v0), (1, .int (gI v1)), (2, .int (gI v2)), (3, .int (gI v3))]) [0, 1, 2, 3] rfl ?_
    exact zb_X9_cellsInConflict_76 hr19 e
  · refine gy_icmp_ge (tgt := 76) (gi_rgS g12) (by decide) dX9_cellsInConflict_37 (by decide) (fun z => absurd z c13) (fun _ => ?_)
    refine gx_aload_n dX9_cellsInConflict_40 rfl 0 rfl ?_
    refine gx_iload_n dX9_cellsInConflict_41 rfl 3 rfl ?_
    refine gx_iload dX9_cellsInConflict_42 4 rfl ?_
    refine gx_bE e (fun _ hu15 e => ?_)
    refine gx_bE e (fun q16 hq16 e => ?_)
    refine gx_callV (n := 2) (st := []) (As := [.int (gI v3), .int (gI v4)]) (b := v0) dX9_cellsInConflict_44 (z_X9_readCell hq16) rfl ⟨rfl, gw_cw_X9_readCell, gw_10, gp_X9_readCell, ⟨Nat.le_of_ble_eq_true rfl, Nat.le_of_ble_eq_true rfl⟩⟩ (gi_isS hu15) (by decide) gw_1096 gw_1098 gs_40 rfl ⟨Nat.le_of_ble_eq_true rfl, Nat.le_of_ble_eq_true rfl⟩ (Nat.le_of_ble_eq_true rfl) (gy_k0 (kc2 := 0) (ks2 := 0) ⟨rfl, rfl⟩ ?_) gy_kn
    refine gx_aload_n dX9_cellsInConflict_47 rfl 0 rfl ?_
    refine gx_bE e (fun _ hu17 e => ?_)
    refine gx_bE e (fun q18 hq18 e => ?_)
    refine gx_callV (n := 0) (st := []) (As := []) (b := v0) dX9_cellsInConflict_48 (z_X9_isConflict hq18) rfl ⟨rfl, gw_cw_X9_isConflict, gw_10, gp_X9_isConflict, ⟨Nat.le_of_ble_eq_true rfl, Nat.le_of_ble_eq_true rfl⟩⟩ (gi_isS hu17) (by decide) gw_1120 gw_1122 gs_42 rfl ⟨Nat.le_of_ble_eq_true rfl, Nat.le_of_ble_eq_true rfl⟩ (Nat.le_of_ble_eq_true rfl) (gy_k1 (x := .int (gI q18)) (kc2 := 0) (ks2 := 0) ⟨rfl, rfl⟩ ?_) gy_kn
    refine gx_bE e (fun _ g19 e => ?_)
    refine gx_iE e (fun c20 e => ?_) (fun c20 e => ?_)
    · refine gy_if_eq (tgt := 70) (gi_rgS g19) dX9_cellsInConflict_51 (by decide) (fun _ => ?_) (fun z => absurd c20 z)
      exact zb_X9_cellsInConflict_70 hr19 hr33 e
    · refine gy_if_eq (tgt := 70) (gi_rgS g19) dX9_cellsInConflict_51 (by decide) (fun z => absurd z c20) (fun _ => ?_)
      refine gx_iload_n dX9_cellsInConflict_54 rfl 1 rfl ?_
      refine gx_bE e (fun _ g22 e => ?_)
      refine gx_iE e (fun c23 e => ?_) (fun c23 e => ?_)
      · refine gy_if_eq (tgt := 67) (gi_rgS g22) dX9_cellsInConflict_55 (by decide) (fun _ => ?_) (fun z => absurd c23 z)
        exact zb_X9_cellsInConflict_67 hr19 hr33 e
      · refine gy_if_eq (tgt := 67) (gi_rgS g22) dX9_cellsInConflict_55 (by decide) (fun z => absurd z c23) (fun _ => ?_)
        refine gx_aload_n dX9_cellsInConflict_58 rfl 0 rfl ?_
        refine gx_iload dX9_cellsInConflict_59 4 rfl ?_
        refine gx_bE e (fun _ hu25 e => ?_)
        refine gx_bE e (fun q26 hq26 e => ?_)
        refine gx_callV (n := 1) (st := []) (As := [.int (gI v4)]) (b := v0) dX9_cellsInConflict_61 (z_X9_isSettled hq26) rfl ⟨rfl, gw_cw_X9_isSettled, gw_10, gp_X9_isSettled, ⟨Nat.le_of_ble_eq_true rfl, Nat.le_of_ble_eq_true rfl⟩⟩ (gi_isS hu25) (by decide) gw_1124 gw_1126 gs_43 rfl ⟨Nat.le_of_ble_eq_true rfl, Nat.le_of_ble_eq_true rfl⟩ (Nat.le_of_ble_eq_true rfl) (gy_k1 (x := .int (gI q26)) (kc2 := 0) (ks2 := 0) ⟨rfl, rfl⟩ ?_) gy_kn
        refine gx_bE e (fun _ g27 e => ?_)
        refine gx_iE e (fun c28 e => ?_) (fun c28 e => ?_)
        · refine gy_if_eq (tgt := 70) (gi_rgS g27) dX9_cellsInConflict_64 (by decide) (fun _ => ?_) (fun z => absurd c28 z)
          exact zb_X9_cellsInConflict_70 hr19 hr33 e
        · refine gy_if_eq (tgt := 70) (gi_rgS g27) dX9_cellsInConflict_64 (by decide) (fun z => absurd z c28) (fun _ => ?_)
          exact zb_X9_cellsInConflict_67 hr19 hr33 e
def l_X9_cellsInConflict_33 (n : Nat) (r19 : Nat → Int → Int → Int → gi_H → Option (Int × gi_H)) : Nat → Nat → Int → Int → Int → Int → gi_H → Option (Int × gi_H)
  | 0, _, _, _, _, _, _ => none
  | k + 1, v0, v1, v2, v3, v4, h => b_X9_cellsInConflict_33 n r19 (l_X9_cellsInConflict_33 n r19 k) v0 v1 v2 v3 v4 h
theorem zl_X9_cellsInConflict_33 {al : Bool} {n : Nat} {r19 : Nat → Int → Int → Int → gi_H → Option (Int × gi_H)} {res : Int} {h1 : gi_H} (hr19 : ∀ (x0 : Nat) (x1 : Int) (x2 : Int) (x3 : Int) (hh : gi_H), r19 x0 x1 x2 x3 hh = some (res, h1) → gx_Z mX9_cellsInConflict al al 0 0 19 [(0, .ref x0), (1, .int (gI x1)), (2, .int (gI x2)), (3, .int (gI x3))] [] (gi_cv hh) (.inl (some (.int (gI res)))) (gi_cv h1)) : ∀ (k : Nat) (v0 : Nat) (v1 : Int) (v2 : Int) (v3 : Int) (v4 : Int) (h : gi_H), l_X9_cellsInConflict_33 n r19 k v0 v1 v2 v3 v4 h = some (res, h1) → gx_Z mX9_cellsInConflict al al 0 0 33 [(0, .ref v0), (1, .int (gI v1)), (2, .int (gI v2)), (3, .int (gI v3)), (4, .int (gI v4))] [] (gi_cv h) (.inl (some (.int (gI res)))) (gi_cv h1)
  | 0, _, _, _, _, _, _, e => gx_0E e
  | k + 1, _, _, _, _, _, _, e => zb_X9_cellsInConflict_33 (n := n) hr19 (zl_X9_cellsInConflict_33 hr19 k) e
set_option maxRecDepth 100000 in
def b_X9_cellsInConflict_19 (n : Nat) (r19 : Nat → Int → Int → Int → gi_H → Option (Int × gi_H)) (v0 : Nat) (v1 : Int) (v2 : Int) (v3 : Int)  (h : gi_H) : Option (Int × gi_H) :=
  Option.bind (gi_gR h v0 8 1) fun t6 => Option.bind (gi_is h t6 0) fun _ => Option.bind (f_X0_extent t6 h) fun q8 => Option.bind (gi_rg v3) fun _ => Option.bind (gi_rg q8) fun _ => if q8 ≤ v3 then (some (v2, h)) else (l_X9_cellsInConflict_33 n r19 n v0 v1 v2 v3 (0 : Int) h)
set_option maxRecDepth 100000 in
theorem zb_X9_cellsInConflict_19 {al : Bool} {n : Nat} {r19 : Nat → Int → Int → Int → gi_H → Option (Int × gi_H)} {res : Int} {h1 : gi_H} (hr19 : ∀ (x0 : Nat) (x1 : Int) (x2 : Int) (x3 : Int) (hh : gi_H), r19 x0 x1 x2 x3 hh = some (res, h1) → gx_Z mX9_cellsInConflict al al 0 0 19 [(0, .ref x0), (1, .int (gI x1)), (2, .int (gI x2)), (3, .int (gI x3))] [] (gi_cv hh) (.inl (some (.int (gI res)))) (gi_cv h1)) {v0 : Nat} {v1 : Int} {v2 : Int} {v3 : Int}  {h : gi_H} (e : b_X9_cellsInConflict_19 n r19 v0 v1 v2 v3 h = some (res, h1)) : gx_Z mX9_cellsInConflict al al 0 0 19 [(0, .ref v0), (1, .int (gI v1)), (2, .int (gI v2)), (3, .int (gI v3))] [] (gi_cv h) (.inl (some (.int (gI res)))) (gi_cv h1) := by
  refine gx_iload_n dX9_cellsInConflict_19 rfl 3 rfl ?_
  refine gx_aload_n dX9_cellsInConflict_20 rfl 0 rfl ?_
  refine gx_bE e (fun t6 ht6 e => ?_)
  refine gy_fR ht6 dX9_cellsInConflict_21 gf_RX9_18_8_1 (by decide) gkN_8_1 gkR_8_1 ?_
  refine gx_bE e (fun _ hu7 e => ?_)
  refine gx_bE e (fun q8 hq8 e => ?_)
  refine gx_callV (n := 0) (st := [.int (gI v3)]) (As := []) (b := t6) dX9_cellsInConflict_24 (z_X0_extent hq8) rfl ⟨rfl, gw_cw_X0_extent, gw_7, gp_X0_extent, ⟨Nat.le_of_ble_eq_true rfl, Nat.le_of_ble_eq_true rfl⟩⟩ (gi_isS hu7) (by decide) gw_1072 gw_1073 gw_1074 rfl ⟨Nat.le_of_ble_eq_true rfl, Nat.le_of_ble_eq_true rfl⟩ (Nat.le_of_ble_eq_true rfl) (gy_k1 (x := .int (gI q8)) (kc2 := 0) (ks2 := 0) ⟨rfl, rfl⟩ ?_) gy_kn
  refine gx_bE e (fun _ g9 e => ?_)
  refine gx_bE e (fun _ g10 e => ?_)
  refine gx_iE e (fun c11 e => ?_) (fun c11 e => ?_)
  · refine gy_icmp_ge (tgt := 82) (gi_rgS g9) (gi_rgS g10) dX9_cellsInConflict_27 (by decide) (fun _ => ?_) (fun z => absurd c11 z)
    refine gx_iload_n dX9_cellsInConflict_82 rfl 2 rfl ?_
    cases e
    exact gx_iret dX9_cellsInConflict_83 rfl ⟨Nat.le_of_ble_eq_true rfl, Nat.le_of_ble_eq_true rfl⟩ (fun z => z)
  · refine gy_icmp_ge (tgt := 82) (gi_rgS g9) (gi_rgS g10) dX9_cellsInConflict_27 (by decide) (fun z => absurd z c11) (fun _ => ?_)
    refine gy_iconst dX9_cellsInConflict_30 ?_
    refine gx_istore (ls2 := [(4, .int (gI (0 : Int))), (0, .ref v0), (1, .int (gI v1)), (2, .int (gI v2)), (3, .int (gI v3))]) dX9_cellsInConflict_31 (Nat.le_of_ble_eq_true rfl) rfl ?_
    refine gx_sub (ls2 := [(0, .ref v0), (1, .int (gI v1)), (2, .int (gI v2)), (3, .int (gI v3)), (4, .int (gI (0 : Int)))]) [1, 2, 3, 4, 0] rfl ?_
    exact zl_X9_cellsInConflict_33 hr19 n _ _ _ _ _ _ e
def l_X9_cellsInConflict_19 (n : Nat)  : Nat → Nat → Int → Int → Int → gi_H → Option (Int × gi_H)
  | 0, _, _, _, _, _ => none
  | k + 1, v0, v1, v2, v3, h => b_X9_cellsInConflict_19 n  (l_X9_cellsInConflict_19 n  k) v0 v1 v2 v3 h
theorem zl_X9_cellsInConflict_19 {al : Bool} {n : Nat}  {res : Int} {h1 : gi_H}  : ∀ (k : Nat) (v0 : Nat) (v1 : Int) (v2 : Int) (v3 : Int) (h : gi_H), l_X9_cellsInConflict_19 n  k v0 v1 v2 v3 h = some (res, h1) → gx_Z mX9_cellsInConflict al al 0 0 19 [(0, .ref v0), (1, .int (gI v1)), (2, .int (gI v2)), (3, .int (gI v3))] [] (gi_cv h) (.inl (some (.int (gI res)))) (gi_cv h1)
  | 0, _, _, _, _, _, e => gx_0E e
  | k + 1, _, _, _, _, _, e => zb_X9_cellsInConflict_19 (n := n)  (zl_X9_cellsInConflict_19  k) e
set_option maxRecDepth 100000 in
def f_X9_cellsInConflict (n : Nat) (v0 : Nat) (v1 : Int) (h : gi_H) : Option (Int × gi_H) :=
  Option.bind (gi_gR h v0 8 1) fun t1 => Option.bind (gi_is h t1 0) fun _ => Option.bind (f_X0_extent t1 h) fun q3 => Option.bind (gi_rg q3) fun _ => if q3 = (-2 : Int) then (some ((-2 : Int), h)) else (l_X9_cellsInConflict_19 n  n v0 v1 (0 : Int) (0 : Int) h)
set_option maxRecDepth 100000 in
theorem z_X9_cellsInConflict {al : Bool} {n : Nat} {v0 : Nat} {v1 : Int} {h : gi_H} {res : Int} {h1 : gi_H} (e : f_X9_cellsInConflict n v0 v1 h = some (res, h1)) : gx_Cw mX9_cellsInConflict al [.ref v0, .int (gI v1)] (gi_cv h) (.inl (some (.int (gI res)))) (gi_cv h1) := by
  refine gx_enter (by decide +kernel) rfl (Nat.le_of_ble_eq_true rfl) ?_
  show gx_Z mX9_cellsInConflict al al 0 0 0 [(0, .ref v0), (1, .int (gI v1))] [] (gi_cv h) (.inl (some (.int (gI res)))) (gi_cv h1)
  refine gx_aload_n dX9_cellsInConflict_0 rfl 0 rfl ?_
  refine gx_bE e (fun t1 ht1 e => ?_)
  refine gy_fR ht1 dX9_cellsInConflict_1 gf_RX9_18_8_1 (by decide) gkN_8_1 gkR_8_1 ?_
  refine gx_bE e (fun _ hu2 e => ?_)
  refine gx_bE e (fun q3 hq3 e => ?_)
  refine gx_callV (n := 0) (st := []) (As := []) (b := t1) dX9_cellsInConflict_4 (z_X0_extent hq3) rfl ⟨rfl, gw_cw_X0_extent, gw_7, gp_X0_extent, ⟨Nat.le_of_ble_eq_true rfl, Nat.le_of_ble_eq_true rfl⟩⟩ (gi_isS hu2) (by decide) gw_1072 gw_1073 gw_1074 rfl ⟨Nat.le_of_ble_eq_true rfl, Nat.le_of_ble_eq_true rfl⟩ (Nat.le_of_ble_eq_true rfl) (gy_k1 (x := .int (gI q3)) (kc2 := 0) (ks2 := 0) ⟨rfl, rfl⟩ ?_) gy_kn
  refine gy_bipush dX9_cellsInConflict_7 gcb_m2 ?_
  refine gx_bE e (fun _ g4 e => ?_)
  refine gx_iE e (fun c5 e => ?_) (fun c5 e => ?_)
  · refine gy_icmp_ne (tgt := 15) (gi_rgS g4) (by decide) dX9_cellsInConflict_9 (by decide) (fun z => absurd c5 z) (fun _ => ?_)
    refine gy_bipush dX9_cellsInConflict_12 gcb_m2 ?_
    cases e
    exact gx_iret dX9_cellsInConflict_14 rfl ⟨Nat.le_of_ble_eq_true rfl, Nat.le_of_ble_eq_true rfl⟩ (fun z => z)
  · refine gy_icmp_ne (tgt := 15) (gi_rgS g4) (by decide) dX9_cellsInConflict_9 (by decide) (fun _ => ?_) (fun z => absurd z c5)
    refine gy_iconst dX9_cellsInConflict_15 ?_
    refine gx_istore_n (ls2 := [(2, .int (gI (0 : Int))), (0, .ref v0), (1, .int (gI v1))]) dX9_cellsInConflict_16 rfl (Nat.le_of_ble_eq_true rfl) rfl ?_
    refine gy_iconst dX9_cellsInConflict_17 ?_
    refine gx_istore_n (ls2 := [(3, .int (gI (0 : Int))), (2, .int (gI (0 : Int))), (0, .ref v0), (1, .int (gI v1))]) dX9_cellsInConflict_18 rfl (Nat.le_of_ble_eq_true rfl) rfl ?_
    refine gx_sub (ls2 := [(0, .ref v0), (1, .int (gI v1)), (2, .int (gI (0 : Int))), (3, .int (gI (0 : Int)))]) [2, 3, 1, 0] rfl ?_
    exact zl_X9_cellsInConflict_19  n _ _ _ _ _ e
