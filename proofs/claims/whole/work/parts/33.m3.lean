/-! X12_enters  -/
set_option maxRecDepth 100000 in
def b_X12_enters_97 (n : Nat)  (v0 : Nat)  (h : gi_H) : Option (Int × gi_H) :=
  Option.bind (gi_gR h v0 10 4) fun t25 => Option.bind (gi_gI h v0 10 9) fun t26 => Option.bind (gi_aI h 1 t25 t26) fun t27 => Option.bind (gi_s1 h t25 t26 (t27 + (1 : Int))) fun h28 => Option.bind (gi_is h28 v0 10) fun _ => Option.bind (f_X12_changed v0 h28) fun q30 => some ((1 : Int), q30)
set_option maxRecDepth 100000 in
theorem zb_X12_enters_97 {al : Bool} {n : Nat}  {res : Int} {h1 : gi_H}  {v0 : Nat}  {h : gi_H} (e : b_X12_enters_97 n v0 h = some (res, h1)) : gx_Z mX12_enters al al 0 0 97 [(0, .ref v0)] [] (gi_cv h) (.inl (some (.int (gI res)))) (gi_cv h1) := by
  refine gx_aload_n dX12_enters_97 rfl 0 rfl ?_
  refine gx_bE e (fun t25 ht25 e => ?_)
  refine gy_fR ht25 dX12_enters_98 gf_RX12_22_10_4 (by decide) gkN_10_4 gkR_10_4 ?_
  refine gx_aload_n dX12_enters_101 rfl 0 rfl ?_
  refine gx_bE e (fun t26 ht26 e => ?_)
  refine gy_fI ht26 dX12_enters_102 gf_RX12_139_10_9 (by decide) gkN_10_9 gkR_10_9 ?_
  refine gx_dup2 dX12_enters_105 rfl rfl ?_
  refine gx_bE e (fun t27 ht27 e => ?_)
  refine gy_l1 ht27 dX12_enters_106 ?_
  refine gy_iconst dX12_enters_107 ?_
  refine gy_iadd dX12_enters_108 ?_
  refine gx_bE e (fun h28 hh28 e => ?_)
  refine gy_t1 hh28 dX12_enters_109 ?_
  refine gx_aload_n dX12_enters_110 rfl 0 rfl ?_
  refine gx_bE e (fun _ hu29 e => ?_)
  refine gx_bE e (fun q30 hq30 e => ?_)
  refine gx_callV (n := 0) (st := []) (As := []) (b := v0) dX12_enters_111 (z_X12_changed hq30) rfl ⟨rfl, gw_cw_X12_changed, gw_14, gp_X12_changed, ⟨Nat.le_of_ble_eq_true rfl, Nat.le_of_ble_eq_true rfl⟩⟩ (gi_isS hu29) (by decide) gw_1528 gw_1530 gs_67 rfl ⟨Nat.le_of_ble_eq_true rfl, Nat.le_of_ble_eq_true rfl⟩ (Nat.le_of_ble_eq_true rfl) (gy_k0 (kc2 := 0) (ks2 := 0) ⟨rfl, rfl⟩ ?_) gy_kn
  refine gy_iconst dX12_enters_114 ?_
  cases e
  exact gx_zret (by decide +kernel) dX12_enters_115 rfl ⟨Nat.le_of_ble_eq_true rfl, Nat.le_of_ble_eq_true rfl⟩ (fun z => z)
set_option maxRecDepth 100000 in
def b_X12_enters_66 (n : Nat) (r66 : Nat → Int → Int → gi_H → Option (Int × gi_H)) (v0 : Nat) (v2 : Int) (v3 : Int)  (h : gi_H) : Option (Int × gi_H) :=
  Option.bind (gi_gI h v0 10 13) fun t21 => Option.bind (gi_rg v3) fun _ => Option.bind (gi_rg t21) fun _ => if t21 ≤ v3 then (b_X12_enters_97 n  v0 h) else (Option.bind (gi_gR h v0 10 7) fun t31 => Option.bind (gi_gR h v0 10 12) fun t32 => Option.bind (gi_aI h 1 t32 v3) fun t33 => Option.bind (gi_s1 h t31 (((24 : Int) * v2) + v3) t33) fun h34 => gx_nm (v3 + (1 : Int)) fun t35 => r66 v0 v2 t35 h34)
set_option maxRecDepth 100000 in
theorem zb_X12_enters_66 {al : Bool} {n : Nat} {r66 : Nat → Int → Int → gi_H → Option (Int × gi_H)} {res : Int} {h1 : gi_H} (hr66 : ∀ (x0 : Nat) (x2 : Int) (x3 : Int) (hh : gi_H), r66 x0 x2 x3 hh = some (res, h1) → gx_Z mX12_enters al al 0 0 66 [(0, .ref x0), (2, .int (gI x2)), (3, .int (gI x3))] [] (gi_cv hh) (.inl (some (.int (gI res)))) (gi_cv h1)) {v0 : Nat} {v2 : Int} {v3 : Int}  {h : gi_H} (e : b_X12_enters_66 n r66 v0 v2 v3 h = some (res, h1)) : gx_Z mX12_enters al al 0 0 66 [(0, .ref v0), (2, .int (gI v2)), (3, .int (gI v3))] [] (gi_cv h) (.inl (some (.int (gI res)))) (gi_cv h1) := by
  refine gx_iload_n dX12_enters_66 rfl 2 rfl ?_
  refine gx_aload_n dX12_enters_67 rfl 0 rfl ?_
  refine gx_bE e (fun t21 ht21 e => ?_)
  refine gy_fI ht21 dX12_enters_68 gf_RX12_128_10_13 (by decide) gkN_10_13 gkR_10_13 ?_
  refine gx_bE e (fun _ g22 e => ?_)
  refine gx_bE e (fun _ g23 e => ?_)
  refine gx_iE e (fun c24 e => ?_) (fun c24 e => ?_)
  · refine gy_icmp_ge (tgt := 97) (gi_rgS g22) (gi_rgS g23) dX12_enters_71 (by decide) (fun _ => ?_) (fun z => absurd c24 z)
    refine gx_sub (ls2 := [(0, .ref v0)]) [0] rfl ?_
    exact zb_X12_enters_97  e
  · refine gy_icmp_ge (tgt := 97) (gi_rgS g22) (gi_rgS g23) dX12_enters_71 (by decide) (fun z => absurd z c24) (fun _ => ?_)
    refine gx_aload_n dX12_enters_74 rfl 0 rfl ?_
    refine gx_bE e (fun t31 ht31 e => ?_)
    refine gy_fR ht31 dX12_enters_75 gf_RX12_31_10_7 (by decide) gkN_10_7 gkR_10_7 ?_
    refine gy_bipush dX12_enters_78 gcb_24 ?_
    refine gx_iload_n dX12_enters_80 rfl 1 rfl ?_
    refine gy_imul dX12_enters_81 ?_
    refine gx_iload_n dX12_enters_82 rfl 2 rfl ?_
    refine gy_iadd dX12_enters_83 ?_
    refine gx_aload_n dX12_enters_84 rfl 0 rfl ?_
    refine gx_bE e (fun t32 ht32 e => ?_)
    refine gy_fR ht32 dX12_enters_85 gf_RX12_43_10_12 (by decide) gkN_10_12 gkR_10_12 ?_
    refine gx_iload_n dX12_enters_88 rfl 2 rfl ?_
    refine gx_bE e (fun t33 ht33 e => ?_)
    refine gy_l1 ht33 dX12_enters_89 ?_
    refine gx_bE e (fun h34 hh34 e => ?_)
    refine gy_t1 hh34 dX12_enters_90 ?_
    refine gx_nE e (fun t35 ht35 e => ?_)
    refine gy_iinc (v := t35) (ls2 := [(3, .int (gI t35)), (0, .ref v0), (2, .int (gI v2))]) dX12_enters_91 2 rfl ht35 (Nat.le_of_ble_eq_true rfl) rfl ?_
    refine gx_goto (tgt := 66) dX12_enters_94 (by decide) ?_
    refine gx_sub (ls2 := [(0, .ref v0), (2, .int (gI v2)), (3, .int (gI t35))]) [1, 2, 0] rfl ?_
    exact hr66 _ _ _ _ e
def l_X12_enters_66 (n : Nat)  : Nat → Nat → Int → Int → gi_H → Option (Int × gi_H)
  | 0, _, _, _, _ => none
  | k + 1, v0, v2, v3, h => b_X12_enters_66 n  (l_X12_enters_66 n  k) v0 v2 v3 h
theorem zl_X12_enters_66 {al : Bool} {n : Nat}  {res : Int} {h1 : gi_H}  : ∀ (k : Nat) (v0 : Nat) (v2 : Int) (v3 : Int) (h : gi_H), l_X12_enters_66 n  k v0 v2 v3 h = some (res, h1) → gx_Z mX12_enters al al 0 0 66 [(0, .ref v0), (2, .int (gI v2)), (3, .int (gI v3))] [] (gi_cv h) (.inl (some (.int (gI res)))) (gi_cv h1)
  | 0, _, _, _, _, e => gx_0E e
  | k + 1, _, _, _, _, e => zb_X12_enters_66 (n := n)  (zl_X12_enters_66  k) e
set_option maxRecDepth 100000 in
def f_X12_enters (n : Nat) (v0 : Nat) (h : gi_H) : Option (Int × gi_H) :=
  Option.bind (gi_gR h v0 10 3) fun t1 => Option.bind (gi_gI h v0 10 9) fun t2 => Option.bind (gi_aI h 1 t1 t2) fun t3 => Option.bind (gi_is h v0 10) fun _ => Option.bind (f_X12_reads n v0 h) fun q5 => Option.bind (gi_rg q5.1) fun _ => if q5.1 = 0 then (Option.bind (gi_gR q5.2 v0 10 3) fun t8 => Option.bind (gi_gI q5.2 v0 10 9) fun t9 => Option.bind (gi_s1 q5.2 t8 t9 t3) fun h10 => some ((0 : Int), h10)) else (Option.bind (gi_gI q5.2 v0 10 9) fun t11 => Option.bind (gi_gR q5.2 v0 10 4) fun t12 => Option.bind (gi_gI q5.2 v0 10 9) fun t13 => Option.bind (gi_aI q5.2 1 t12 t13) fun t14 => gx_nm (((24 : Int) * t11) + t14) fun t15 => Option.bind (gi_gR q5.2 v0 10 5) fun t16 => Option.bind (gi_s1 q5.2 t16 t15 t3) fun h17 => Option.bind (gi_gR h17 v0 10 6) fun t18 => Option.bind (gi_gI h17 v0 10 13) fun t19 => Option.bind (gi_s1 h17 t18 t15 t19) fun h20 => l_X12_enters_66 n  n v0 t15 (0 : Int) h20)
set_option maxRecDepth 100000 in
theorem z_X12_enters {al : Bool} {n : Nat} {v0 : Nat} {h : gi_H} {res : Int} {h1 : gi_H} (e : f_X12_enters n v0 h = some (res, h1)) : gx_Cw mX12_enters al [.ref v0] (gi_cv h) (.inl (some (.int (gI res)))) (gi_cv h1) := by
  refine gx_enter (by decide +kernel) rfl (Nat.le_of_ble_eq_true rfl) ?_
  show gx_Z mX12_enters al al 0 0 0 [(0, .ref v0)] [] (gi_cv h) (.inl (some (.int (gI res)))) (gi_cv h1)
  refine gx_aload_n dX12_enters_0 rfl 0 rfl ?_
  refine gx_bE e (fun t1 ht1 e => ?_)
  refine gy_fR ht1 dX12_enters_1 gf_RX12_19_10_3 (by decide) gkN_10_3 gkR_10_3 ?_
  refine gx_aload_n dX12_enters_4 rfl 0 rfl ?_
  refine gx_bE e (fun t2 ht2 e => ?_)
  refine gy_fI ht2 dX12_enters_5 gf_RX12_139_10_9 (by decide) gkN_10_9 gkR_10_9 ?_
  refine gx_bE e (fun t3 ht3 e => ?_)
  refine gy_l1 ht3 dX12_enters_8 ?_
  refine gx_istore_n (ls2 := [(1, .int (gI t3)), (0, .ref v0)]) dX12_enters_9 rfl (Nat.le_of_ble_eq_true rfl) rfl ?_
  refine gx_aload_n dX12_enters_10 rfl 1 rfl ?_
  refine gx_bE e (fun _ hu4 e => ?_)
  refine gx_bE e (fun q5 hq5 e => ?_)
  refine gx_callV (n := 0) (st := []) (As := []) (b := v0) dX12_enters_11 (z_X12_reads hq5) rfl ⟨rfl, gw_cw_X12_reads, gw_14, gp_X12_reads, ⟨Nat.le_of_ble_eq_true rfl, Nat.le_of_ble_eq_true rfl⟩⟩ (gi_isS hu4) (by decide) gw_1504 gw_1506 gs_61 rfl ⟨Nat.le_of_ble_eq_true rfl, Nat.le_of_ble_eq_true rfl⟩ (Nat.le_of_ble_eq_true rfl) (gy_k1 (x := .int (gI q5.1)) (kc2 := 0) (ks2 := 0) ⟨rfl, rfl⟩ ?_) gy_kn
  refine gx_bE e (fun _ g6 e => ?_)
  refine gx_iE e (fun c7 e => ?_) (fun c7 e => ?_)
  · refine gy_if_ne (tgt := 29) (gi_rgS g6) dX12_enters_14 (by decide) (fun z => absurd c7 z) (fun _ => ?_)
    refine gx_aload_n dX12_enters_17 rfl 1 rfl ?_
    refine gx_bE e (fun t8 ht8 e => ?_)
    refine gy_fR ht8 dX12_enters_18 gf_RX12_19_10_3 (by decide) gkN_10_3 gkR_10_3 ?_
    refine gx_aload_n dX12_enters_21 rfl 1 rfl ?_
    refine gx_bE e (fun t9 ht9 e => ?_)
    refine gy_fI ht9 dX12_enters_22 gf_RX12_139_10_9 (by decide) gkN_10_9 gkR_10_9 ?_
    refine gx_iload_n dX12_enters_25 rfl 0 rfl ?_
    refine gx_bE e (fun h10 hh10 e => ?_)
    refine gy_t1 hh10 dX12_enters_26 ?_
    refine gy_iconst dX12_enters_27 ?_
    cases e
    exact gx_zret (by decide +kernel) dX12_enters_28 rfl ⟨Nat.le_of_ble_eq_true rfl, Nat.le_of_ble_eq_true rfl⟩ (fun z => z)
  · refine gy_if_ne (tgt := 29) (gi_rgS g6) dX12_enters_14 (by decide) (fun _ => ?_) (fun z => absurd z c7)
    refine gy_bipush dX12_enters_29 gcb_24 ?_
    refine gx_aload_n dX12_enters_31 rfl 1 rfl ?_
    refine gx_bE e (fun t11 ht11 e => ?_)
    refine gy_fI ht11 dX12_enters_32 gf_RX12_139_10_9 (by decide) gkN_10_9 gkR_10_9 ?_
    refine gy_imul dX12_enters_35 ?_
    refine gx_aload_n dX12_enters_36 rfl 1 rfl ?_
    refine gx_bE e (fun t12 ht12 e => ?_)
    refine gy_fR ht12 dX12_enters_37 gf_RX12_22_10_4 (by decide) gkN_10_4 gkR_10_4 ?_
    refine gx_aload_n dX12_enters_40 rfl 1 rfl ?_
    refine gx_bE e (fun t13 ht13 e => ?_)
    refine gy_fI ht13 dX12_enters_41 gf_RX12_139_10_9 (by decide) gkN_10_9 gkR_10_9 ?_
    refine gx_bE e (fun t14 ht14 e => ?_)
    refine gy_l1 ht14 dX12_enters_44 ?_
    refine gy_iadd dX12_enters_45 ?_
    refine gx_nE e (fun t15 ht15 e => ?_)
    rw [ht15]
    refine gx_istore_n (ls2 := [(2, .int (gI t15)), (1, .int (gI t3)), (0, .ref v0)]) dX12_enters_46 rfl (Nat.le_of_ble_eq_true rfl) rfl ?_
    refine gx_aload_n dX12_enters_47 rfl 2 rfl ?_
    refine gx_bE e (fun t16 ht16 e => ?_)
    refine gy_fR ht16 dX12_enters_48 gf_RX12_25_10_5 (by decide) gkN_10_5 gkR_10_5 ?_
    refine gx_iload_n dX12_enters_51 rfl 0 rfl ?_
    refine gx_iload_n dX12_enters_52 rfl 1 rfl ?_
    refine gx_bE e (fun h17 hh17 e => ?_)
    refine gy_t1 hh17 dX12_enters_53 ?_
    refine gx_aload_n dX12_enters_54 rfl 2 rfl ?_
    refine gx_bE e (fun t18 ht18 e => ?_)
    refine gy_fR ht18 dX12_enters_55 gf_RX12_28_10_6 (by decide) gkN_10_6 gkR_10_6 ?_
    refine gx_iload_n dX12_enters_58 rfl 0 rfl ?_
    refine gx_aload_n dX12_enters_59 rfl 2 rfl ?_
    refine gx_bE e (fun t19 ht19 e => ?_)
    refine gy_fI ht19 dX12_enters_60 gf_RX12_128_10_13 (by decide) gkN_10_13 gkR_10_13 ?_
    refine gx_bE e (fun h20 hh20 e => ?_)
    refine gy_t1 hh20 dX12_enters_63 ?_
    refine gy_iconst dX12_enters_64 ?_
    refine gx_istore_n (ls2 := [(3, .int (gI (0 : Int))), (2, .int (gI t15)), (1, .int (gI t3)), (0, .ref v0)]) dX12_enters_65 rfl (Nat.le_of_ble_eq_true rfl) rfl ?_
    refine gx_sub (ls2 := [(0, .ref v0), (2, .int (gI t15)), (3, .int (gI (0 : Int)))]) [3, 1, 0] rfl ?_
    exact zl_X12_enters_66  n _ _ _ _ e
/-! X12_enter  -/
set_option maxRecDepth 100000 in
def b_X12_enter_32 (n : Nat)  (v0 : Nat) (s0 : Nat) (s1 : Int) (s2 : Int) (h : gi_H) : Option (Int × gi_H) :=
  Option.bind (gi_is h s0 10) fun _ => Option.bind (f_X12_goes s0 s1 s2 (1 : Int) h) fun q8 => Option.bind (gi_rg q8.1) fun _ => if q8.1 = 0 then (some ((0 : Int), q8.2)) else (Option.bind (gi_gR q8.2 v0 10 3) fun t11 => Option.bind (gi_gI q8.2 v0 10 9) fun t12 => Option.bind (gi_aI q8.2 1 t11 t12) fun t13 => some (t13, q8.2))
set_option maxRecDepth 100000 in
theorem zb_X12_enter_32 {al : Bool} {n : Nat}  {res : Int} {h1 : gi_H}  {v0 : Nat} {s0 : Nat} {s1 : Int} {s2 : Int} {h : gi_H} (e : b_X12_enter_32 n v0 s0 s1 s2 h = some (res, h1)) : gx_Z mX12_enter al al 0 0 32 [(0, .ref v0)] [.int (gI s2), .int (gI s1), .ref s0] (gi_cv h) (.inl (some (.int (gI res)))) (gi_cv h1) := by
  refine gy_iconst dX12_enter_32 ?_
  refine gx_bE e (fun _ hu7 e => ?_)
  refine gx_bE e (fun q8 hq8 e => ?_)
  refine gx_callV (n := 3) (st := []) (As := [.int (gI s1), .int (gI s2), .int (gI (1 : Int))]) (b := s0) dX12_enter_33 (z_X12_goes hq8) rfl ⟨rfl, gw_cw_X12_goes, gw_14, gp_X12_goes, ⟨Nat.le_of_ble_eq_true rfl, Nat.le_of_ble_eq_true rfl⟩⟩ (gi_isS hu7) (by decide) gw_1480 gw_1482 gs_58 rfl ⟨Nat.le_of_ble_eq_true rfl, Nat.le_of_ble_eq_true rfl⟩ (Nat.le_of_ble_eq_true rfl) (gy_k1 (x := .int (gI q8.1)) (kc2 := 0) (ks2 := 0) ⟨rfl, rfl⟩ ?_) gy_kn
  refine gx_bE e (fun _ g9 e => ?_)
  refine gx_iE e (fun c10 e => ?_) (fun c10 e => ?_)
  · refine gy_if_eq (tgt := 51) (gi_rgS g9) dX12_enter_36 (by decide) (fun _ => ?_) (fun z => absurd c10 z)
    refine gy_iconst dX12_enter_51 ?_
    cases e
    exact gx_iret dX12_enter_52 rfl ⟨Nat.le_of_ble_eq_true rfl, Nat.le_of_ble_eq_true rfl⟩ (fun z => z)
  · refine gy_if_eq (tgt := 51) (gi_rgS g9) dX12_enter_36 (by decide) (fun z => absurd z c10) (fun _ => ?_)
    refine gx_aload_n dX12_enter_39 rfl 0 rfl ?_
    refine gx_bE e (fun t11 ht11 e => ?_)
    refine gy_fR ht11 dX12_enter_40 gf_RX12_19_10_3 (by decide) gkN_10_3 gkR_10_3 ?_
    refine gx_aload_n dX12_enter_43 rfl 0 rfl ?_
    refine gx_bE e (fun t12 ht12 e => ?_)
    refine gy_fI ht12 dX12_enter_44 gf_RX12_139_10_9 (by decide) gkN_10_9 gkR_10_9 ?_
    refine gx_bE e (fun t13 ht13 e => ?_)
    refine gy_l1 ht13 dX12_enter_47 ?_
    refine gx_goto (tgt := 52) dX12_enter_48 (by decide) ?_
    cases e
    exact gx_iret dX12_enter_52 rfl ⟨Nat.le_of_ble_eq_true rfl, Nat.le_of_ble_eq_true rfl⟩ (fun z => z)
set_option maxRecDepth 100000 in
def b_X12_enter_31 (n : Nat)  (v0 : Nat) (s0 : Nat) (s1 : Int) (h : gi_H) : Option (Int × gi_H) :=
  b_X12_enter_32 n  v0 s0 s1 (0 : Int) h
set_option maxRecDepth 100000 in
theorem zb_X12_enter_31 {al : Bool} {n : Nat}  {res : Int} {h1 : gi_H}  {v0 : Nat} {s0 : Nat} {s1 : Int} {h : gi_H} (e : b_X12_enter_31 n v0 s0 s1 h = some (res, h1)) : gx_Z mX12_enter al al 0 0 31 [(0, .ref v0)] [.int (gI s1), .ref s0] (gi_cv h) (.inl (some (.int (gI res)))) (gi_cv h1) := by
  refine gy_iconst dX12_enter_31 ?_
  exact zb_X12_enter_32  e
set_option maxRecDepth 100000 in
def b_X12_enter_13 (n : Nat)  (v0 : Nat) (s0 : Int) (h : gi_H) : Option (Int × gi_H) :=
  Option.bind (gi_rg s0) fun _ => if s0 = 0 then (b_X12_enter_31 n  v0 v0 s0 h) else (Option.bind (gi_is h v0 10) fun _ => Option.bind (f_X12_enters n v0 h) fun q15 => Option.bind (gi_rg q15.1) fun _ => if q15.1 = 0 then (b_X12_enter_31 n  v0 v0 s0 q15.2) else (b_X12_enter_32 n  v0 v0 s0 (1 : Int) q15.2))
set_option maxRecDepth 100000 in
theorem zb_X12_enter_13 {al : Bool} {n : Nat}  {res : Int} {h1 : gi_H}  {v0 : Nat} {s0 : Int} {h : gi_H} (e : b_X12_enter_13 n v0 s0 h = some (res, h1)) : gx_Z mX12_enter al al 0 0 13 [(0, .ref v0)] [.int (gI s0)] (gi_cv h) (.inl (some (.int (gI res)))) (gi_cv h1) := by
  refine gx_istore_n (ls2 := [(1, .int (gI s0)), (0, .ref v0)]) dX12_enter_13 rfl (Nat.le_of_ble_eq_true rfl) rfl ?_
  refine gx_aload_n dX12_enter_14 rfl 1 rfl ?_
  refine gx_iload_n dX12_enter_15 rfl 0 rfl ?_
  refine gx_iload_n dX12_enter_16 rfl 0 rfl ?_
  refine gx_bE e (fun _ g5 e => ?_)
  refine gx_iE e (fun c6 e => ?_) (fun c6 e => ?_)
  · refine gy_if_eq (tgt := 31) (gi_rgS g5) dX12_enter_17 (by decide) (fun _ => ?_) (fun z => absurd c6 z)
    refine gx_sub (ls2 := [(0, .ref v0)]) [1] rfl ?_
    exact zb_X12_enter_31  e
  · refine gy_if_eq (tgt := 31) (gi_rgS g5) dX12_enter_17 (by decide) (fun z => absurd z c6) (fun _ => ?_)
    refine gx_aload_n dX12_enter_20 rfl 1 rfl ?_
    refine gx_bE e (fun _ hu14 e => ?_)
    refine gx_bE e (fun q15 hq15 e => ?_)
    refine gx_callV (n := 0) (st := [.int (gI s0), .ref v0]) (As := []) (b := v0) dX12_enter_21 (z_X12_enters hq15) rfl ⟨rfl, gw_cw_X12_enters, gw_14, gp_X12_enters, ⟨Nat.le_of_ble_eq_true rfl, Nat.le_of_ble_eq_true rfl⟩⟩ (gi_isS hu14) (by decide) gw_1500 gw_1502 gs_60 rfl ⟨Nat.le_of_ble_eq_true rfl, Nat.le_of_ble_eq_true rfl⟩ (Nat.le_of_ble_eq_true rfl) (gy_k1 (x := .int (gI q15.1)) (kc2 := 0) (ks2 := 0) ⟨rfl, rfl⟩ ?_) gy_kn
    refine gx_bE e (fun _ g16 e => ?_)
    refine gx_iE e (fun c17 e => ?_) (fun c17 e => ?_)
    · refine gy_if_eq (tgt := 31) (gi_rgS g16) dX12_enter_24 (by decide) (fun _ => ?_) (fun z => absurd c17 z)
      refine gx_sub (ls2 := [(0, .ref v0)]) [1] rfl ?_
      exact zb_X12_enter_31  e
    · refine gy_if_eq (tgt := 31) (gi_rgS g16) dX12_enter_24 (by decide) (fun z => absurd z c17) (fun _ => ?_)
      refine gy_iconst dX12_enter_27 ?_
      refine gx_goto (tgt := 32) dX12_enter_28 (by decide) ?_
      refine gx_sub (ls2 := [(0, .ref v0)]) [1] rfl ?_
      exact zb_X12_enter_32  e
set_option maxRecDepth 100000 in
def f_X12_enter (n : Nat) (v0 : Nat) (h : gi_H) : Option (Int × gi_H) :=
  Option.bind (gi_is h v0 10) fun _ => Option.bind (f_X12_faultOf n v0 h) fun q2 => Option.bind (gi_rg q2) fun _ => if q2 = (-1 : Int) then (b_X12_enter_13 n  v0 (1 : Int) h) else (b_X12_enter_13 n  v0 (0 : Int) h)
set_option maxRecDepth 100000 in
theorem z_X12_enter {al : Bool} {n : Nat} {v0 : Nat} {h : gi_H} {res : Int} {h1 : gi_H} (e : f_X12_enter n v0 h = some (res, h1)) : gx_Cw mX12_enter al [.ref v0] (gi_cv h) (.inl (some (.int (gI res)))) (gi_cv h1) := by
  refine gx_enter (by decide +kernel) rfl (Nat.le_of_ble_eq_true rfl) ?_
  show gx_Z mX12_enter al al 0 0 0 [(0, .ref v0)] [] (gi_cv h) (.inl (some (.int (gI res)))) (gi_cv h1)
  refine gx_aload_n dX12_enter_0 rfl 0 rfl ?_
  refine gx_bE e (fun _ hu1 e => ?_)
  refine gx_bE e (fun q2 hq2 e => ?_)
  refine gx_callV (n := 0) (st := []) (As := []) (b := v0) dX12_enter_1 (z_X12_faultOf hq2) rfl ⟨rfl, gw_cw_X12_faultOf, gw_14, gp_X12_faultOf, ⟨Nat.le_of_ble_eq_true rfl, Nat.le_of_ble_eq_true rfl⟩⟩ (gi_isS hu1) (by decide) gw_1492 gw_1494 gs_59 rfl ⟨Nat.le_of_ble_eq_true rfl, Nat.le_of_ble_eq_true rfl⟩ (Nat.le_of_ble_eq_true rfl) (gy_k1 (x := .int (gI q2)) (kc2 := 0) (ks2 := 0) ⟨rfl, rfl⟩ ?_) gy_kn
  refine gy_iconst dX12_enter_4 ?_
  refine gx_bE e (fun _ g3 e => ?_)
  refine gx_iE e (fun c4 e => ?_) (fun c4 e => ?_)
  · refine gy_icmp_ne (tgt := 12) (gi_rgS g3) (by decide) dX12_enter_5 (by decide) (fun z => absurd c4 z) (fun _ => ?_)
    refine gy_iconst dX12_enter_8 ?_
    refine gx_goto (tgt := 13) dX12_enter_9 (by decide) ?_
    exact zb_X12_enter_13  e
  · refine gy_icmp_ne (tgt := 12) (gi_rgS g3) (by decide) dX12_enter_5 (by decide) (fun _ => ?_) (fun z => absurd z c4)
    refine gy_iconst dX12_enter_12 ?_
    exact zb_X12_enter_13  e
/-! X4_dropLastRule  -/
set_option maxRecDepth 100000 in
def f_X4_dropLastRule (v0 : Nat) (h : gi_H) : Option (Int × gi_H) :=
  Option.bind (gi_gI h v0 3 6) fun t1 => Option.bind (gi_rg t1) fun _ => if t1 ≤ 0 then (some ((0 : Int), h)) else (Option.bind (gi_gI h v0 3 6) fun t4 => Option.bind (gi_rg t4) fun _ => if t4 ≤ (24 : Int) then (Option.bind (gi_gI h v0 3 6) fun t7 => Option.bind (gi_pI h v0 3 6 (t7 - (1 : Int))) fun h8 => Option.bind (gi_gR h8 v0 3 5) fun t9 => Option.bind (gi_gI h8 v0 3 6) fun t10 => Option.bind (gi_aI h8 1 t9 t10) fun t11 => Option.bind (gi_pI h8 v0 3 3 t11) fun h12 => some ((1 : Int), h12)) else (some ((0 : Int), h)))
set_option maxRecDepth 100000 in
theorem z_X4_dropLastRule {al : Bool} {v0 : Nat} {h : gi_H} {res : Int} {h1 : gi_H} (e : f_X4_dropLastRule v0 h = some (res, h1)) : gx_Cw mX4_dropLastRule al [.ref v0] (gi_cv h) (.inl (some (.int (gI res)))) (gi_cv h1) := by
  refine gx_enter (by decide +kernel) rfl (Nat.le_of_ble_eq_true rfl) ?_
  show gx_Z mX4_dropLastRule al al 0 0 0 [(0, .ref v0)] [] (gi_cv h) (.inl (some (.int (gI res)))) (gi_cv h1)
  refine gx_aload_n dX4_dropLastRule_0 rfl 0 rfl ?_
  refine gx_bE e (fun t1 ht1 e => ?_)
  refine gy_fI ht1 dX4_dropLastRule_1 gf_RX4_46_3_6 (by decide) gkN_3_6 gkR_3_6 ?_
  refine gx_bE e (fun _ g2 e => ?_)
  refine gx_iE e (fun c3 e => ?_) (fun c3 e => ?_)
  · refine gy_if_le (tgt := 16) (gi_rgS g2) dX4_dropLastRule_4 (by decide) (fun _ => ?_) (fun z => absurd c3 z)
    refine gy_iconst dX4_dropLastRule_16 ?_
    cases e
    exact gx_zret (by decide +kernel) dX4_dropLastRule_17 rfl ⟨Nat.le_of_ble_eq_true rfl, Nat.le_of_ble_eq_true rfl⟩ (fun z => z)
  · refine gy_if_le (tgt := 16) (gi_rgS g2) dX4_dropLastRule_4 (by decide) (fun z => absurd z c3) (fun _ => ?_)
    refine gx_aload_n dX4_dropLastRule_7 rfl 0 rfl ?_
    refine gx_bE e (fun t4 ht4 e => ?_)
    refine gy_fI ht4 dX4_dropLastRule_8 gf_RX4_46_3_6 (by decide) gkN_3_6 gkR_3_6 ?_
    refine gy_bipush dX4_dropLastRule_11 gcb_24 ?_
    refine gx_bE e (fun _ g5 e => ?_)
    refine gx_iE e (fun c6 e => ?_) (fun c6 e => ?_)
    · refine gy_icmp_le (tgt := 18) (gi_rgS g5) (by decide) dX4_dropLastRule_13 (by decide) (fun _ => ?_) (fun z => absurd c6 z)
      refine gx_aload_n dX4_dropLastRule_18 rfl 0 rfl ?_
      refine gx_dup dX4_dropLastRule_19 rfl ?_
      refine gx_bE e (fun t7 ht7 e => ?_)
      refine gy_fI ht7 dX4_dropLastRule_20 gf_RX4_46_3_6 (by decide) gkN_3_6 gkR_3_6 ?_
      refine gy_iconst dX4_dropLastRule_23 ?_
      refine gy_isub dX4_dropLastRule_24 ?_
      refine gx_bE e (fun h8 hh8 e => ?_)
      refine gy_qI hh8 dX4_dropLastRule_25 gf_RX4_46_3_6 (by decide) gkN_3_6 rfl (Or.inl rfl) ?_
      refine gx_aload_n dX4_dropLastRule_28 rfl 0 rfl ?_
      refine gx_aload_n dX4_dropLastRule_29 rfl 0 rfl ?_
      refine gx_bE e (fun t9 ht9 e => ?_)
      refine gy_fR ht9 dX4_dropLastRule_30 gf_RX4_27_3_5 (by decide) gkN_3_5 gkR_3_5 ?_
      refine gx_aload_n dX4_dropLastRule_33 rfl 0 rfl ?_
      refine gx_bE e (fun t10 ht10 e => ?_)
      refine gy_fI ht10 dX4_dropLastRule_34 gf_RX4_46_3_6 (by decide) gkN_3_6 gkR_3_6 ?_
      refine gx_bE e (fun t11 ht11 e => ?_)
      refine gy_l1 ht11 dX4_dropLastRule_37 ?_
      refine gx_bE e (fun h12 hh12 e => ?_)
      refine gy_qI hh12 dX4_dropLastRule_38 gf_RX4_42_3_3 (by decide) gkN_3_3 rfl (Or.inl rfl) ?_
      refine gy_iconst dX4_dropLastRule_41 ?_
      cases e
      exact gx_zret (by decide +kernel) dX4_dropLastRule_42 rfl ⟨Nat.le_of_ble_eq_true rfl, Nat.le_of_ble_eq_true rfl⟩ (fun z => z)
    · refine gy_icmp_le (tgt := 18) (gi_rgS g5) (by decide) dX4_dropLastRule_13 (by decide) (fun z => absurd z c6) (fun _ => ?_)
      refine gy_iconst dX4_dropLastRule_16 ?_
      cases e
      exact gx_zret (by decide +kernel) dX4_dropLastRule_17 rfl ⟨Nat.le_of_ble_eq_true rfl, Nat.le_of_ble_eq_true rfl⟩ (fun z => z)
/-! X11_undo  -/
set_option maxRecDepth 100000 in
def f_X11_undo (v0 : Nat) (h : gi_H) : Option ((Int ⊕ String) × gi_H) :=
  Option.bind (gi_gR h v0 9 1) fun t1 => Option.bind (gi_is h t1 3) fun _ => Option.bind (f_X4_dropLastRule t1 h) fun q3 => Option.bind (gi_rg q3.1) fun _ => if q3.1 = 0 then (some (.inr gx_ISE, q3.2)) else (Option.bind (gi_is q3.2 v0 9) fun _ => Option.bind (f_X11_forget v0 q3.2) fun q7 => Option.bind (gi_gR q7 v0 9 1) fun t8 => Option.bind (gi_is q7 t8 3) fun _ => Option.bind (f_X4_count t8 q7) fun q10 => some (.inl q10, q7))
set_option maxRecDepth 100000 in
theorem z_X11_undo {v0 : Nat} {h : gi_H} {res : Int ⊕ String} {h1 : gi_H} (e : f_X11_undo v0 h = some (res, h1)) : gx_Cw mX11_undo false [.ref v0] (gi_cv h) (gx_oI res) (gi_cv h1) := by
  refine gx_enter (by decide +kernel) rfl (Nat.le_of_ble_eq_true rfl) ?_
  show gx_Z mX11_undo false false 0 0 0 [(0, .ref v0)] [] (gi_cv h) (gx_oI res) (gi_cv h1)
  refine gx_aload_n dX11_undo_0 rfl 0 rfl ?_
  refine gx_bE e (fun t1 ht1 e => ?_)
  refine gy_fR ht1 dX11_undo_1 gf_RX11_35_9_1 (by decide) gkN_9_1 gkR_9_1 ?_
  refine gx_bE e (fun _ hu2 e => ?_)
  refine gx_bE e (fun q3 hq3 e => ?_)
  refine gx_callV (n := 0) (st := []) (As := []) (b := t1) dX11_undo_4 (z_X4_dropLastRule hq3) rfl ⟨rfl, gw_cw_X4_dropLastRule, gw_3, gp_X4_dropLastRule, ⟨Nat.le_of_ble_eq_true rfl, Nat.le_of_ble_eq_true rfl⟩⟩ (gi_isS hu2) (by decide) gw_1020 gw_1021 gw_1022 rfl ⟨Nat.le_of_ble_eq_true rfl, Nat.le_of_ble_eq_true rfl⟩ (Nat.le_of_ble_eq_true rfl) (gy_k1 (x := .int (gI q3.1)) (kc2 := 0) (ks2 := 0) ⟨rfl, rfl⟩ ?_) gy_kn
  refine gx_bE e (fun _ g4 e => ?_)
  refine gx_iE e (fun c5 e => ?_) (fun c5 e => ?_)
  · refine gy_if_ne (tgt := 20) (gi_rgS g4) dX11_undo_7 (by decide) (fun z => absurd c5 z) (fun _ => ?_)
    cases e
    exact gx_throw rfl gt_116_149_120 rfl dX11_undo_10 dX11_undo_13 dX11_undo_14 dX11_undo_16 dX11_undo_19 (Nat.le_of_ble_eq_true rfl) (Nat.le_of_ble_eq_true rfl) ⟨Nat.le_of_ble_eq_true rfl, Nat.le_of_ble_eq_true rfl⟩
  · refine gy_if_ne (tgt := 20) (gi_rgS g4) dX11_undo_7 (by decide) (fun _ => ?_) (fun z => absurd z c5)
    refine gx_aload_n dX11_undo_20 rfl 0 rfl ?_
    refine gx_bE e (fun _ hu6 e => ?_)
    refine gx_bE e (fun q7 hq7 e => ?_)
    refine gx_callV (n := 0) (st := []) (As := []) (b := v0) dX11_undo_21 (z_X11_forget hq7) rfl ⟨rfl, gw_cw_X11_forget, gw_1, gp_X11_forget, ⟨Nat.le_of_ble_eq_true rfl, Nat.le_of_ble_eq_true rfl⟩⟩ (gi_isS hu6) (by decide) gw_1001 gw_1003 gs_45 rfl ⟨Nat.le_of_ble_eq_true rfl, Nat.le_of_ble_eq_true rfl⟩ (Nat.le_of_ble_eq_true rfl) (gy_k0 (kc2 := 0) (ks2 := 0) ⟨rfl, rfl⟩ ?_) gy_kn
    refine gx_aload_n dX11_undo_24 rfl 0 rfl ?_
    refine gx_bE e (fun t8 ht8 e => ?_)
    refine gy_fR ht8 dX11_undo_25 gf_RX11_35_9_1 (by decide) gkN_9_1 gkR_9_1 ?_
    refine gx_bE e (fun _ hu9 e => ?_)
    refine gx_bE e (fun q10 hq10 e => ?_)
    refine gx_callV (n := 0) (st := []) (As := []) (b := t8) dX11_undo_28 (z_X4_count hq10) rfl ⟨rfl, gw_cw_X4_count, gw_3, gp_X4_count, ⟨Nat.le_of_ble_eq_true rfl, Nat.le_of_ble_eq_true rfl⟩⟩ (gi_isS hu9) (by decide) gw_392 gw_393 gw_394 rfl ⟨Nat.le_of_ble_eq_true rfl, Nat.le_of_ble_eq_true rfl⟩ (Nat.le_of_ble_eq_true rfl) (gy_k1 (x := .int (gI q10)) (kc2 := 0) (ks2 := 0) ⟨rfl, rfl⟩ ?_) gy_kn
    cases e
    exact gx_iret dX11_undo_31 rfl ⟨Nat.le_of_ble_eq_true rfl, Nat.le_of_ble_eq_true rfl⟩ (fun z => z)
/-! L_undo  -/
set_option maxRecDepth 100000 in
def f_L_undo (v0 : Nat) (v1 : Nat) (h : gi_H) : Option (Int × gi_H) :=
  Option.bind (gi_is h v0 9) fun _ => Option.bind (f_X11_undo v0 h) fun q2 => gx_sm q2.1 (fun t3 => Option.bind (gi_rg t3) fun _ => Option.bind (gi_s2 q2.2 v1 (0 : Int) t3) fun h5 => some ((0 : Int), h5)) (fun t3 => if t3 = gx_ISE then (some ((1 : Int), q2.2)) else (none))
set_option maxRecDepth 100000 in
theorem z_L_undo {v0 : Nat} {v1 : Nat} {h : gi_H} {res : Int} {h1 : gi_H} (e : f_L_undo v0 v1 h = some (res, h1)) : gx_Cw mL_undo false [.ref v0, .ref v1] (gi_cv h) (.inl (some (.int (gI res)))) (gi_cv h1) := by
  refine gx_enter (by decide +kernel) rfl (Nat.le_of_ble_eq_true rfl) ?_
  show gx_Z mL_undo false false 0 0 0 [(0, .ref v0), (1, .ref v1)] [] (gi_cv h) (.inl (some (.int (gI res)))) (gi_cv h1)
  refine gx_aload_n dL_undo_0 rfl 1 rfl ?_
  refine gy_iconst dL_undo_1 ?_
  refine gx_aload_n dL_undo_2 rfl 0 rfl ?_
  refine gx_bE e (fun _ hu1 e => ?_)
  refine gx_bE e (fun q2 hq2 e => ?_)
  refine gx_smE e (fun t3 ht3 e => ?_) (fun t3 ht3 e => ?_)
  · have zq2 := z_X11_undo hq2
    rw [ht3] at zq2
    refine gx_callV (n := 0) (st := [.int (gI (0 : Int)), .ref v1]) (As := []) (b := v0) dL_undo_3 zq2 rfl ⟨rfl, gw_cw_X11_undo, gw_1, gp_X11_undo, ⟨Nat.le_of_ble_eq_true rfl, Nat.le_of_ble_eq_true rfl⟩⟩ (gi_isS hu1) (by decide) gw_1016 gw_1017 gw_1018 rfl ⟨Nat.le_of_ble_eq_true rfl, Nat.le_of_ble_eq_true rfl⟩ (Nat.le_of_ble_eq_true rfl) (gy_k1 (x := .int (gI t3)) (kc2 := 1) (ks2 := 6) ⟨rfl, rfl⟩ ?_) gy_kn
    refine gx_bE e (fun _ g4 e => ?_)
    refine gy_i2l (gi_rgS g4) dL_undo_6 ?_
    refine gx_bE e (fun h5 hh5 e => ?_)
    refine gy_t2 hh5 dL_undo_7 ?_
    refine gx_goto (tgt := 14) dL_undo_8 (by decide) ?_
    refine gy_iconst dL_undo_14 ?_
    cases e
    exact gx_iret dL_undo_15 rfl ⟨Nat.le_of_ble_eq_true rfl, Nat.le_of_ble_eq_true rfl⟩ (fun z => z)
  · have zq2 := z_X11_undo hq2
    rw [ht3] at zq2
    refine gx_callV (n := 0) (st := [.int (gI (0 : Int)), .ref v1]) (As := []) (b := v0) dL_undo_3 zq2 rfl ⟨rfl, gw_cw_X11_undo, gw_1, gp_X11_undo, ⟨Nat.le_of_ble_eq_true rfl, Nat.le_of_ble_eq_true rfl⟩⟩ (gi_isS hu1) (by decide) gw_1016 gw_1017 gw_1018 rfl ⟨Nat.le_of_ble_eq_true rfl, Nat.le_of_ble_eq_true rfl⟩ (Nat.le_of_ble_eq_true rfl) gy_kN (gy_kE (kc2 := 1) (ks2 := 6) ⟨rfl, rfl⟩ ?_)
    refine gx_iE e (fun c6 e => ?_) (fun c6 e => ?_)
    · rw [c6]
      refine gx_catch (ls2 := [(0, .ref v0), (1, .ref v1)]) [] (x := (0, 8, 11, 15)) rfl (fun z hz => by cases hz) (by decide +kernel) (by decide) gw_837 (by decide +kernel) (Nat.le_of_ble_eq_true rfl) (Or.inl ⟨2, rfl, rfl, dL_undo_11⟩) rfl ?_
      refine gy_iconst dL_undo_12 ?_
      cases e
      exact gx_iret dL_undo_13 rfl ⟨Nat.le_of_ble_eq_true rfl, Nat.le_of_ble_eq_true rfl⟩ (fun z => z)
    cases e
/-! X12_undo  -/
set_option maxRecDepth 100000 in
def b_X12_undo_18  (v0 : Nat) (s0 : Nat) (s1 : Int) (h : gi_H) : Option (Int × gi_H) :=
  Option.bind (gi_is h s0 10) fun _ => Option.bind (f_X12_goes s0 s1 (1 : Int) (1 : Int) h) fun q7 => Option.bind (gi_rg q7.1) fun _ => if q7.1 = 0 then (some ((0 : Int), q7.2)) else (Option.bind (gi_gR q7.2 v0 10 4) fun t10 => Option.bind (gi_gI q7.2 v0 10 9) fun t11 => Option.bind (gi_aI q7.2 1 t10 t11) fun t12 => Option.bind (gi_s1 q7.2 t10 t11 (t12 - (1 : Int))) fun h13 => Option.bind (gi_gR h13 v0 10 3) fun t14 => Option.bind (gi_gI h13 v0 10 9) fun t15 => Option.bind (gi_gR h13 v0 10 5) fun t16 => Option.bind (gi_gI h13 v0 10 9) fun t17 => Option.bind (gi_gR h13 v0 10 4) fun t18 => Option.bind (gi_gI h13 v0 10 9) fun t19 => Option.bind (gi_aI h13 1 t18 t19) fun t20 => Option.bind (gi_aI h13 1 t16 (((24 : Int) * t17) + t20)) fun t21 => Option.bind (gi_s1 h13 t14 t15 t21) fun h22 => Option.bind (gi_is h22 v0 10) fun _ => Option.bind (f_X12_changed v0 h22) fun q24 => Option.bind (gi_gR q24 v0 10 3) fun t25 => Option.bind (gi_gI q24 v0 10 9) fun t26 => Option.bind (gi_aI q24 1 t25 t26) fun t27 => some (t27, q24))
set_option maxRecDepth 100000 in
theorem zb_X12_undo_18 {al : Bool}  {res : Int} {h1 : gi_H}  {v0 : Nat} {s0 : Nat} {s1 : Int} {h : gi_H} (e : b_X12_undo_18 v0 s0 s1 h = some (res, h1)) : gx_Z mX12_undo al al 0 0 18 [(0, .ref v0)] [.int (gI s1), .ref s0] (gi_cv h) (.inl (some (.int (gI res)))) (gi_cv h1) := by
  refine gy_iconst dX12_undo_18 ?_
  refine gy_iconst dX12_undo_19 ?_
  refine gx_bE e (fun _ hu6 e => ?_)
  refine gx_bE e (fun q7 hq7 e => ?_)
  refine gx_callV (n := 3) (st := []) (As := [.int (gI s1), .int (gI (1 : Int)), .int (gI (1 : Int))]) (b := s0) dX12_undo_20 (z_X12_goes hq7) rfl ⟨rfl, gw_cw_X12_goes, gw_14, gp_X12_goes, ⟨Nat.le_of_ble_eq_true rfl, Nat.le_of_ble_eq_true rfl⟩⟩ (gi_isS hu6) (by decide) gw_1480 gw_1482 gs_58 rfl ⟨Nat.le_of_ble_eq_true rfl, Nat.le_of_ble_eq_true rfl⟩ (Nat.le_of_ble_eq_true rfl) (gy_k1 (x := .int (gI q7.1)) (kc2 := 0) (ks2 := 0) ⟨rfl, rfl⟩ ?_) gy_kn
  refine gx_bE e (fun _ g8 e => ?_)
  refine gx_iE e (fun c9 e => ?_) (fun c9 e => ?_)
  · refine gy_if_ne (tgt := 28) (gi_rgS g8) dX12_undo_23 (by decide) (fun z => absurd c9 z) (fun _ => ?_)
    refine gy_iconst dX12_undo_26 ?_
    cases e
    exact gx_iret dX12_undo_27 rfl ⟨Nat.le_of_ble_eq_true rfl, Nat.le_of_ble_eq_true rfl⟩ (fun z => z)
  · refine gy_if_ne (tgt := 28) (gi_rgS g8) dX12_undo_23 (by decide) (fun _ => ?_) (fun z => absurd z c9)
    refine gx_aload_n dX12_undo_28 rfl 0 rfl ?_
    refine gx_bE e (fun t10 ht10 e => ?_)
    refine gy_fR ht10 dX12_undo_29 gf_RX12_22_10_4 (by decide) gkN_10_4 gkR_10_4 ?_
    refine gx_aload_n dX12_undo_32 rfl 0 rfl ?_
    refine gx_bE e (fun t11 ht11 e => ?_)
    refine gy_fI ht11 dX12_undo_33 gf_RX12_139_10_9 (by decide) gkN_10_9 gkR_10_9 ?_
    refine gx_dup2 dX12_undo_36 rfl rfl ?_
    refine gx_bE e (fun t12 ht12 e => ?_)
    refine gy_l1 ht12 dX12_undo_37 ?_
    refine gy_iconst dX12_undo_38 ?_
    refine gy_isub dX12_undo_39 ?_
    refine gx_bE e (fun h13 hh13 e => ?_)
    refine gy_t1 hh13 dX12_undo_40 ?_
    refine gx_aload_n dX12_undo_41 rfl 0 rfl ?_
    refine gx_bE e (fun t14 ht14 e => ?_)
    refine gy_fR ht14 dX12_undo_42 gf_RX12_19_10_3 (by decide) gkN_10_3 gkR_10_3 ?_
    refine gx_aload_n dX12_undo_45 rfl 0 rfl ?_
    refine gx_bE e (fun t15 ht15 e => ?_)
    refine gy_fI ht15 dX12_undo_46 gf_RX12_139_10_9 (by decide) gkN_10_9 gkR_10_9 ?_
    refine gx_aload_n dX12_undo_49 rfl 0 rfl ?_
    refine gx_bE e (fun t16 ht16 e => ?_)
    refine gy_fR ht16 dX12_undo_50 gf_RX12_25_10_5 (by decide) gkN_10_5 gkR_10_5 ?_
    refine gy_bipush dX12_undo_53 gcb_24 ?_
    refine gx_aload_n dX12_undo_55 rfl 0 rfl ?_
    refine gx_bE e (fun t17 ht17 e => ?_)
    refine gy_fI ht17 dX12_undo_56 gf_RX12_139_10_9 (by decide) gkN_10_9 gkR_10_9 ?_
    refine gy_imul dX12_undo_59 ?_
    refine gx_aload_n dX12_undo_60 rfl 0 rfl ?_
    refine gx_bE e (fun t18 ht18 e => ?_)
    refine gy_fR ht18 dX12_undo_61 gf_RX12_22_10_4 (by decide) gkN_10_4 gkR_10_4 ?_
    refine gx_aload_n dX12_undo_64 rfl 0 rfl ?_
    refine gx_bE e (fun t19 ht19 e => ?_)
    refine gy_fI ht19 dX12_undo_65 gf_RX12_139_10_9 (by decide) gkN_10_9 gkR_10_9 ?_
    refine gx_bE e (fun t20 ht20 e => ?_)
    refine gy_l1 ht20 dX12_undo_68 ?_
    refine gy_iadd dX12_undo_69 ?_
    refine gx_bE e (fun t21 ht21 e => ?_)
    refine gy_l1 ht21 dX12_undo_70 ?_
    refine gx_bE e (fun h22 hh22 e => ?_)
    refine gy_t1 hh22 dX12_undo_71 ?_
    refine gx_aload_n dX12_undo_72 rfl 0 rfl ?_
    refine gx_bE e (fun _ hu23 e => ?_)
    refine gx_bE e (fun q24 hq24 e => ?_)
    refine gx_callV (n := 0) (st := []) (As := []) (b := v0) dX12_undo_73 (z_X12_changed hq24) rfl ⟨rfl, gw_cw_X12_changed, gw_14, gp_X12_changed, ⟨Nat.le_of_ble_eq_true rfl, Nat.le_of_ble_eq_true rfl⟩⟩ (gi_isS hu23) (by decide) gw_1528 gw_1530 gs_67 rfl ⟨Nat.le_of_ble_eq_true rfl, Nat.le_of_ble_eq_true rfl⟩ (Nat.le_of_ble_eq_true rfl) (gy_k0 (kc2 := 0) (ks2 := 0) ⟨rfl, rfl⟩ ?_) gy_kn
    refine gx_aload_n dX12_undo_76 rfl 0 rfl ?_
    refine gx_bE e (fun t25 ht25 e => ?_)
    refine gy_fR ht25 dX12_undo_77 gf_RX12_19_10_3 (by decide) gkN_10_3 gkR_10_3 ?_
    refine gx_aload_n dX12_undo_80 rfl 0 rfl ?_
    refine gx_bE e (fun t26 ht26 e => ?_)
    refine gy_fI ht26 dX12_undo_81 gf_RX12_139_10_9 (by decide) gkN_10_9 gkR_10_9 ?_
    refine gx_bE e (fun t27 ht27 e => ?_)
    refine gy_l1 ht27 dX12_undo_84 ?_
    cases e
    exact gx_iret dX12_undo_85 rfl ⟨Nat.le_of_ble_eq_true rfl, Nat.le_of_ble_eq_true rfl⟩ (fun z => z)
set_option maxRecDepth 100000 in
def f_X12_undo (v0 : Nat) (h : gi_H) : Option (Int × gi_H) :=
  Option.bind (gi_gR h v0 10 4) fun t1 => Option.bind (gi_gI h v0 10 9) fun t2 => Option.bind (gi_aI h 1 t1 t2) fun t3 => Option.bind (gi_rg t3) fun _ => if t3 ≤ 0 then (b_X12_undo_18  v0 v0 (0 : Int) h) else (b_X12_undo_18  v0 v0 (1 : Int) h)
set_option maxRecDepth 100000 in
theorem z_X12_undo {al : Bool} {v0 : Nat} {h : gi_H} {res : Int} {h1 : gi_H} (e : f_X12_undo v0 h = some (res, h1)) : gx_Cw mX12_undo al [.ref v0] (gi_cv h) (.inl (some (.int (gI res)))) (gi_cv h1) := by
  refine gx_enter (by decide +kernel) rfl (Nat.le_of_ble_eq_true rfl) ?_
  show gx_Z mX12_undo al al 0 0 0 [(0, .ref v0)] [] (gi_cv h) (.inl (some (.int (gI res)))) (gi_cv h1)
  refine gx_aload_n dX12_undo_0 rfl 0 rfl ?_
  refine gx_aload_n dX12_undo_1 rfl 0 rfl ?_
  refine gx_bE e (fun t1 ht1 e => ?_)
  refine gy_fR ht1 dX12_undo_2 gf_RX12_22_10_4 (by decide) gkN_10_4 gkR_10_4 ?_
  refine gx_aload_n dX12_undo_5 rfl 0 rfl ?_
  refine gx_bE e (fun t2 ht2 e => ?_)
  refine gy_fI ht2 dX12_undo_6 gf_RX12_139_10_9 (by decide) gkN_10_9 gkR_10_9 ?_
  refine gx_bE e (fun t3 ht3 e => ?_)
  refine gy_l1 ht3 dX12_undo_9 ?_
  refine gx_bE e (fun _ g4 e => ?_)
  refine gx_iE e (fun c5 e => ?_) (fun c5 e => ?_)
  · refine gy_if_le (tgt := 17) (gi_rgS g4) dX12_undo_10 (by decide) (fun _ => ?_) (fun z => absurd c5 z)
    refine gy_iconst dX12_undo_17 ?_
    exact zb_X12_undo_18  e
  · refine gy_if_le (tgt := 17) (gi_rgS g4) dX12_undo_10 (by decide) (fun z => absurd z c5) (fun _ => ?_)
    refine gy_iconst dX12_undo_13 ?_
    refine gx_goto (tgt := 18) dX12_undo_14 (by decide) ?_
    exact zb_X12_undo_18  e
/-! X11_use  -/
set_option maxRecDepth 100000 in
def b_X11_use_9    (h : gi_H) : Option ((Int ⊕ String) × gi_H) :=
  some (.inr gx_IOB, h)
set_option maxRecDepth 100000 in
theorem zb_X11_use_9  {res : Int ⊕ String} {h1 : gi_H}    {h : gi_H} (e : b_X11_use_9  h = some (res, h1)) : gx_Z mX11_use false false 0 0 9 [] [] (gi_cv h) (gx_oI res) (gi_cv h1) := by
  cases e
  exact gx_throw rfl gt_151_153_155 rfl dX11_use_9 dX11_use_12 dX11_use_13 dX11_use_15 dX11_use_18 (Nat.le_of_ble_eq_true rfl) (Nat.le_of_ble_eq_true rfl) ⟨Nat.le_of_ble_eq_true rfl, Nat.le_of_ble_eq_true rfl⟩
set_option maxRecDepth 100000 in
def f_X11_use (v0 : Nat) (v1 : Int) (h : gi_H) : Option ((Int ⊕ String) × gi_H) :=
  Option.bind (gi_rg v1) fun _ => if v1 < 0 then (b_X11_use_9   h) else (if v1 ≤ (1 : Int) then (Option.bind (gi_gI h v0 9 3) fun t4 => Option.bind (gi_rg t4) fun _ => if v1 = t4 then (some (.inl t4, h)) else (Option.bind (gi_gR h v0 9 1) fun t7 => Option.bind (gi_gR h v0 9 2) fun t8 => Option.bind (gi_pR h v0 9 1 t8) fun h9 => Option.bind (gi_pR h9 v0 9 2 t7) fun h10 => Option.bind (gi_pI h10 v0 9 3 v1) fun h11 => Option.bind (gi_is h11 v0 9) fun _ => Option.bind (f_X11_forget v0 h11) fun q13 => some (.inl t4, q13))) else (b_X11_use_9   h))
set_option maxRecDepth 100000 in
theorem z_X11_use {v0 : Nat} {v1 : Int} {h : gi_H} {res : Int ⊕ String} {h1 : gi_H} (e : f_X11_use v0 v1 h = some (res, h1)) : gx_Cw mX11_use false [.ref v0, .int (gI v1)] (gi_cv h) (gx_oI res) (gi_cv h1) := by
  refine gx_enter (by decide +kernel) rfl (Nat.le_of_ble_eq_true rfl) ?_
  show gx_Z mX11_use false false 0 0 0 [(0, .ref v0), (1, .int (gI v1))] [] (gi_cv h) (gx_oI res) (gi_cv h1)
  refine gx_iload_n dX11_use_0 rfl 1 rfl ?_
  refine gx_bE e (fun _ g1 e => ?_)
  refine gx_iE e (fun c2 e => ?_) (fun c2 e => ?_)
  · refine gy_if_lt (tgt := 9) (gi_rgS g1) dX11_use_1 (by decide) (fun _ => ?_) (fun z => absurd c2 z)
    refine gx_sub (ls2 := []) [] rfl ?_
    exact zb_X11_use_9  e
  · refine gy_if_lt (tgt := 9) (gi_rgS g1) dX11_use_1 (by decide) (fun z => absurd z c2) (fun _ => ?_)
    refine gx_iload_n dX11_use_4 rfl 1 rfl ?_
    refine gy_iconst dX11_use_5 ?_
    refine gx_iE e (fun c3 e => ?_) (fun c3 e => ?_)
    · refine gy_icmp_le (tgt := 19) (gi_rgS g1) (by decide) dX11_use_6 (by decide) (fun _ => ?_) (fun z => absurd c3 z)
      refine gx_aload_n dX11_use_19 rfl 0 rfl ?_
      refine gx_bE e (fun t4 ht4 e => ?_)
      refine gy_fI ht4 dX11_use_20 gf_RX11_156_9_3 (by decide) gkN_9_3 gkR_9_3 ?_
      refine gx_istore_n (ls2 := [(2, .int (gI t4)), (0, .ref v0), (1, .int (gI v1))]) dX11_use_23 rfl (Nat.le_of_ble_eq_true rfl) rfl ?_
      refine gx_iload_n dX11_use_24 rfl 2 rfl ?_
      refine gx_iload_n dX11_use_25 rfl 0 rfl ?_
      refine gx_bE e (fun _ g5 e => ?_)
      refine gx_iE e (fun c6 e => ?_) (fun c6 e => ?_)
      · refine gy_icmp_eq (tgt := 56) (gi_rgS g1) (gi_rgS g5) dX11_use_26 (by decide) (fun _ => ?_) (fun z => absurd c6 z)
        refine gx_iload_n dX11_use_56 rfl 0 rfl ?_
        cases e
        exact gx_iret dX11_use_57 rfl ⟨Nat.le_of_ble_eq_true rfl, Nat.le_of_ble_eq_true rfl⟩ (fun z => z)
      · refine gy_icmp_eq (tgt := 56) (gi_rgS g1) (gi_rgS g5) dX11_use_26 (by decide) (fun z => absurd z c6) (fun _ => ?_)
        refine gx_aload_n dX11_use_29 rfl 1 rfl ?_
        refine gx_bE e (fun t7 ht7 e => ?_)
        refine gy_fR ht7 dX11_use_30 gf_RX11_35_9_1 (by decide) gkN_9_1 gkR_9_1 ?_
        refine gx_astore_n (ls2 := [(3, .ref t7), (2, .int (gI t4)), (0, .ref v0), (1, .int (gI v1))]) dX11_use_33 rfl (Nat.le_of_ble_eq_true rfl) rfl ?_
        refine gx_aload_n dX11_use_34 rfl 2 rfl ?_
        refine gx_aload_n dX11_use_35 rfl 2 rfl ?_
        refine gx_bE e (fun t8 ht8 e => ?_)
        refine gy_fR ht8 dX11_use_36 gf_RX11_39_9_2 (by decide) gkN_9_2 gkR_9_2 ?_
        refine gx_bE e (fun h9 hh9 e => ?_)
        refine gy_qR hh9 dX11_use_39 gf_RX11_35_9_1 (by decide) gkN_9_1 gkR_9_1 (Or.inl rfl) ?_
        refine gx_aload_n dX11_use_42 rfl 2 rfl ?_
        refine gx_aload_n dX11_use_43 rfl 0 rfl ?_
        refine gx_bE e (fun h10 hh10 e => ?_)
        refine gy_qR hh10 dX11_use_44 gf_RX11_39_9_2 (by decide) gkN_9_2 gkR_9_2 (Or.inl rfl) ?_
        refine gx_aload_n dX11_use_47 rfl 2 rfl ?_
        refine gx_iload_n dX11_use_48 rfl 3 rfl ?_
        refine gx_bE e (fun h11 hh11 e => ?_)
        refine gy_qI hh11 dX11_use_49 gf_RX11_156_9_3 (by decide) gkN_9_3 rfl (Or.inl rfl) ?_
        refine gx_aload_n dX11_use_52 rfl 2 rfl ?_
        refine gx_bE e (fun _ hu12 e => ?_)
        refine gx_bE e (fun q13 hq13 e => ?_)
        refine gx_callV (n := 0) (st := []) (As := []) (b := v0) dX11_use_53 (z_X11_forget hq13) rfl ⟨rfl, gw_cw_X11_forget, gw_1, gp_X11_forget, ⟨Nat.le_of_ble_eq_true rfl, Nat.le_of_ble_eq_true rfl⟩⟩ (gi_isS hu12) (by decide) gw_1001 gw_1003 gs_45 rfl ⟨Nat.le_of_ble_eq_true rfl, Nat.le_of_ble_eq_true rfl⟩ (Nat.le_of_ble_eq_true rfl) (gy_k0 (kc2 := 0) (ks2 := 0) ⟨rfl, rfl⟩ ?_) gy_kn
        refine gx_iload_n dX11_use_56 rfl 1 rfl ?_
        cases e
        exact gx_iret dX11_use_57 rfl ⟨Nat.le_of_ble_eq_true rfl, Nat.le_of_ble_eq_true rfl⟩ (fun z => z)
    · refine gy_icmp_le (tgt := 19) (gi_rgS g1) (by decide) dX11_use_6 (by decide) (fun z => absurd z c3) (fun _ => ?_)
      refine gx_sub (ls2 := []) [] rfl ?_
      exact zb_X11_use_9  e
/-! L_use  -/
set_option maxRecDepth 100000 in
def f_L_use (v0 : Nat) (v1 : Int) (v2 : Nat) (h : gi_H) : Option (Int × gi_H) :=
  Option.bind (gi_is h v0 9) fun _ => Option.bind (f_X11_use v0 v1 h) fun q2 => gx_sm q2.1 (fun t3 => Option.bind (gi_rg t3) fun _ => Option.bind (gi_s2 q2.2 v2 (0 : Int) t3) fun h5 => some ((0 : Int), h5)) (fun t3 => if t3 = gx_IOB then (some ((1 : Int), q2.2)) else (none))
set_option maxRecDepth 100000 in
theorem z_L_use {v0 : Nat} {v1 : Int} {v2 : Nat} {h : gi_H} {res : Int} {h1 : gi_H} (e : f_L_use v0 v1 v2 h = some (res, h1)) : gx_Cw mL_use false [.ref v0, .int (gI v1), .ref v2] (gi_cv h) (.inl (some (.int (gI res)))) (gi_cv h1) := by
  refine gx_enter (by decide +kernel) rfl (Nat.le_of_ble_eq_true rfl) ?_
  show gx_Z mL_use false false 0 0 0 [(0, .ref v0), (1, .int (gI v1)), (2, .ref v2)] [] (gi_cv h) (.inl (some (.int (gI res)))) (gi_cv h1)
  refine gx_aload_n dL_use_0 rfl 2 rfl ?_
  refine gy_iconst dL_use_1 ?_
  refine gx_aload_n dL_use_2 rfl 0 rfl ?_
  refine gx_iload_n dL_use_3 rfl 1 rfl ?_
  refine gx_bE e (fun _ hu1 e => ?_)
  refine gx_bE e (fun q2 hq2 e => ?_)
  refine gx_smE e (fun t3 ht3 e => ?_) (fun t3 ht3 e => ?_)
  · have zq2 := z_X11_use hq2
    rw [ht3] at zq2
    refine gx_callV (n := 1) (st := [.int (gI (0 : Int)), .ref v2]) (As := [.int (gI v1)]) (b := v0) dL_use_4 zq2 rfl ⟨rfl, gw_cw_X11_use, gw_1, gp_X11_use, ⟨Nat.le_of_ble_eq_true rfl, Nat.le_of_ble_eq_true rfl⟩⟩ (gi_isS hu1) (by decide) gw_1029 gw_1030 gw_1031 rfl ⟨Nat.le_of_ble_eq_true rfl, Nat.le_of_ble_eq_true rfl⟩ (Nat.le_of_ble_eq_true rfl) (gy_k1 (x := .int (gI t3)) (kc2 := 1) (ks2 := 6) ⟨rfl, rfl⟩ ?_) gy_kn
    refine gx_bE e (fun _ g4 e => ?_)
    refine gy_i2l (gi_rgS g4) dL_use_7 ?_
    refine gx_bE e (fun h5 hh5 e => ?_)
    refine gy_t2 hh5 dL_use_8 ?_
    refine gx_goto (tgt := 15) dL_use_9 (by decide) ?_
    refine gy_iconst dL_use_15 ?_
    cases e
    exact gx_iret dL_use_16 rfl ⟨Nat.le_of_ble_eq_true rfl, Nat.le_of_ble_eq_true rfl⟩ (fun z => z)
  · have zq2 := z_X11_use hq2
    rw [ht3] at zq2
    refine gx_callV (n := 1) (st := [.int (gI (0 : Int)), .ref v2]) (As := [.int (gI v1)]) (b := v0) dL_use_4 zq2 rfl ⟨rfl, gw_cw_X11_use, gw_1, gp_X11_use, ⟨Nat.le_of_ble_eq_true rfl, Nat.le_of_ble_eq_true rfl⟩⟩ (gi_isS hu1) (by decide) gw_1029 gw_1030 gw_1031 rfl ⟨Nat.le_of_ble_eq_true rfl, Nat.le_of_ble_eq_true rfl⟩ (Nat.le_of_ble_eq_true rfl) gy_kN (gy_kE (kc2 := 1) (ks2 := 6) ⟨rfl, rfl⟩ ?_)
    refine gx_iE e (fun c6 e => ?_) (fun c6 e => ?_)
    · rw [c6]
      refine gx_catch (ls2 := [(0, .ref v0), (1, .int (gI v1)), (2, .ref v2)]) [] (x := (0, 9, 12, 28)) rfl (fun z hz => by cases hz) (by decide +kernel) (by decide) gw_1028 (by decide +kernel) (Nat.le_of_ble_eq_true rfl) (Or.inl ⟨3, rfl, rfl, dL_use_12⟩) rfl ?_
      refine gy_iconst dL_use_13 ?_
      cases e
      exact gx_iret dL_use_14 rfl ⟨Nat.le_of_ble_eq_true rfl, Nat.le_of_ble_eq_true rfl⟩ (fun z => z)
    cases e
/-! X12_isBelow  -/
set_option maxRecDepth 100000 in
def b_X12_isBelow_13    (h : gi_H) : Option (Int) :=
  some (0 : Int)
set_option maxRecDepth 100000 in
theorem zb_X12_isBelow_13 {al : Bool}  {res : Int}    {h : gi_H} (e : b_X12_isBelow_13  h = some res) : gx_Z mX12_isBelow al al 0 0 13 [] [] (gi_cv h) (.inl (some (.int (gI res)))) (gi_cv h) := by
  refine gy_iconst dX12_isBelow_13 ?_
  cases e
  exact gx_zret (by decide +kernel) dX12_isBelow_14 rfl ⟨Nat.le_of_ble_eq_true rfl, Nat.le_of_ble_eq_true rfl⟩ (fun z => z)
set_option maxRecDepth 100000 in
def f_X12_isBelow (v0 : Int) (v1 : Int) (h : gi_H) : Option (Int) :=
  Option.bind (gi_rg v0) fun _ => if v0 < 0 then (b_X12_isBelow_13   h) else (Option.bind (gi_rg v1) fun _ => if v1 ≤ v0 then (b_X12_isBelow_13   h) else (some (1 : Int)))
set_option maxRecDepth 100000 in
theorem z_X12_isBelow {al : Bool} {v0 : Int} {v1 : Int} {h : gi_H} {res : Int} (e : f_X12_isBelow v0 v1 h = some res) : gx_Cw mX12_isBelow al [.int (gI v0), .int (gI v1)] (gi_cv h) (.inl (some (.int (gI res)))) (gi_cv h) := by
  refine gx_enter (by decide +kernel) rfl (Nat.le_of_ble_eq_true rfl) ?_
  show gx_Z mX12_isBelow al al 0 0 0 [(0, .int (gI v0)), (1, .int (gI v1))] [] (gi_cv h) (.inl (some (.int (gI res)))) (gi_cv h)
  refine gx_iload_n dX12_isBelow_0 rfl 0 rfl ?_
  refine gx_bE e (fun _ g1 e => ?_)
  refine gx_iE e (fun c2 e => ?_) (fun c2 e => ?_)
  · refine gy_if_lt (tgt := 13) (gi_rgS g1) dX12_isBelow_1 (by decide) (fun _ => ?_) (fun z => absurd c2 z)
    refine gx_sub (ls2 := []) [] rfl ?_
    exact zb_X12_isBelow_13  e
  · refine gy_if_lt (tgt := 13) (gi_rgS g1) dX12_isBelow_1 (by decide) (fun z => absurd z c2) (fun _ => ?_)
    refine gx_iload_n dX12_isBelow_4 rfl 0 rfl ?_
    refine gx_iload_n dX12_isBelow_5 rfl 1 rfl ?_
    refine gx_bE e (fun _ g3 e => ?_)
    refine gx_iE e (fun c4 e => ?_) (fun c4 e => ?_)
    · refine gy_icmp_ge (tgt := 13) (gi_rgS g1) (gi_rgS g3) dX12_isBelow_6 (by decide) (fun _ => ?_) (fun z => absurd c4 z)
      refine gx_sub (ls2 := []) [] rfl ?_
      exact zb_X12_isBelow_13  e
    · refine gy_icmp_ge (tgt := 13) (gi_rgS g1) (gi_rgS g3) dX12_isBelow_6 (by decide) (fun z => absurd z c4) (fun _ => ?_)
      refine gy_iconst dX12_isBelow_9 ?_
      refine gx_goto (tgt := 14) dX12_isBelow_10 (by decide) ?_
      cases e
      exact gx_zret (by decide +kernel) dX12_isBelow_14 rfl ⟨Nat.le_of_ble_eq_true rfl, Nat.le_of_ble_eq_true rfl⟩ (fun z => z)
/-! X12_use  -/
set_option maxRecDepth 100000 in
def f_X12_use (v0 : Nat) (v1 : Int) (h : gi_H) : Option (Int × gi_H) :=
  Option.bind (f_X12_isBelow v1 (2 : Int) h) fun q1 => Option.bind (gi_is h v0 10) fun _ => Option.bind (f_X12_goes v0 q1 (1 : Int) (1 : Int) h) fun q3 => Option.bind (gi_rg q3.1) fun _ => if q3.1 = 0 then (some ((0 : Int), q3.2)) else (Option.bind (gi_gI q3.2 v0 10 9) fun t6 => Option.bind (gi_pI q3.2 v0 10 9 v1) fun h7 => Option.bind (gi_is h7 v0 10) fun _ => Option.bind (f_X12_changed v0 h7) fun q9 => some (t6, q9))
set_option maxRecDepth 100000 in
theorem z_X12_use {al : Bool} {v0 : Nat} {v1 : Int} {h : gi_H} {res : Int} {h1 : gi_H} (e : f_X12_use v0 v1 h = some (res, h1)) : gx_Cw mX12_use al [.ref v0, .int (gI v1)] (gi_cv h) (.inl (some (.int (gI res)))) (gi_cv h1) := by
  refine gx_enter (by decide +kernel) rfl (Nat.le_of_ble_eq_true rfl) ?_
  show gx_Z mX12_use al al 0 0 0 [(0, .ref v0), (1, .int (gI v1))] [] (gi_cv h) (.inl (some (.int (gI res)))) (gi_cv h1)
  refine gx_aload_n dX12_use_0 rfl 0 rfl ?_
  refine gx_iload_n dX12_use_1 rfl 1 rfl ?_
  refine gy_iconst dX12_use_2 ?_
  refine gx_bE e (fun q1 hq1 e => ?_)
  refine gx_callS (n := 2) (st := [.ref v0]) (As := [.int (gI v1), .int (gI (2 : Int))]) dX12_use_3 (z_X12_isBelow hq1) rfl ⟨rfl, gw_cw_X12_isBelow, gw_14, gp_X12_isBelow, ⟨Nat.le_of_ble_eq_true rfl, Nat.le_of_ble_eq_true rfl⟩⟩ gw_1540 gw_1541 ⟨Nat.le_of_ble_eq_true rfl, Nat.le_of_ble_eq_true rfl⟩ (Nat.le_of_ble_eq_true rfl) (gy_k1 (x := .int (gI q1)) (kc2 := 0) (ks2 := 0) ⟨rfl, rfl⟩ ?_) gy_kn
  refine gy_iconst dX12_use_6 ?_
  refine gy_iconst dX12_use_7 ?_
  refine gx_bE e (fun _ hu2 e => ?_)
  refine gx_bE e (fun q3 hq3 e => ?_)
  refine gx_callV (n := 3) (st := []) (As := [.int (gI q1), .int (gI (1 : Int)), .int (gI (1 : Int))]) (b := v0) dX12_use_8 (z_X12_goes hq3) rfl ⟨rfl, gw_cw_X12_goes, gw_14, gp_X12_goes, ⟨Nat.le_of_ble_eq_true rfl, Nat.le_of_ble_eq_true rfl⟩⟩ (gi_isS hu2) (by decide) gw_1480 gw_1482 gs_58 rfl ⟨Nat.le_of_ble_eq_true rfl, Nat.le_of_ble_eq_true rfl⟩ (Nat.le_of_ble_eq_true rfl) (gy_k1 (x := .int (gI q3.1)) (kc2 := 0) (ks2 := 0) ⟨rfl, rfl⟩ ?_) gy_kn
  refine gx_bE e (fun _ g4 e => ?_)
  refine gx_iE e (fun c5 e => ?_) (fun c5 e => ?_)
  · refine gy_if_ne (tgt := 16) (gi_rgS g4) dX12_use_11 (by decide) (fun z => absurd c5 z) (fun _ => ?_)
    refine gy_iconst dX12_use_14 ?_
    cases e
    exact gx_iret dX12_use_15 rfl ⟨Nat.le_of_ble_eq_true rfl, Nat.le_of_ble_eq_true rfl⟩ (fun z => z)
  · refine gy_if_ne (tgt := 16) (gi_rgS g4) dX12_use_11 (by decide) (fun _ => ?_) (fun z => absurd z c5)
    refine gx_aload_n dX12_use_16 rfl 0 rfl ?_
    refine gx_bE e (fun t6 ht6 e => ?_)
    refine gy_fI ht6 dX12_use_17 gf_RX12_139_10_9 (by decide) gkN_10_9 gkR_10_9 ?_
    refine gx_istore_n (ls2 := [(2, .int (gI t6)), (0, .ref v0), (1, .int (gI v1))]) dX12_use_20 rfl (Nat.le_of_ble_eq_true rfl) rfl ?_
    refine gx_aload_n dX12_use_21 rfl 1 rfl ?_
    refine gx_iload_n dX12_use_22 rfl 2 rfl ?_
    refine gx_bE e (fun h7 hh7 e => ?_)
    refine gy_qI hh7 dX12_use_23 gf_RX12_139_10_9 (by decide) gkN_10_9 rfl (Or.inl rfl) ?_
    refine gx_aload_n dX12_use_26 rfl 1 rfl ?_
    refine gx_bE e (fun _ hu8 e => ?_)
    refine gx_bE e (fun q9 hq9 e => ?_)
    refine gx_callV (n := 0) (st := []) (As := []) (b := v0) dX12_use_27 (z_X12_changed hq9) rfl ⟨rfl, gw_cw_X12_changed, gw_14, gp_X12_changed, ⟨Nat.le_of_ble_eq_true rfl, Nat.le_of_ble_eq_true rfl⟩⟩ (gi_isS hu8) (by decide) gw_1528 gw_1530 gs_67 rfl ⟨Nat.le_of_ble_eq_true rfl, Nat.le_of_ble_eq_true rfl⟩ (Nat.le_of_ble_eq_true rfl) (gy_k0 (kc2 := 0) (ks2 := 0) ⟨rfl, rfl⟩ ?_) gy_kn
    refine gx_iload_n dX12_use_30 rfl 0 rfl ?_
    cases e
    exact gx_iret dX12_use_31 rfl ⟨Nat.le_of_ble_eq_true rfl, Nat.le_of_ble_eq_true rfl⟩ (fun z => z)
/-! X4_admitAll  -/
set_option maxRecDepth 100000 in
def b_X4_admitAll_70 (n : Nat)  (v0 : Nat) (v3 : Int) (v4 : Int)  (h : gi_H) : Option (Int × gi_H) :=
  Option.bind (gi_pI h v0 3 3 v3) fun h12 => Option.bind (gi_pI h12 v0 3 6 v4) fun h13 => some ((0 : Int), h13)
set_option maxRecDepth 100000 in
theorem zb_X4_admitAll_70 {al : Bool} {n : Nat}  {res : Int} {h1 : gi_H}  {v0 : Nat} {v3 : Int} {v4 : Int}  {h : gi_H} (e : b_X4_admitAll_70 n v0 v3 v4 h = some (res, h1)) : gx_Z mX4_admitAll al al 0 0 70 [(0, .ref v0), (3, .int (gI v3)), (4, .int (gI v4))] [] (gi_cv h) (.inl (some (.int (gI res)))) (gi_cv h1) := by
  refine gx_aload_n dX4_admitAll_70 rfl 0 rfl ?_
  refine gx_iload_n dX4_admitAll_71 rfl 1 rfl ?_
  refine gx_bE e (fun h12 hh12 e => ?_)
  refine gy_qI hh12 dX4_admitAll_72 gf_RX4_42_3_3 (by decide) gkN_3_3 rfl (Or.inl rfl) ?_
  refine gx_aload_n dX4_admitAll_75 rfl 0 rfl ?_
  refine gx_iload dX4_admitAll_76 2 rfl ?_
  refine gx_bE e (fun h13 hh13 e => ?_)
  refine gy_qI hh13 dX4_admitAll_78 gf_RX4_46_3_6 (by decide) gkN_3_6 rfl (Or.inl rfl) ?_
  refine gy_iconst dX4_admitAll_81 ?_
  cases e
  exact gx_zret (by decide +kernel) dX4_admitAll_82 rfl ⟨Nat.le_of_ble_eq_true rfl, Nat.le_of_ble_eq_true rfl⟩ (fun z => z)
set_option maxRecDepth 100000 in
def b_X4_admitAll_54 (n : Nat) (r14 : Nat → Nat → Int → Int → Int → Int → gi_H → Option (Int × gi_H)) (v0 : Nat) (v1 : Nat) (v2 : Int) (v3 : Int) (v4 : Int) (v5 : Int) (v6 : Option Nat)  (h : gi_H) : Option (Int × gi_H) :=
  if v6 = none then (b_X4_admitAll_70 n  v0 v3 v4 h) else (Option.bind (gi_gR h v0 3 8) fun t14 => Option.bind (gi_is h v0 3) fun _ => Option.bind (f_X4_admit n v0 t14 h) fun q16 => Option.bind (gi_rg q16.1) fun _ => if q16.1 = 0 then (b_X4_admitAll_70 n  v0 v3 v4 q16.2) else (gx_nm (v5 + (1 : Int)) fun t19 => r14 v0 v1 v2 v3 v4 t19 q16.2))
set_option maxRecDepth 100000 in
theorem zb_X4_admitAll_54 {al : Bool} {n : Nat} {r14 : Nat → Nat → Int → Int → Int → Int → gi_H → Option (Int × gi_H)} {res : Int} {h1 : gi_H} (hr14 : ∀ (x0 : Nat) (x1 : Nat) (x2 : Int) (x3 : Int) (x4 : Int) (x5 : Int) (hh : gi_H), r14 x0 x1 x2 x3 x4 x5 hh = some (res, h1) → gx_Z mX4_admitAll al al 0 0 14 [(0, .ref x0), (1, .ref x1), (2, .int (gI x2)), (3, .int (gI x3)), (4, .int (gI x4)), (5, .int (gI x5))] [] (gi_cv hh) (.inl (some (.int (gI res)))) (gi_cv h1)) {v0 : Nat} {v1 : Nat} {v2 : Int} {v3 : Int} {v4 : Int} {v5 : Int} {v6 : Option Nat}  {h : gi_H} (e : b_X4_admitAll_54 n r14 v0 v1 v2 v3 v4 v5 v6 h = some (res, h1)) : gx_Z mX4_admitAll al al 0 0 54 [(0, .ref v0), (1, .ref v1), (2, .int (gI v2)), (3, .int (gI v3)), (4, .int (gI v4)), (5, .int (gI v5)), (6, va_rf v6)] [] (gi_cv h) (.inl (some (.int (gI res)))) (gi_cv h1) := by
  refine gx_aloadq dX4_admitAll_54 6 rfl ?_
  refine gx_iE e (fun c11 e => ?_) (fun c11 e => ?_)
  · refine gx_ifnull (tgt := 70) dX4_admitAll_56 (by decide) (fun _ => ?_) (fun z => absurd c11 z)
    refine gx_sub (ls2 := [(0, .ref v0), (3, .int (gI v3)), (4, .int (gI v4))]) [0, 3, 4] rfl ?_
    exact zb_X4_admitAll_70  e
  · refine gx_ifnull (tgt := 70) dX4_admitAll_56 (by decide) (fun z => absurd z c11) (fun _ => ?_)
    refine gx_aload_n dX4_admitAll_59 rfl 0 rfl ?_
    refine gx_aload_n dX4_admitAll_60 rfl 0 rfl ?_
    refine gx_bE e (fun t14 ht14 e => ?_)
    refine gy_fR ht14 dX4_admitAll_61 gf_RX4_31_3_8 (by decide) gkN_3_8 gkR_3_8 ?_
    refine gx_bE e (fun _ hu15 e => ?_)
    refine gx_bE e (fun q16 hq16 e => ?_)
    refine gx_callV (n := 1) (st := []) (As := [.ref t14]) (b := v0) dX4_admitAll_64 (z_X4_admit hq16) rfl ⟨rfl, gw_cw_X4_admit, gw_3, gp_X4_admit, ⟨Nat.le_of_ble_eq_true rfl, Nat.le_of_ble_eq_true rfl⟩⟩ (gi_isS hu15) (by decide) gw_1061 gw_949 gw_950 rfl ⟨Nat.le_of_ble_eq_true rfl, Nat.le_of_ble_eq_true rfl⟩ (Nat.le_of_ble_eq_true rfl) (gy_k1 (x := .int (gI q16.1)) (kc2 := 0) (ks2 := 0) ⟨rfl, rfl⟩ ?_) gy_kn
    refine gx_bE e (fun _ g17 e => ?_)
    refine gx_iE e (fun c18 e => ?_) (fun c18 e => ?_)
    · refine gy_if_ne (tgt := 83) (gi_rgS g17) dX4_admitAll_67 (by decide) (fun z => absurd c18 z) (fun _ => ?_)
      refine gx_sub (ls2 := [(0, .ref v0), (3, .int (gI v3)), (4, .int (gI v4))]) [0, 3, 4] rfl ?_
      exact zb_X4_admitAll_70  e
    · refine gy_if_ne (tgt := 83) (gi_rgS g17) dX4_admitAll_67 (by decide) (fun _ => ?_) (fun z => absurd z c18)
      refine gx_nE e (fun t19 ht19 e => ?_)
      refine gy_iinc (v := t19) (ls2 := [(5, .int (gI t19)), (0, .ref v0), (1, .ref v1), (2, .int (gI v2)), (3, .int (gI v3)), (4, .int (gI v4)), (6, va_rf v6)]) dX4_admitAll_83 5 rfl ht19 (Nat.le_of_ble_eq_true rfl) rfl ?_
      refine gx_goto (tgt := 14) dX4_admitAll_86 (by decide) ?_
      refine gx_sub (ls2 := [(0, .ref v0), (1, .ref v1), (2, .int (gI v2)), (3, .int (gI v3)), (4, .int (gI v4)), (5, .int (gI t19))]) [1, 2, 3, 4, 5, 0] rfl ?_
      exact hr14 _ _ _ _ _ _ _ e
set_option maxRecDepth 100000 in
def b_X4_admitAll_14 (n : Nat) (r14 : Nat → Nat → Int → Int → Int → Int → gi_H → Option (Int × gi_H)) (v0 : Nat) (v1 : Nat) (v2 : Int) (v3 : Int) (v4 : Int) (v5 : Int)  (h : gi_H) : Option (Int × gi_H) :=
  Option.bind (gi_gI h v1 3 6) fun t3 => Option.bind (gi_rg v5) fun _ => Option.bind (gi_rg t3) fun _ => if t3 ≤ v5 then (some ((1 : Int), h)) else (if (24 : Int) ≤ v5 then (some ((1 : Int), h)) else (Option.bind (gi_gR h v1 3 4) fun t8 => Option.bind (gi_aR h t8 v5) fun t9 => if t9 = none then (b_X4_admitAll_54 n r14 v0 v1 v2 v3 v4 v5 t9 h) else (Option.bind (gi_gR h v0 3 8) fun t20 => Option.bind t9 fun t21 => Option.bind (gi_is h t20 7) fun _ => Option.bind (f_X8_copyRenamed n t20 t21 v2 h) fun q23 => b_X4_admitAll_54 n r14 v0 v1 v2 v3 v4 v5 (some t21) q23)))
set_option maxRecDepth 100000 in
theorem zb_X4_admitAll_14 {al : Bool} {n : Nat} {r14 : Nat → Nat → Int → Int → Int → Int → gi_H → Option (Int × gi_H)} {res : Int} {h1 : gi_H} (hr14 : ∀ (x0 : Nat) (x1 : Nat) (x2 : Int) (x3 : Int) (x4 : Int) (x5 : Int) (hh : gi_H), r14 x0 x1 x2 x3 x4 x5 hh = some (res, h1) → gx_Z mX4_admitAll al al 0 0 14 [(0, .ref x0), (1, .ref x1), (2, .int (gI x2)), (3, .int (gI x3)), (4, .int (gI x4)), (5, .int (gI x5))] [] (gi_cv hh) (.inl (some (.int (gI res)))) (gi_cv h1)) {v0 : Nat} {v1 : Nat} {v2 : Int} {v3 : Int} {v4 : Int} {v5 : Int}  {h : gi_H} (e : b_X4_admitAll_14 n r14 v0 v1 v2 v3 v4 v5 h = some (res, h1)) : gx_Z mX4_admitAll al al 0 0 14 [(0, .ref v0), (1, .ref v1), (2, .int (gI v2)), (3, .int (gI v3)), (4, .int (gI v4)), (5, .int (gI v5))] [] (gi_cv h) (.inl (some (.int (gI res)))) (gi_cv h1) := by
  refine gx_iload dX4_admitAll_14 5 rfl ?_
  refine gx_aload_n dX4_admitAll_16 rfl 1 rfl ?_
  refine gx_bE e (fun t3 ht3 e => ?_)
  refine gy_fI ht3 dX4_admitAll_17 gf_RX4_46_3_6 (by decide) gkN_3_6 gkR_3_6 ?_
  refine gx_bE e (fun _ g4 e => ?_)
  refine gx_bE e (fun _ g5 e => ?_)
  refine gx_iE e (fun c6 e => ?_) (fun c6 e => ?_)
  · refine gy_icmp_ge (tgt := 89) (gi_rgS g4) (gi_rgS g5) dX4_admitAll_20 (by decide) (fun _ => ?_) (fun z => absurd c6 z)
    refine gy_iconst dX4_admitAll_89 ?_
    cases e
    exact gx_zret (by decide +kernel) dX4_admitAll_90 rfl ⟨Nat.le_of_ble_eq_true rfl, Nat.le_of_ble_eq_true rfl⟩ (fun z => z)
  · refine gy_icmp_ge (tgt := 89) (gi_rgS g4) (gi_rgS g5) dX4_admitAll_20 (by decide) (fun z => absurd z c6) (fun _ => ?_)
    refine gx_iload dX4_admitAll_23 5 rfl ?_
    refine gy_bipush dX4_admitAll_25 gcb_24 ?_
    refine gx_iE e (fun c7 e => ?_) (fun c7 e => ?_)
    · refine gy_icmp_ge (tgt := 89) (gi_rgS g4) (by decide) dX4_admitAll_27 (by decide) (fun _ => ?_) (fun z => absurd c7 z)
      refine gy_iconst dX4_admitAll_89 ?_
      cases e
      exact gx_zret (by decide +kernel) dX4_admitAll_90 rfl ⟨Nat.le_of_ble_eq_true rfl, Nat.le_of_ble_eq_true rfl⟩ (fun z => z)
    · refine gy_icmp_ge (tgt := 89) (gi_rgS g4) (by decide) dX4_admitAll_27 (by decide) (fun z => absurd z c7) (fun _ => ?_)
      refine gx_aload_n dX4_admitAll_30 rfl 1 rfl ?_
      refine gx_bE e (fun t8 ht8 e => ?_)
      refine gy_fR ht8 dX4_admitAll_31 gf_RX4_23_3_4 (by decide) gkN_3_4 gkR_3_4 ?_
      refine gx_iload dX4_admitAll_34 5 rfl ?_
      refine gx_bE e (fun t9 ht9 e => ?_)
      refine gy_l5 ht9 dX4_admitAll_36 ?_
      refine gx_astoreq (ls2 := [(6, va_rf t9), (0, .ref v0), (1, .ref v1), (2, .int (gI v2)), (3, .int (gI v3)), (4, .int (gI v4)), (5, .int (gI v5))]) dX4_admitAll_37 (Nat.le_of_ble_eq_true rfl) rfl ?_
      refine gx_aloadq dX4_admitAll_39 0 rfl ?_
      refine gx_iE e (fun c10 e => ?_) (fun c10 e => ?_)
      · refine gx_ifnull (tgt := 54) dX4_admitAll_41 (by decide) (fun _ => ?_) (fun z => absurd c10 z)
        refine gx_sub (ls2 := [(0, .ref v0), (1, .ref v1), (2, .int (gI v2)), (3, .int (gI v3)), (4, .int (gI v4)), (5, .int (gI v5)), (6, va_rf t9)]) [1, 2, 3, 4, 5, 6, 0] rfl ?_
        exact zb_X4_admitAll_54 hr14 e
      · refine gx_ifnull (tgt := 54) dX4_admitAll_41 (by decide) (fun z => absurd z c10) (fun _ => ?_)
        refine gx_aload_n dX4_admitAll_44 rfl 1 rfl ?_
        refine gx_bE e (fun t20 ht20 e => ?_)
        refine gy_fR ht20 dX4_admitAll_45 gf_RX4_31_3_8 (by decide) gkN_3_8 gkR_3_8 ?_
        refine gx_aloadq dX4_admitAll_48 0 rfl ?_
        refine gx_iload_n dX4_admitAll_50 rfl 3 rfl ?_
        refine gx_bE e (fun t21 ht21 e => ?_)
        rw [ht21]
        refine gx_bE e (fun _ hu22 e => ?_)
        refine gx_bE e (fun q23 hq23 e => ?_)
        refine gx_callV (n := 2) (st := []) (As := [.ref t21, .int (gI v2)]) (b := t20) dX4_admitAll_51 (z_X8_copyRenamed hq23) rfl ⟨rfl, gw_cw_X8_copyRenamed, gw_2, gp_X8_copyRenamed, ⟨Nat.le_of_ble_eq_true rfl, Nat.le_of_ble_eq_true rfl⟩⟩ (gi_isS hu22) (by decide) gw_995 gw_996 gw_997 rfl ⟨Nat.le_of_ble_eq_true rfl, Nat.le_of_ble_eq_true rfl⟩ (Nat.le_of_ble_eq_true rfl) (gy_k0 (kc2 := 0) (ks2 := 0) ⟨rfl, rfl⟩ ?_) gy_kn
        refine gx_sub (ls2 := [(0, .ref v0), (1, .ref v1), (2, .int (gI v2)), (3, .int (gI v3)), (4, .int (gI v4)), (5, .int (gI v5)), (6, va_rf (some t21))]) [1, 2, 3, 4, 5, 6, 0] rfl ?_
        exact zb_X4_admitAll_54 hr14 e
def l_X4_admitAll_14 (n : Nat)  : Nat → Nat → Nat → Int → Int → Int → Int → gi_H → Option (Int × gi_H)
  | 0, _, _, _, _, _, _, _ => none
  | k + 1, v0, v1, v2, v3, v4, v5, h => b_X4_admitAll_14 n  (l_X4_admitAll_14 n  k) v0 v1 v2 v3 v4 v5 h
theorem zl_X4_admitAll_14 {al : Bool} {n : Nat}  {res : Int} {h1 : gi_H}  : ∀ (k : Nat) (v0 : Nat) (v1 : Nat) (v2 : Int) (v3 : Int) (v4 : Int) (v5 : Int) (h : gi_H), l_X4_admitAll_14 n  k v0 v1 v2 v3 v4 v5 h = some (res, h1) → gx_Z mX4_admitAll al al 0 0 14 [(0, .ref v0), (1, .ref v1), (2, .int (gI v2)), (3, .int (gI v3)), (4, .int (gI v4)), (5, .int (gI v5))] [] (gi_cv h) (.inl (some (.int (gI res)))) (gi_cv h1)
  | 0, _, _, _, _, _, _, _, e => gx_0E e
  | k + 1, _, _, _, _, _, _, _, e => zb_X4_admitAll_14 (n := n)  (zl_X4_admitAll_14  k) e
set_option maxRecDepth 100000 in
def f_X4_admitAll (n : Nat) (v0 : Nat) (v1 : Nat) (v2 : Int) (h : gi_H) : Option (Int × gi_H) :=
  Option.bind (gi_gI h v0 3 3) fun t1 => Option.bind (gi_gI h v0 3 6) fun t2 => l_X4_admitAll_14 n  n v0 v1 v2 t1 t2 (0 : Int) h
set_option maxRecDepth 100000 in
theorem z_X4_admitAll {al : Bool} {n : Nat} {v0 : Nat} {v1 : Nat} {v2 : Int} {h : gi_H} {res : Int} {h1 : gi_H} (e : f_X4_admitAll n v0 v1 v2 h = some (res, h1)) : gx_Cw mX4_admitAll al [.ref v0, .ref v1, .int (gI v2)] (gi_cv h) (.inl (some (.int (gI res)))) (gi_cv h1) := by
  refine gx_enter (by decide +kernel) rfl (Nat.le_of_ble_eq_true rfl) ?_
  show gx_Z mX4_admitAll al al 0 0 0 [(0, .ref v0), (1, .ref v1), (2, .int (gI v2))] [] (gi_cv h) (.inl (some (.int (gI res)))) (gi_cv h1)
  refine gx_aload_n dX4_admitAll_0 rfl 0 rfl ?_
  refine gx_bE e (fun t1 ht1 e => ?_)
  refine gy_fI ht1 dX4_admitAll_1 gf_RX4_42_3_3 (by decide) gkN_3_3 gkR_3_3 ?_
  refine gx_istore_n (ls2 := [(3, .int (gI t1)), (0, .ref v0), (1, .ref v1), (2, .int (gI v2))]) dX4_admitAll_4 rfl (Nat.le_of_ble_eq_true rfl) rfl ?_
  refine gx_aload_n dX4_admitAll_5 rfl 1 rfl ?_
  refine gx_bE e (fun t2 ht2 e => ?_)
  refine gy_fI ht2 dX4_admitAll_6 gf_RX4_46_3_6 (by decide) gkN_3_6 gkR_3_6 ?_
  refine gx_istore (ls2 := [(4, .int (gI t2)), (3, .int (gI t1)), (0, .ref v0), (1, .ref v1), (2, .int (gI v2))]) dX4_admitAll_9 (Nat.le_of_ble_eq_true rfl) rfl ?_
  refine gy_iconst dX4_admitAll_11 ?_
  refine gx_istore (ls2 := [(5, .int (gI (0 : Int))), (4, .int (gI t2)), (3, .int (gI t1)), (0, .ref v0), (1, .ref v1), (2, .int (gI v2))]) dX4_admitAll_12 (Nat.le_of_ble_eq_true rfl) rfl ?_
  refine gx_sub (ls2 := [(0, .ref v0), (1, .ref v1), (2, .int (gI v2)), (3, .int (gI t1)), (4, .int (gI t2)), (5, .int (gI (0 : Int)))]) [3, 4, 5, 2, 1, 0] rfl ?_
  exact zl_X4_admitAll_14  n _ _ _ _ _ _ _ e
/-! X4_rules  -/
set_option maxRecDepth 100000 in
def f_X4_rules (v0 : Nat) (h : gi_H) : Option (Int) :=
  Option.bind (gi_gI h v0 3 6) fun t1 => some t1
set_option maxRecDepth 100000 in
theorem z_X4_rules {al : Bool} {v0 : Nat} {h : gi_H} {res : Int} (e : f_X4_rules v0 h = some res) : gx_Cw mX4_rules al [.ref v0] (gi_cv h) (.inl (some (.int (gI res)))) (gi_cv h) := by
  refine gx_enter (by decide +kernel) rfl (Nat.le_of_ble_eq_true rfl) ?_
  show gx_Z mX4_rules al al 0 0 0 [(0, .ref v0)] [] (gi_cv h) (.inl (some (.int (gI res)))) (gi_cv h)
  refine gx_aload_n dX4_rules_0 rfl 0 rfl ?_
  refine gx_bE e (fun t1 ht1 e => ?_)
  refine gy_fI ht1 dX4_rules_1 gf_RX4_46_3_6 (by decide) gkN_3_6 gkR_3_6 ?_
  cases e
  exact gx_iret dX4_rules_4 rfl ⟨Nat.le_of_ble_eq_true rfl, Nat.le_of_ble_eq_true rfl⟩ (fun z => z)
/-! X11_bring  -/
set_option maxRecDepth 100000 in
def b_X11_bring_10 (n : Nat)    (h : gi_H) : Option ((Int ⊕ String) × gi_H) :=
  some (.inr gx_IAE, h)
set_option maxRecDepth 100000 in
theorem zb_X11_bring_10 {n : Nat}  {res : Int ⊕ String} {h1 : gi_H}    {h : gi_H} (e : b_X11_bring_10 n  h = some (res, h1)) : gx_Z mX11_bring false false 0 0 10 [] [] (gi_cv h) (gx_oI res) (gi_cv h1) := by
  cases e
  exact gx_throw rfl gt_105_160_109 rfl dX11_bring_10 dX11_bring_13 dX11_bring_14 dX11_bring_16 dX11_bring_19 (Nat.le_of_ble_eq_true rfl) (Nat.le_of_ble_eq_true rfl) ⟨Nat.le_of_ble_eq_true rfl, Nat.le_of_ble_eq_true rfl⟩
set_option maxRecDepth 100000 in
def f_X11_bring (n : Nat) (v0 : Nat) (v1 : Int) (h : gi_H) : Option ((Int ⊕ String) × gi_H) :=
  Option.bind (gi_rg v1) fun _ => if v1 < 0 then (b_X11_bring_10 n   h) else (if v1 < (8 : Int) then (Option.bind (gi_gR h v0 9 1) fun t4 => Option.bind (gi_gR h v0 9 2) fun t5 => Option.bind (gi_is h t4 3) fun _ => Option.bind (f_X4_admitAll n t4 t5 v1 h) fun q7 => Option.bind (gi_rg q7.1) fun _ => if q7.1 = 0 then (some (.inr gx_ISE, q7.2)) else (Option.bind (gi_is q7.2 v0 9) fun _ => Option.bind (f_X11_forget v0 q7.2) fun q11 => Option.bind (gi_gR q11 v0 9 2) fun t12 => Option.bind (gi_is q11 t12 3) fun _ => Option.bind (f_X4_rules t12 q11) fun q14 => some (.inl q14, q11))) else (b_X11_bring_10 n   h))
set_option maxRecDepth 100000 in
theorem z_X11_bring {n : Nat} {v0 : Nat} {v1 : Int} {h : gi_H} {res : Int ⊕ String} {h1 : gi_H} (e : f_X11_bring n v0 v1 h = some (res, h1)) : gx_Cw mX11_bring false [.ref v0, .int (gI v1)] (gi_cv h) (gx_oI res) (gi_cv h1) := by
  refine gx_enter (by decide +kernel) rfl (Nat.le_of_ble_eq_true rfl) ?_
  show gx_Z mX11_bring false false 0 0 0 [(0, .ref v0), (1, .int (gI v1))] [] (gi_cv h) (gx_oI res) (gi_cv h1)
  refine gx_iload_n dX11_bring_0 rfl 1 rfl ?_
  refine gx_bE e (fun _ g1 e => ?_)
  refine gx_iE e (fun c2 e => ?_) (fun c2 e => ?_)
  · refine gy_if_lt (tgt := 10) (gi_rgS g1) dX11_bring_1 (by decide) (fun _ => ?_) (fun z => absurd c2 z)
    refine gx_sub (ls2 := []) [] rfl ?_
    exact zb_X11_bring_10  e
  · refine gy_if_lt (tgt := 10) (gi_rgS g1) dX11_bring_1 (by decide) (fun z => absurd z c2) (fun _ => ?_)
    refine gx_iload_n dX11_bring_4 rfl 1 rfl ?_
    refine gy_bipush dX11_bring_5 gcb_8 ?_
    refine gx_iE e (fun c3 e => ?_) (fun c3 e => ?_)
    · refine gy_icmp_lt (tgt := 20) (gi_rgS g1) (by decide) dX11_bring_7 (by decide) (fun _ => ?_) (fun z => absurd c3 z)
      refine gx_aload_n dX11_bring_20 rfl 0 rfl ?_
      refine gx_bE e (fun t4 ht4 e => ?_)
      refine gy_fR ht4 dX11_bring_21 gf_RX11_35_9_1 (by decide) gkN_9_1 gkR_9_1 ?_
      refine gx_aload_n dX11_bring_24 rfl 0 rfl ?_
      refine gx_bE e (fun t5 ht5 e => ?_)
      refine gy_fR ht5 dX11_bring_25 gf_RX11_39_9_2 (by decide) gkN_9_2 gkR_9_2 ?_
      refine gx_iload_n dX11_bring_28 rfl 1 rfl ?_
      refine gx_bE e (fun _ hu6 e => ?_)
      refine gx_bE e (fun q7 hq7 e => ?_)
      refine gx_callV (n := 2) (st := []) (As := [.ref t5, .int (gI v1)]) (b := t4) dX11_bring_29 (z_X4_admitAll hq7) rfl ⟨rfl, gw_cw_X4_admitAll, gw_3, gp_X4_admitAll, ⟨Nat.le_of_ble_eq_true rfl, Nat.le_of_ble_eq_true rfl⟩⟩ (gi_isS hu6) (by decide) gw_1057 gw_1058 gw_1059 rfl ⟨Nat.le_of_ble_eq_true rfl, Nat.le_of_ble_eq_true rfl⟩ (Nat.le_of_ble_eq_true rfl) (gy_k1 (x := .int (gI q7.1)) (kc2 := 0) (ks2 := 0) ⟨rfl, rfl⟩ ?_) gy_kn
      refine gx_bE e (fun _ g8 e => ?_)
      refine gx_iE e (fun c9 e => ?_) (fun c9 e => ?_)
      · refine gy_if_ne (tgt := 45) (gi_rgS g8) dX11_bring_32 (by decide) (fun z => absurd c9 z) (fun _ => ?_)
        cases e
        exact gx_throw rfl gt_116_166_120 rfl dX11_bring_35 dX11_bring_38 dX11_bring_39 dX11_bring_41 dX11_bring_44 (Nat.le_of_ble_eq_true rfl) (Nat.le_of_ble_eq_true rfl) ⟨Nat.le_of_ble_eq_true rfl, Nat.le_of_ble_eq_true rfl⟩
      · refine gy_if_ne (tgt := 45) (gi_rgS g8) dX11_bring_32 (by decide) (fun _ => ?_) (fun z => absurd z c9)
        refine gx_aload_n dX11_bring_45 rfl 0 rfl ?_
        refine gx_bE e (fun _ hu10 e => ?_)
        refine gx_bE e (fun q11 hq11 e => ?_)
        refine gx_callV (n := 0) (st := []) (As := []) (b := v0) dX11_bring_46 (z_X11_forget hq11) rfl ⟨rfl, gw_cw_X11_forget, gw_1, gp_X11_forget, ⟨Nat.le_of_ble_eq_true rfl, Nat.le_of_ble_eq_true rfl⟩⟩ (gi_isS hu10) (by decide) gw_1001 gw_1003 gs_45 rfl ⟨Nat.le_of_ble_eq_true rfl, Nat.le_of_ble_eq_true rfl⟩ (Nat.le_of_ble_eq_true rfl) (gy_k0 (kc2 := 0) (ks2 := 0) ⟨rfl, rfl⟩ ?_) gy_kn
        refine gx_aload_n dX11_bring_49 rfl 0 rfl ?_
        refine gx_bE e (fun t12 ht12 e => ?_)
        refine gy_fR ht12 dX11_bring_50 gf_RX11_39_9_2 (by decide) gkN_9_2 gkR_9_2 ?_
        refine gx_bE e (fun _ hu13 e => ?_)
        refine gx_bE e (fun q14 hq14 e => ?_)
        refine gx_callV (n := 0) (st := []) (As := []) (b := t12) dX11_bring_53 (z_X4_rules hq14) rfl ⟨rfl, gw_cw_X4_rules, gw_3, gp_X4_rules, ⟨Nat.le_of_ble_eq_true rfl, Nat.le_of_ble_eq_true rfl⟩⟩ (gi_isS hu13) (by decide) gw_1063 gw_1064 gw_1065 rfl ⟨Nat.le_of_ble_eq_true rfl, Nat.le_of_ble_eq_true rfl⟩ (Nat.le_of_ble_eq_true rfl) (gy_k1 (x := .int (gI q14)) (kc2 := 0) (ks2 := 0) ⟨rfl, rfl⟩ ?_) gy_kn
        cases e
        exact gx_iret dX11_bring_56 rfl ⟨Nat.le_of_ble_eq_true rfl, Nat.le_of_ble_eq_true rfl⟩ (fun z => z)
    · refine gy_icmp_lt (tgt := 20) (gi_rgS g1) (by decide) dX11_bring_7 (by decide) (fun z => absurd z c3) (fun _ => ?_)
      refine gx_sub (ls2 := []) [] rfl ?_
      exact zb_X11_bring_10  e
/-! L_bring  -/
set_option maxRecDepth 100000 in
def f_L_bring (n : Nat) (v0 : Nat) (v1 : Int) (v2 : Nat) (h : gi_H) : Option (Int × gi_H) :=
  Option.bind (gi_is h v0 9) fun _ => Option.bind (f_X11_bring n v0 v1 h) fun q2 => gx_sm q2.1 (fun t3 => Option.bind (gi_rg t3) fun _ => Option.bind (gi_s2 q2.2 v2 (0 : Int) t3) fun h5 => some ((0 : Int), h5)) (fun t3 => if t3 = gx_IAE then (some ((1 : Int), q2.2)) else (if t3 = gx_ISE then (some ((2 : Int), q2.2)) else (none)))
set_option maxRecDepth 100000 in
theorem z_L_bring {n : Nat} {v0 : Nat} {v1 : Int} {v2 : Nat} {h : gi_H} {res : Int} {h1 : gi_H} (e : f_L_bring n v0 v1 v2 h = some (res, h1)) : gx_Cw mL_bring false [.ref v0, .int (gI v1), .ref v2] (gi_cv h) (.inl (some (.int (gI res)))) (gi_cv h1) := by
  refine gx_enter (by decide +kernel) rfl (Nat.le_of_ble_eq_true rfl) ?_
  show gx_Z mL_bring false false 0 0 0 [(0, .ref v0), (1, .int (gI v1)), (2, .ref v2)] [] (gi_cv h) (.inl (some (.int (gI res)))) (gi_cv h1)
  refine gx_aload_n dL_bring_0 rfl 2 rfl ?_
  refine gy_iconst dL_bring_1 ?_
  refine gx_aload_n dL_bring_2 rfl 0 rfl ?_
  refine gx_iload_n dL_bring_3 rfl 1 rfl ?_
  refine gx_bE e (fun _ hu1 e => ?_)
  refine gx_bE e (fun q2 hq2 e => ?_)
  refine gx_smE e (fun t3 ht3 e => ?_) (fun t3 ht3 e => ?_)
  · have zq2 := z_X11_bring hq2
    rw [ht3] at zq2
    refine gx_callV (n := 1) (st := [.int (gI (0 : Int)), .ref v2]) (As := [.int (gI v1)]) (b := v0) dL_bring_4 zq2 rfl ⟨rfl, gw_cw_X11_bring, gw_1, gp_X11_bring, ⟨Nat.le_of_ble_eq_true rfl, Nat.le_of_ble_eq_true rfl⟩⟩ (gi_isS hu1) (by decide) gw_1052 gw_1053 gw_1054 rfl ⟨Nat.le_of_ble_eq_true rfl, Nat.le_of_ble_eq_true rfl⟩ (Nat.le_of_ble_eq_true rfl) (gy_k1 (x := .int (gI t3)) (kc2 := 1) (ks2 := 6) ⟨rfl, rfl⟩ ?_) gy_kn
    refine gx_bE e (fun _ g4 e => ?_)
    refine gy_i2l (gi_rgS g4) dL_bring_7 ?_
    refine gx_bE e (fun h5 hh5 e => ?_)
    refine gy_t2 hh5 dL_bring_8 ?_
    refine gx_goto (tgt := 18) dL_bring_9 (by decide) ?_
    refine gy_iconst dL_bring_18 ?_
    cases e
    exact gx_iret dL_bring_19 rfl ⟨Nat.le_of_ble_eq_true rfl, Nat.le_of_ble_eq_true rfl⟩ (fun z => z)
  · have zq2 := z_X11_bring hq2
    rw [ht3] at zq2
    refine gx_callV (n := 1) (st := [.int (gI (0 : Int)), .ref v2]) (As := [.int (gI v1)]) (b := v0) dL_bring_4 zq2 rfl ⟨rfl, gw_cw_X11_bring, gw_1, gp_X11_bring, ⟨Nat.le_of_ble_eq_true rfl, Nat.le_of_ble_eq_true rfl⟩⟩ (gi_isS hu1) (by decide) gw_1052 gw_1053 gw_1054 rfl ⟨Nat.le_of_ble_eq_true rfl, Nat.le_of_ble_eq_true rfl⟩ (Nat.le_of_ble_eq_true rfl) gy_kN (gy_kE (kc2 := 1) (ks2 := 6) ⟨rfl, rfl⟩ ?_)
    refine gx_iE e (fun c6 e => ?_) (fun c6 e => ?_)
    · rw [c6]
      refine gx_catch (ls2 := [(0, .ref v0), (1, .int (gI v1)), (2, .ref v2)]) [] (x := (0, 9, 12, 13)) rfl (fun z hz => by cases hz) (by decide +kernel) (by decide) gw_836 (by decide +kernel) (Nat.le_of_ble_eq_true rfl) (Or.inl ⟨3, rfl, rfl, dL_bring_12⟩) rfl ?_
      refine gy_iconst dL_bring_13 ?_
      cases e
      exact gx_iret dL_bring_14 rfl ⟨Nat.le_of_ble_eq_true rfl, Nat.le_of_ble_eq_true rfl⟩ (fun z => z)
    refine gx_iE e (fun c7 e => ?_) (fun c7 e => ?_)
    · rw [c7]
      refine gx_catch (ls2 := [(0, .ref v0), (1, .int (gI v1)), (2, .ref v2)]) [(0, 9, 12, 13)] (x := (0, 9, 15, 15)) rfl (by refine List.forall_mem_cons.mpr ⟨⟨by decide, "java/lang/IllegalArgumentException", gw_836, by decide +kernel⟩, ?_⟩;  exact fun z hz => absurd hz List.not_mem_nil) (by decide +kernel) (by decide) gw_837 (by decide +kernel) (Nat.le_of_ble_eq_true rfl) (Or.inl ⟨3, rfl, rfl, dL_bring_15⟩) rfl ?_
      refine gy_iconst dL_bring_16 ?_
      cases e
      exact gx_iret dL_bring_17 rfl ⟨Nat.le_of_ble_eq_true rfl, Nat.le_of_ble_eq_true rfl⟩ (fun z => z)
    cases e
/-! X12_brings  -/
set_option maxRecDepth 100000 in
def b_X12_brings_64 (n : Nat) (r12 : Nat → Int → Int → Int → gi_H → Option (gi_H)) (v0 : Nat) (v1 : Int) (v2 : Int) (v3 : Int) (s0 : Nat) (s1 : Int) (s2 : Int) (h : gi_H) : Option (gi_H) :=
  Option.bind (gi_s1 h s0 s1 s2) fun h14 => gx_nm (v3 + (1 : Int)) fun t15 => r12 v0 v1 v2 t15 h14
set_option maxRecDepth 100000 in
theorem zb_X12_brings_64 {al : Bool} {n : Nat} {r12 : Nat → Int → Int → Int → gi_H → Option (gi_H)} {h1 : gi_H} (hr12 : ∀ (x0 : Nat) (x1 : Int) (x2 : Int) (x3 : Int) (hh : gi_H), r12 x0 x1 x2 x3 hh = some h1 → gx_Z mX12_brings al al 0 0 12 [(0, .ref x0), (1, .int (gI x1)), (2, .int (gI x2)), (3, .int (gI x3))] [] (gi_cv hh) (.inl none) (gi_cv h1)) {v0 : Nat} {v1 : Int} {v2 : Int} {v3 : Int} {s0 : Nat} {s1 : Int} {s2 : Int} {h : gi_H} (e : b_X12_brings_64 n r12 v0 v1 v2 v3 s0 s1 s2 h = some h1) : gx_Z mX12_brings al al 0 0 64 [(0, .ref v0), (1, .int (gI v1)), (2, .int (gI v2)), (3, .int (gI v3))] [.int (gI s2), .int (gI s1), .ref s0] (gi_cv h) (.inl none) (gi_cv h1) := by
  refine gx_bE e (fun h14 hh14 e => ?_)
  refine gy_t1 hh14 dX12_brings_64 ?_
  refine gx_nE e (fun t15 ht15 e => ?_)
  refine gy_iinc (v := t15) (ls2 := [(3, .int (gI t15)), (0, .ref v0), (1, .int (gI v1)), (2, .int (gI v2))]) dX12_brings_65 3 rfl ht15 (Nat.le_of_ble_eq_true rfl) rfl ?_
  refine gx_goto (tgt := 12) dX12_brings_68 (by decide) ?_
  refine gx_sub (ls2 := [(0, .ref v0), (1, .int (gI v1)), (2, .int (gI v2)), (3, .int (gI t15))]) [1, 2, 3, 0] rfl ?_
  exact hr12 _ _ _ _ _ e
set_option maxRecDepth 100000 in
def b_X12_brings_12 (n : Nat) (r12 : Nat → Int → Int → Int → gi_H → Option (gi_H)) (v0 : Nat) (v1 : Int) (v2 : Int) (v3 : Int)  (h : gi_H) : Option (gi_H) :=
  Option.bind (gi_gI h v0 10 13) fun t4 => Option.bind (gi_rg v3) fun _ => Option.bind (gi_rg t4) fun _ => if t4 ≤ v3 then (some h) else (Option.bind (gi_gR h v0 10 7) fun t8 => Option.bind (gi_aI h 1 t8 (((24 : Int) * v1) + v3)) fun t9 => Option.bind (gi_gR h v0 10 12) fun t10 => Option.bind (f_X12_isName t9 h) fun q11 => Option.bind (gi_rg q11) fun _ => if q11 = 0 then (b_X12_brings_64 n r12 v0 v1 v2 v3 t10 v3 t9 h) else (Option.bind (gi_dg ((t9 - (65 : Int)) + v2) (8 : Int)) fun _ => b_X12_brings_64 n r12 v0 v1 v2 v3 t10 v3 ((65 : Int) + (((t9 - (65 : Int)) + v2) % (8 : Int))) h))
set_option maxRecDepth 100000 in
theorem zb_X12_brings_12 {al : Bool} {n : Nat} {r12 : Nat → Int → Int → Int → gi_H → Option (gi_H)} {h1 : gi_H} (hr12 : ∀ (x0 : Nat) (x1 : Int) (x2 : Int) (x3 : Int) (hh : gi_H), r12 x0 x1 x2 x3 hh = some h1 → gx_Z mX12_brings al al 0 0 12 [(0, .ref x0), (1, .int (gI x1)), (2, .int (gI x2)), (3, .int (gI x3))] [] (gi_cv hh) (.inl none) (gi_cv h1)) {v0 : Nat} {v1 : Int} {v2 : Int} {v3 : Int}  {h : gi_H} (e : b_X12_brings_12 n r12 v0 v1 v2 v3 h = some h1) : gx_Z mX12_brings al al 0 0 12 [(0, .ref v0), (1, .int (gI v1)), (2, .int (gI v2)), (3, .int (gI v3))] [] (gi_cv h) (.inl none) (gi_cv h1) := by
  refine gx_iload_n dX12_brings_12 rfl 3 rfl ?_
  refine gx_aload_n dX12_brings_13 rfl 0 rfl ?_
  refine gx_bE e (fun t4 ht4 e => ?_)
  refine gy_fI ht4 dX12_brings_14 gf_RX12_128_10_13 (by decide) gkN_10_13 gkR_10_13 ?_
  refine gx_bE e (fun _ g5 e => ?_)
  refine gx_bE e (fun _ g6 e => ?_)
  refine gx_iE e (fun c7 e => ?_) (fun c7 e => ?_)
  · refine gy_icmp_ge (tgt := 71) (gi_rgS g5) (gi_rgS g6) dX12_brings_17 (by decide) (fun _ => ?_) (fun z => absurd c7 z)
    cases e
    exact gx_vret dX12_brings_71 rfl ⟨Nat.le_of_ble_eq_true rfl, Nat.le_of_ble_eq_true rfl⟩ (fun z => z)
  · refine gy_icmp_ge (tgt := 71) (gi_rgS g5) (gi_rgS g6) dX12_brings_17 (by decide) (fun z => absurd z c7) (fun _ => ?_)
    refine gx_aload_n dX12_brings_20 rfl 0 rfl ?_
    refine gx_bE e (fun t8 ht8 e => ?_)
    refine gy_fR ht8 dX12_brings_21 gf_RX12_31_10_7 (by decide) gkN_10_7 gkR_10_7 ?_
    refine gy_bipush dX12_brings_24 gcb_24 ?_
    refine gx_iload_n dX12_brings_26 rfl 1 rfl ?_
    refine gy_imul dX12_brings_27 ?_
    refine gx_iload_n dX12_brings_28 rfl 3 rfl ?_
    refine gy_iadd dX12_brings_29 ?_
    refine gx_bE e (fun t9 ht9 e => ?_)
    refine gy_l1 ht9 dX12_brings_30 ?_
    refine gx_istore (ls2 := [(4, .int (gI t9)), (0, .ref v0), (1, .int (gI v1)), (2, .int (gI v2)), (3, .int (gI v3))]) dX12_brings_31 (Nat.le_of_ble_eq_true rfl) rfl ?_
    refine gx_aload_n dX12_brings_33 rfl 1 rfl ?_
    refine gx_bE e (fun t10 ht10 e => ?_)
    refine gy_fR ht10 dX12_brings_34 gf_RX12_43_10_12 (by decide) gkN_10_12 gkR_10_12 ?_
    refine gx_iload_n dX12_brings_37 rfl 4 rfl ?_
    refine gx_iload dX12_brings_38 0 rfl ?_
    refine gx_bE e (fun q11 hq11 e => ?_)
    refine gx_callS (n := 1) (st := [.int (gI v3), .ref t10]) (As := [.int (gI t9)]) dX12_brings_40 (z_X12_isName hq11) rfl ⟨rfl, gw_cw_X12_isName, gw_14, gp_X12_isName, ⟨Nat.le_of_ble_eq_true rfl, Nat.le_of_ble_eq_true rfl⟩⟩ gw_1474 gw_1475 ⟨Nat.le_of_ble_eq_true rfl, Nat.le_of_ble_eq_true rfl⟩ (Nat.le_of_ble_eq_true rfl) (gy_k1 (x := .int (gI q11)) (kc2 := 0) (ks2 := 0) ⟨rfl, rfl⟩ ?_) gy_kn
    refine gx_bE e (fun _ g12 e => ?_)
    refine gx_iE e (fun c13 e => ?_) (fun c13 e => ?_)
    · refine gy_if_eq (tgt := 62) (gi_rgS g12) dX12_brings_43 (by decide) (fun _ => ?_) (fun z => absurd c13 z)
      refine gx_iload dX12_brings_62 0 rfl ?_
      refine gx_sub (ls2 := [(0, .ref v0), (1, .int (gI v1)), (2, .int (gI v2)), (3, .int (gI v3))]) [1, 2, 3, 4] rfl ?_
      exact zb_X12_brings_64 hr12 e
    · refine gy_if_eq (tgt := 62) (gi_rgS g12) dX12_brings_43 (by decide) (fun z => absurd z c13) (fun _ => ?_)
      refine gy_bipush dX12_brings_46 gcb_65 ?_
      refine gx_iload dX12_brings_48 0 rfl ?_
      refine gy_bipush dX12_brings_50 gcb_65 ?_
      refine gy_isub dX12_brings_52 ?_
      refine gx_iload_n dX12_brings_53 rfl 3 rfl ?_
      refine gy_iadd dX12_brings_54 ?_
      refine gy_bipush dX12_brings_55 gcb_8 ?_
      refine gx_bE e (fun _ hu16 e => ?_)
      refine gy_irem hu16 dX12_brings_57 ?_
      refine gy_iadd dX12_brings_58 ?_
      refine gx_goto (tgt := 64) dX12_brings_59 (by decide) ?_
      refine gx_sub (ls2 := [(0, .ref v0), (1, .int (gI v1)), (2, .int (gI v2)), (3, .int (gI v3))]) [1, 2, 3, 4] rfl ?_
      exact zb_X12_brings_64 hr12 e
def l_X12_brings_12 (n : Nat)  : Nat → Nat → Int → Int → Int → gi_H → Option (gi_H)
  | 0, _, _, _, _, _ => none
  | k + 1, v0, v1, v2, v3, h => b_X12_brings_12 n  (l_X12_brings_12 n  k) v0 v1 v2 v3 h
theorem zl_X12_brings_12 {al : Bool} {n : Nat}  {h1 : gi_H}  : ∀ (k : Nat) (v0 : Nat) (v1 : Int) (v2 : Int) (v3 : Int) (h : gi_H), l_X12_brings_12 n  k v0 v1 v2 v3 h = some h1 → gx_Z mX12_brings al al 0 0 12 [(0, .ref v0), (1, .int (gI v1)), (2, .int (gI v2)), (3, .int (gI v3))] [] (gi_cv h) (.inl none) (gi_cv h1)
  | 0, _, _, _, _, _, e => gx_0E e
  | k + 1, _, _, _, _, _, e => zb_X12_brings_12 (n := n)  (zl_X12_brings_12  k) e
set_option maxRecDepth 100000 in
def f_X12_brings (n : Nat) (v0 : Nat) (v1 : Int) (v2 : Int) (h : gi_H) : Option (gi_H) :=
  Option.bind (gi_gR h v0 10 6) fun t1 => Option.bind (gi_aI h 1 t1 v1) fun t2 => Option.bind (gi_pI h v0 10 13 t2) fun h3 => l_X12_brings_12 n  n v0 v1 v2 (0 : Int) h3
set_option maxRecDepth 100000 in
theorem z_X12_brings {al : Bool} {n : Nat} {v0 : Nat} {v1 : Int} {v2 : Int} {h : gi_H} {h1 : gi_H} (e : f_X12_brings n v0 v1 v2 h = some h1) : gx_Cw mX12_brings al [.ref v0, .int (gI v1), .int (gI v2)] (gi_cv h) (.inl none) (gi_cv h1) := by
  refine gx_enter (by decide +kernel) rfl (Nat.le_of_ble_eq_true rfl) ?_
  show gx_Z mX12_brings al al 0 0 0 [(0, .ref v0), (1, .int (gI v1)), (2, .int (gI v2))] [] (gi_cv h) (.inl none) (gi_cv h1)
  refine gx_aload_n dX12_brings_0 rfl 0 rfl ?_
  refine gx_aload_n dX12_brings_1 rfl 0 rfl ?_
  refine gx_bE e (fun t1 ht1 e => ?_)
  refine gy_fR ht1 dX12_brings_2 gf_RX12_28_10_6 (by decide) gkN_10_6 gkR_10_6 ?_
  refine gx_iload_n dX12_brings_5 rfl 1 rfl ?_
  refine gx_bE e (fun t2 ht2 e => ?_)
  refine gy_l1 ht2 dX12_brings_6 ?_
  refine gx_bE e (fun h3 hh3 e => ?_)
  refine gy_qI hh3 dX12_brings_7 gf_RX12_128_10_13 (by decide) gkN_10_13 rfl (Or.inl rfl) ?_
  refine gy_iconst dX12_brings_10 ?_
  refine gx_istore_n (ls2 := [(3, .int (gI (0 : Int))), (0, .ref v0), (1, .int (gI v1)), (2, .int (gI v2))]) dX12_brings_11 rfl (Nat.le_of_ble_eq_true rfl) rfl ?_
  refine gx_sub (ls2 := [(0, .ref v0), (1, .int (gI v1)), (2, .int (gI v2)), (3, .int (gI (0 : Int)))]) [1, 2, 3, 0] rfl ?_
  exact zl_X12_brings_12  n _ _ _ _ _ e
/-! X12_bringsAll  -/
set_option maxRecDepth 100000 in
def b_X12_bringsAll_129 (n : Nat)  (v0 : Nat) (v4 : Int) (s0 : Nat) (s1 : Int) (s2 : Int) (h : gi_H) : Option (Int × gi_H) :=
  Option.bind (gi_s1 h s0 s1 s2) fun h22 => Option.bind (gi_is h22 v0 10) fun _ => Option.bind (f_X12_changed v0 h22) fun q24 => Option.bind (gi_zo v4) fun _ => some (v4, q24)
set_option maxRecDepth 100000 in
theorem zb_X12_bringsAll_129 {al : Bool} {n : Nat}  {res : Int} {h1 : gi_H}  {v0 : Nat} {v4 : Int} {s0 : Nat} {s1 : Int} {s2 : Int} {h : gi_H} (e : b_X12_bringsAll_129 n v0 v4 s0 s1 s2 h = some (res, h1)) : gx_Z mX12_bringsAll al al 0 0 129 [(0, .ref v0), (4, .int (gI v4))] [.int (gI s2), .int (gI s1), .ref s0] (gi_cv h) (.inl (some (.int (gI res)))) (gi_cv h1) := by
  refine gx_bE e (fun h22 hh22 e => ?_)
  refine gy_t1 hh22 dX12_bringsAll_129 ?_
  refine gx_aload_n dX12_bringsAll_130 rfl 0 rfl ?_
  refine gx_bE e (fun _ hu23 e => ?_)
  refine gx_bE e (fun q24 hq24 e => ?_)
  refine gx_callV (n := 0) (st := []) (As := []) (b := v0) dX12_bringsAll_131 (z_X12_changed hq24) rfl ⟨rfl, gw_cw_X12_changed, gw_14, gp_X12_changed, ⟨Nat.le_of_ble_eq_true rfl, Nat.le_of_ble_eq_true rfl⟩⟩ (gi_isS hu23) (by decide) gw_1528 gw_1530 gs_67 rfl ⟨Nat.le_of_ble_eq_true rfl, Nat.le_of_ble_eq_true rfl⟩ (Nat.le_of_ble_eq_true rfl) (gy_k0 (kc2 := 0) (ks2 := 0) ⟨rfl, rfl⟩ ?_) gy_kn
  refine gx_iload dX12_bringsAll_134 1 rfl ?_
  refine gx_bE e (fun _ hu25 e => ?_)
  cases e
  exact gx_zret (gi_zoS hu25) dX12_bringsAll_136 rfl ⟨Nat.le_of_ble_eq_true rfl, Nat.le_of_ble_eq_true rfl⟩ (fun z => z)
set_option maxRecDepth 100000 in
def b_X12_bringsAll_102 (n : Nat)  (v0 : Nat) (v3 : Int) (v4 : Int) (s0 : Nat) (s1 : Int) (s2 : Int) (h : gi_H) : Option (Int × gi_H) :=
  Option.bind (gi_s1 h s0 s1 s2) fun h17 => Option.bind (gi_gR h17 v0 10 3) fun t18 => Option.bind (gi_gI h17 v0 10 9) fun t19 => Option.bind (gi_rg v4) fun _ => if v4 = 0 then (b_X12_bringsAll_129 n  v0 v4 t18 t19 v3 h17) else (Option.bind (gi_gR h17 v0 10 3) fun t26 => Option.bind (gi_gI h17 v0 10 9) fun t27 => Option.bind (gi_aI h17 1 t26 t27) fun t28 => b_X12_bringsAll_129 n  v0 v4 t18 t19 t28 h17)
set_option maxRecDepth 100000 in
theorem zb_X12_bringsAll_102 {al : Bool} {n : Nat}  {res : Int} {h1 : gi_H}  {v0 : Nat} {v3 : Int} {v4 : Int} {s0 : Nat} {s1 : Int} {s2 : Int} {h : gi_H} (e : b_X12_bringsAll_102 n v0 v3 v4 s0 s1 s2 h = some (res, h1)) : gx_Z mX12_bringsAll al al 0 0 102 [(0, .ref v0), (3, .int (gI v3)), (4, .int (gI v4))] [.int (gI s2), .int (gI s1), .ref s0] (gi_cv h) (.inl (some (.int (gI res)))) (gi_cv h1) := by
  refine gx_bE e (fun h17 hh17 e => ?_)
  refine gy_t1 hh17 dX12_bringsAll_102 ?_
  refine gx_aload_n dX12_bringsAll_103 rfl 0 rfl ?_
  refine gx_bE e (fun t18 ht18 e => ?_)
  refine gy_fR ht18 dX12_bringsAll_104 gf_RX12_19_10_3 (by decide) gkN_10_3 gkR_10_3 ?_
  refine gx_aload_n dX12_bringsAll_107 rfl 0 rfl ?_
  refine gx_bE e (fun t19 ht19 e => ?_)
  refine gy_fI ht19 dX12_bringsAll_108 gf_RX12_139_10_9 (by decide) gkN_10_9 gkR_10_9 ?_
  refine gx_iload dX12_bringsAll_111 2 rfl ?_
  refine gx_bE e (fun _ g20 e => ?_)
  refine gx_iE e (fun c21 e => ?_) (fun c21 e => ?_)
  · refine gy_if_eq (tgt := 128) (gi_rgS g20) dX12_bringsAll_113 (by decide) (fun _ => ?_) (fun z => absurd c21 z)
    refine gx_iload_n dX12_bringsAll_128 rfl 1 rfl ?_
    refine gx_sub (ls2 := [(0, .ref v0), (4, .int (gI v4))]) [0, 2] rfl ?_
    exact zb_X12_bringsAll_129  e
  · refine gy_if_eq (tgt := 128) (gi_rgS g20) dX12_bringsAll_113 (by decide) (fun z => absurd z c21) (fun _ => ?_)
    refine gx_aload_n dX12_bringsAll_116 rfl 0 rfl ?_
    refine gx_bE e (fun t26 ht26 e => ?_)
    refine gy_fR ht26 dX12_bringsAll_117 gf_RX12_19_10_3 (by decide) gkN_10_3 gkR_10_3 ?_
    refine gx_aload_n dX12_bringsAll_120 rfl 0 rfl ?_
    refine gx_bE e (fun t27 ht27 e => ?_)
    refine gy_fI ht27 dX12_bringsAll_121 gf_RX12_139_10_9 (by decide) gkN_10_9 gkR_10_9 ?_
    refine gx_bE e (fun t28 ht28 e => ?_)
    refine gy_l1 ht28 dX12_bringsAll_124 ?_
    refine gx_goto (tgt := 129) dX12_bringsAll_125 (by decide) ?_
    refine gx_sub (ls2 := [(0, .ref v0), (4, .int (gI v4))]) [0, 2] rfl ?_
    exact zb_X12_bringsAll_129  e
set_option maxRecDepth 100000 in
def b_X12_bringsAll_76 (n : Nat)  (v0 : Nat) (v2 : Int) (v3 : Int) (v4 : Int)  (h : gi_H) : Option (Int × gi_H) :=
  Option.bind (gi_gR h v0 10 4) fun t13 => Option.bind (gi_gI h v0 10 9) fun t14 => Option.bind (gi_rg v4) fun _ => if v4 = 0 then (b_X12_bringsAll_102 n  v0 v3 v4 t13 t14 v2 h) else (Option.bind (gi_gR h v0 10 4) fun t29 => Option.bind (gi_gI h v0 10 9) fun t30 => Option.bind (gi_aI h 1 t29 t30) fun t31 => b_X12_bringsAll_102 n  v0 v3 v4 t13 t14 t31 h)
set_option maxRecDepth 100000 in
theorem zb_X12_bringsAll_76 {al : Bool} {n : Nat}  {res : Int} {h1 : gi_H}  {v0 : Nat} {v2 : Int} {v3 : Int} {v4 : Int}  {h : gi_H} (e : b_X12_bringsAll_76 n v0 v2 v3 v4 h = some (res, h1)) : gx_Z mX12_bringsAll al al 0 0 76 [(0, .ref v0), (2, .int (gI v2)), (3, .int (gI v3)), (4, .int (gI v4))] [] (gi_cv h) (.inl (some (.int (gI res)))) (gi_cv h1) := by
  refine gx_aload_n dX12_bringsAll_76 rfl 0 rfl ?_
  refine gx_bE e (fun t13 ht13 e => ?_)
  refine gy_fR ht13 dX12_bringsAll_77 gf_RX12_22_10_4 (by decide) gkN_10_4 gkR_10_4 ?_
  refine gx_aload_n dX12_bringsAll_80 rfl 0 rfl ?_
  refine gx_bE e (fun t14 ht14 e => ?_)
  refine gy_fI ht14 dX12_bringsAll_81 gf_RX12_139_10_9 (by decide) gkN_10_9 gkR_10_9 ?_
  refine gx_iload dX12_bringsAll_84 3 rfl ?_
  refine gx_bE e (fun _ g15 e => ?_)
  refine gx_iE e (fun c16 e => ?_) (fun c16 e => ?_)
  · refine gy_if_eq (tgt := 101) (gi_rgS g15) dX12_bringsAll_86 (by decide) (fun _ => ?_) (fun z => absurd c16 z)
    refine gx_iload_n dX12_bringsAll_101 rfl 1 rfl ?_
    refine gx_sub (ls2 := [(0, .ref v0), (3, .int (gI v3)), (4, .int (gI v4))]) [0, 2, 3] rfl ?_
    exact zb_X12_bringsAll_102  e
  · refine gy_if_eq (tgt := 101) (gi_rgS g15) dX12_bringsAll_86 (by decide) (fun z => absurd z c16) (fun _ => ?_)
    refine gx_aload_n dX12_bringsAll_89 rfl 0 rfl ?_
    refine gx_bE e (fun t29 ht29 e => ?_)
    refine gy_fR ht29 dX12_bringsAll_90 gf_RX12_22_10_4 (by decide) gkN_10_4 gkR_10_4 ?_
    refine gx_aload_n dX12_bringsAll_93 rfl 0 rfl ?_
    refine gx_bE e (fun t30 ht30 e => ?_)
    refine gy_fI ht30 dX12_bringsAll_94 gf_RX12_139_10_9 (by decide) gkN_10_9 gkR_10_9 ?_
    refine gx_bE e (fun t31 ht31 e => ?_)
    refine gy_l1 ht31 dX12_bringsAll_97 ?_
    refine gx_goto (tgt := 102) dX12_bringsAll_98 (by decide) ?_
    refine gx_sub (ls2 := [(0, .ref v0), (3, .int (gI v3)), (4, .int (gI v4))]) [0, 2, 3] rfl ?_
    exact zb_X12_bringsAll_102  e
set_option maxRecDepth 100000 in
def b_X12_bringsAll_26 (n : Nat) (r26 : Nat → Int → Int → Int → Int → Int → gi_H → Option (Int × gi_H)) (v0 : Nat) (v1 : Int) (v2 : Int) (v3 : Int) (v4 : Int) (v5 : Int)  (h : gi_H) : Option (Int × gi_H) :=
  Option.bind (gi_gR h v0 10 4) fun t7 => Option.bind (gi_gI h v0 10 9) fun t8 => Option.bind (gi_aI h 1 t7 ((1 : Int) - t8)) fun t9 => Option.bind (gi_rg v5) fun _ => Option.bind (gi_rg t9) fun _ => if t9 ≤ v5 then (b_X12_bringsAll_76 n  v0 v2 v3 v4 h) else (Option.bind (gi_rg v4) fun _ => if v4 = 0 then (b_X12_bringsAll_76 n  v0 v2 v3 v4 h) else (Option.bind (gi_gI h v0 10 9) fun t34 => Option.bind (gi_is h v0 10) fun _ => Option.bind (f_X12_brings n v0 (((24 : Int) * ((1 : Int) - t34)) + v5) v1 h) fun q36 => Option.bind (gi_is q36 v0 10) fun _ => Option.bind (f_X12_enters n v0 q36) fun q38 => gx_nm (v5 + (1 : Int)) fun t39 => r26 v0 v1 v2 v3 q38.1 t39 q38.2))
set_option maxRecDepth 100000 in
theorem zb_X12_bringsAll_26 {al : Bool} {n : Nat} {r26 : Nat → Int → Int → Int → Int → Int → gi_H → Option (Int × gi_H)} {res : Int} {h1 : gi_H} (hr26 : ∀ (x0 : Nat) (x1 : Int) (x2 : Int) (x3 : Int) (x4 : Int) (x5 : Int) (hh : gi_H), r26 x0 x1 x2 x3 x4 x5 hh = some (res, h1) → gx_Z mX12_bringsAll al al 0 0 26 [(0, .ref x0), (1, .int (gI x1)), (2, .int (gI x2)), (3, .int (gI x3)), (4, .int (gI x4)), (5, .int (gI x5))] [] (gi_cv hh) (.inl (some (.int (gI res)))) (gi_cv h1)) {v0 : Nat} {v1 : Int} {v2 : Int} {v3 : Int} {v4 : Int} {v5 : Int}  {h : gi_H} (e : b_X12_bringsAll_26 n r26 v0 v1 v2 v3 v4 v5 h = some (res, h1)) : gx_Z mX12_bringsAll al al 0 0 26 [(0, .ref v0), (1, .int (gI v1)), (2, .int (gI v2)), (3, .int (gI v3)), (4, .int (gI v4)), (5, .int (gI v5))] [] (gi_cv h) (.inl (some (.int (gI res)))) (gi_cv h1) := by
  refine gx_iload dX12_bringsAll_26 5 rfl ?_
  refine gx_aload_n dX12_bringsAll_28 rfl 0 rfl ?_
  refine gx_bE e (fun t7 ht7 e => ?_)
  refine gy_fR ht7 dX12_bringsAll_29 gf_RX12_22_10_4 (by decide) gkN_10_4 gkR_10_4 ?_
  refine gy_iconst dX12_bringsAll_32 ?_
  refine gx_aload_n dX12_bringsAll_33 rfl 0 rfl ?_
  refine gx_bE e (fun t8 ht8 e => ?_)
  refine gy_fI ht8 dX12_bringsAll_34 gf_RX12_139_10_9 (by decide) gkN_10_9 gkR_10_9 ?_
  refine gy_isub dX12_bringsAll_37 ?_
  refine gx_bE e (fun t9 ht9 e => ?_)
  refine gy_l1 ht9 dX12_bringsAll_38 ?_
  refine gx_bE e (fun _ g10 e => ?_)
  refine gx_bE e (fun _ g11 e => ?_)
  refine gx_iE e (fun c12 e => ?_) (fun c12 e => ?_)
  · refine gy_icmp_ge (tgt := 76) (gi_rgS g10) (gi_rgS g11) dX12_bringsAll_39 (by decide) (fun _ => ?_) (fun z => absurd c12 z)
    refine gx_sub (ls2 := [(0, .ref v0), (2, .int (gI v2)), (3, .int (gI v3)), (4, .int (gI v4))]) [0, 2, 3, 4] rfl ?_
    exact zb_X12_bringsAll_76  e
  · refine gy_icmp_ge (tgt := 76) (gi_rgS g10) (gi_rgS g11) dX12_bringsAll_39 (by decide) (fun z => absurd z c12) (fun _ => ?_)
    refine gx_iload dX12_bringsAll_42 4 rfl ?_
    refine gx_bE e (fun _ g32 e => ?_)
    refine gx_iE e (fun c33 e => ?_) (fun c33 e => ?_)
    · refine gy_if_eq (tgt := 76) (gi_rgS g32) dX12_bringsAll_44 (by decide) (fun _ => ?_) (fun z => absurd c33 z)
      refine gx_sub (ls2 := [(0, .ref v0), (2, .int (gI v2)), (3, .int (gI v3)), (4, .int (gI v4))]) [0, 2, 3, 4] rfl ?_
      exact zb_X12_bringsAll_76  e
    · refine gy_if_eq (tgt := 76) (gi_rgS g32) dX12_bringsAll_44 (by decide) (fun z => absurd z c33) (fun _ => ?_)
      refine gx_aload_n dX12_bringsAll_47 rfl 0 rfl ?_
      refine gy_bipush dX12_bringsAll_48 gcb_24 ?_
      refine gy_iconst dX12_bringsAll_50 ?_
      refine gx_aload_n dX12_bringsAll_51 rfl 0 rfl ?_
      refine gx_bE e (fun t34 ht34 e => ?_)
      refine gy_fI ht34 dX12_bringsAll_52 gf_RX12_139_10_9 (by decide) gkN_10_9 gkR_10_9 ?_
      refine gy_isub dX12_bringsAll_55 ?_
      refine gy_imul dX12_bringsAll_56 ?_
      refine gx_iload dX12_bringsAll_57 5 rfl ?_
      refine gy_iadd dX12_bringsAll_59 ?_
      refine gx_iload_n dX12_bringsAll_60 rfl 1 rfl ?_
      refine gx_bE e (fun _ hu35 e => ?_)
      refine gx_bE e (fun q36 hq36 e => ?_)
      refine gx_callV (n := 2) (st := []) (As := [.int (gI (((24 : Int) * ((1 : Int) - t34)) + v5)), .int (gI v1)]) (b := v0) dX12_bringsAll_61 (z_X12_brings hq36) rfl ⟨rfl, gw_cw_X12_brings, gw_14, gp_X12_brings, ⟨Nat.le_of_ble_eq_true rfl, Nat.le_of_ble_eq_true rfl⟩⟩ (gi_isS hu35) (by decide) gw_1551 gw_1553 gs_69 rfl ⟨Nat.le_of_ble_eq_true rfl, Nat.le_of_ble_eq_true rfl⟩ (Nat.le_of_ble_eq_true rfl) (gy_k0 (kc2 := 0) (ks2 := 0) ⟨rfl, rfl⟩ ?_) gy_kn
      refine gx_aload_n dX12_bringsAll_64 rfl 0 rfl ?_
      refine gx_bE e (fun _ hu37 e => ?_)
      refine gx_bE e (fun q38 hq38 e => ?_)
      refine gx_callV (n := 0) (st := []) (As := []) (b := v0) dX12_bringsAll_65 (z_X12_enters hq38) rfl ⟨rfl, gw_cw_X12_enters, gw_14, gp_X12_enters, ⟨Nat.le_of_ble_eq_true rfl, Nat.le_of_ble_eq_true rfl⟩⟩ (gi_isS hu37) (by decide) gw_1500 gw_1502 gs_60 rfl ⟨Nat.le_of_ble_eq_true rfl, Nat.le_of_ble_eq_true rfl⟩ (Nat.le_of_ble_eq_true rfl) (gy_k1 (x := .int (gI q38.1)) (kc2 := 0) (ks2 := 0) ⟨rfl, rfl⟩ ?_) gy_kn
      refine gx_istore (ls2 := [(4, .int (gI q38.1)), (0, .ref v0), (1, .int (gI v1)), (2, .int (gI v2)), (3, .int (gI v3)), (5, .int (gI v5))]) dX12_bringsAll_68 (Nat.le_of_ble_eq_true rfl) rfl ?_
      refine gx_nE e (fun t39 ht39 e => ?_)
      refine gy_iinc (v := t39) (ls2 := [(5, .int (gI t39)), (4, .int (gI q38.1)), (0, .ref v0), (1, .int (gI v1)), (2, .int (gI v2)), (3, .int (gI v3))]) dX12_bringsAll_70 5 rfl ht39 (Nat.le_of_ble_eq_true rfl) rfl ?_
      refine gx_goto (tgt := 26) dX12_bringsAll_73 (by decide) ?_
      refine gx_sub (ls2 := [(0, .ref v0), (1, .int (gI v1)), (2, .int (gI v2)), (3, .int (gI v3)), (4, .int (gI q38.1)), (5, .int (gI t39))]) [2, 3, 4, 5, 1, 0] rfl ?_
      exact hr26 _ _ _ _ _ _ _ e
def l_X12_bringsAll_26 (n : Nat)  : Nat → Nat → Int → Int → Int → Int → Int → gi_H → Option (Int × gi_H)
  | 0, _, _, _, _, _, _, _ => none
  | k + 1, v0, v1, v2, v3, v4, v5, h => b_X12_bringsAll_26 n  (l_X12_bringsAll_26 n  k) v0 v1 v2 v3 v4 v5 h
theorem zl_X12_bringsAll_26 {al : Bool} {n : Nat}  {res : Int} {h1 : gi_H}  : ∀ (k : Nat) (v0 : Nat) (v1 : Int) (v2 : Int) (v3 : Int) (v4 : Int) (v5 : Int) (h : gi_H), l_X12_bringsAll_26 n  k v0 v1 v2 v3 v4 v5 h = some (res, h1) → gx_Z mX12_bringsAll al al 0 0 26 [(0, .ref v0), (1, .int (gI v1)), (2, .int (gI v2)), (3, .int (gI v3)), (4, .int (gI v4)), (5, .int (gI v5))] [] (gi_cv h) (.inl (some (.int (gI res)))) (gi_cv h1)
  | 0, _, _, _, _, _, _, _, e => gx_0E e
  | k + 1, _, _, _, _, _, _, _, e => zb_X12_bringsAll_26 (n := n)  (zl_X12_bringsAll_26  k) e
set_option maxRecDepth 100000 in
def f_X12_bringsAll (n : Nat) (v0 : Nat) (v1 : Int) (h : gi_H) : Option (Int × gi_H) :=
  Option.bind (gi_gR h v0 10 4) fun t1 => Option.bind (gi_gI h v0 10 9) fun t2 => Option.bind (gi_aI h 1 t1 t2) fun t3 => Option.bind (gi_gR h v0 10 3) fun t4 => Option.bind (gi_gI h v0 10 9) fun t5 => Option.bind (gi_aI h 1 t4 t5) fun t6 => l_X12_bringsAll_26 n  n v0 v1 t3 t6 (1 : Int) (0 : Int) h
set_option maxRecDepth 100000 in
theorem z_X12_bringsAll {al : Bool} {n : Nat} {v0 : Nat} {v1 : Int} {h : gi_H} {res : Int} {h1 : gi_H} (e : f_X12_bringsAll n v0 v1 h = some (res, h1)) : gx_Cw mX12_bringsAll al [.ref v0, .int (gI v1)] (gi_cv h) (.inl (some (.int (gI res)))) (gi_cv h1) := by
  refine gx_enter (by decide +kernel) rfl (Nat.le_of_ble_eq_true rfl) ?_
  show gx_Z mX12_bringsAll al al 0 0 0 [(0, .ref v0), (1, .int (gI v1))] [] (gi_cv h) (.inl (some (.int (gI res)))) (gi_cv h1)
  refine gx_aload_n dX12_bringsAll_0 rfl 0 rfl ?_
  refine gx_bE e (fun t1 ht1 e => ?_)
  refine gy_fR ht1 dX12_bringsAll_1 gf_RX12_22_10_4 (by decide) gkN_10_4 gkR_10_4 ?_
  refine gx_aload_n dX12_bringsAll_4 rfl 0 rfl ?_
  refine gx_bE e (fun t2 ht2 e => ?_)
  refine gy_fI ht2 dX12_bringsAll_5 gf_RX12_139_10_9 (by decide) gkN_10_9 gkR_10_9 ?_
  refine gx_bE e (fun t3 ht3 e => ?_)
  refine gy_l1 ht3 dX12_bringsAll_8 ?_
  refine gx_istore_n (ls2 := [(2, .int (gI t3)), (0, .ref v0), (1, .int (gI v1))]) dX12_bringsAll_9 rfl (Nat.le_of_ble_eq_true rfl) rfl ?_
  refine gx_aload_n dX12_bringsAll_10 rfl 1 rfl ?_
  refine gx_bE e (fun t4 ht4 e => ?_)
  refine gy_fR ht4 dX12_bringsAll_11 gf_RX12_19_10_3 (by decide) gkN_10_3 gkR_10_3 ?_
  refine gx_aload_n dX12_bringsAll_14 rfl 1 rfl ?_
  refine gx_bE e (fun t5 ht5 e => ?_)
  refine gy_fI ht5 dX12_bringsAll_15 gf_RX12_139_10_9 (by decide) gkN_10_9 gkR_10_9 ?_
  refine gx_bE e (fun t6 ht6 e => ?_)
  refine gy_l1 ht6 dX12_bringsAll_18 ?_
  refine gx_istore_n (ls2 := [(3, .int (gI t6)), (2, .int (gI t3)), (0, .ref v0), (1, .int (gI v1))]) dX12_bringsAll_19 rfl (Nat.le_of_ble_eq_true rfl) rfl ?_
  refine gy_iconst dX12_bringsAll_20 ?_
  refine gx_istore (ls2 := [(4, .int (gI (1 : Int))), (3, .int (gI t6)), (2, .int (gI t3)), (0, .ref v0), (1, .int (gI v1))]) dX12_bringsAll_21 (Nat.le_of_ble_eq_true rfl) rfl ?_
  refine gy_iconst dX12_bringsAll_23 ?_
  refine gx_istore (ls2 := [(5, .int (gI (0 : Int))), (4, .int (gI (1 : Int))), (3, .int (gI t6)), (2, .int (gI t3)), (0, .ref v0), (1, .int (gI v1))]) dX12_bringsAll_24 (Nat.le_of_ble_eq_true rfl) rfl ?_
  refine gx_sub (ls2 := [(0, .ref v0), (1, .int (gI v1)), (2, .int (gI t3)), (3, .int (gI t6)), (4, .int (gI (1 : Int))), (5, .int (gI (0 : Int)))]) [4, 5, 3, 2, 1, 0] rfl ?_
  exact zl_X12_bringsAll_26  n _ _ _ _ _ _ _ e
/-! X12_bring  -/
set_option maxRecDepth 100000 in
def b_X12_bring_96 (n : Nat)  (v0 : Nat) (v3 : Int) (v4 : Int)  (h : gi_H) : Option (Int × gi_H) :=
  Option.bind (gi_is h v0 10) fun _ => Option.bind (f_X12_goes v0 v3 v4 (1 : Int) h) fun q15 => Option.bind (gi_rg q15.1) fun _ => if q15.1 = 0 then (some ((0 : Int), q15.2)) else (Option.bind (gi_gR q15.2 v0 10 4) fun t18 => Option.bind (gi_gI q15.2 v0 10 9) fun t19 => Option.bind (gi_aI q15.2 1 t18 ((1 : Int) - t19)) fun t20 => some (t20, q15.2))
set_option maxRecDepth 100000 in
theorem zb_X12_bring_96 {al : Bool} {n : Nat}  {res : Int} {h1 : gi_H}  {v0 : Nat} {v3 : Int} {v4 : Int}  {h : gi_H} (e : b_X12_bring_96 n v0 v3 v4 h = some (res, h1)) : gx_Z mX12_bring al al 0 0 96 [(0, .ref v0), (3, .int (gI v3)), (4, .int (gI v4))] [] (gi_cv h) (.inl (some (.int (gI res)))) (gi_cv h1) := by
  refine gx_aload_n dX12_bring_96 rfl 0 rfl ?_
  refine gx_iload_n dX12_bring_97 rfl 1 rfl ?_
  refine gx_iload dX12_bring_98 2 rfl ?_
  refine gy_iconst dX12_bring_100 ?_
  refine gx_bE e (fun _ hu14 e => ?_)
  refine gx_bE e (fun q15 hq15 e => ?_)
  refine gx_callV (n := 3) (st := []) (As := [.int (gI v3), .int (gI v4), .int (gI (1 : Int))]) (b := v0) dX12_bring_101 (z_X12_goes hq15) rfl ⟨rfl, gw_cw_X12_goes, gw_14, gp_X12_goes, ⟨Nat.le_of_ble_eq_true rfl, Nat.le_of_ble_eq_true rfl⟩⟩ (gi_isS hu14) (by decide) gw_1480 gw_1482 gs_58 rfl ⟨Nat.le_of_ble_eq_true rfl, Nat.le_of_ble_eq_true rfl⟩ (Nat.le_of_ble_eq_true rfl) (gy_k1 (x := .int (gI q15.1)) (kc2 := 0) (ks2 := 0) ⟨rfl, rfl⟩ ?_) gy_kn
  refine gx_bE e (fun _ g16 e => ?_)
  refine gx_iE e (fun c17 e => ?_) (fun c17 e => ?_)
  · refine gy_if_eq (tgt := 121) (gi_rgS g16) dX12_bring_104 (by decide) (fun _ => ?_) (fun z => absurd c17 z)
    refine gy_iconst dX12_bring_121 ?_
    cases e
    exact gx_iret dX12_bring_122 rfl ⟨Nat.le_of_ble_eq_true rfl, Nat.le_of_ble_eq_true rfl⟩ (fun z => z)
  · refine gy_if_eq (tgt := 121) (gi_rgS g16) dX12_bring_104 (by decide) (fun z => absurd z c17) (fun _ => ?_)
    refine gx_aload_n dX12_bring_107 rfl 0 rfl ?_
    refine gx_bE e (fun t18 ht18 e => ?_)
    refine gy_fR ht18 dX12_bring_108 gf_RX12_22_10_4 (by decide) gkN_10_4 gkR_10_4 ?_
    refine gy_iconst dX12_bring_111 ?_
    refine gx_aload_n dX12_bring_112 rfl 0 rfl ?_
    refine gx_bE e (fun t19 ht19 e => ?_)
    refine gy_fI ht19 dX12_bring_113 gf_RX12_139_10_9 (by decide) gkN_10_9 gkR_10_9 ?_
    refine gy_isub dX12_bring_116 ?_
    refine gx_bE e (fun t20 ht20 e => ?_)
    refine gy_l1 ht20 dX12_bring_117 ?_
    refine gx_goto (tgt := 122) dX12_bring_118 (by decide) ?_
    cases e
    exact gx_iret dX12_bring_122 rfl ⟨Nat.le_of_ble_eq_true rfl, Nat.le_of_ble_eq_true rfl⟩ (fun z => z)
set_option maxRecDepth 100000 in
def b_X12_bring_67 (n : Nat) (r67 : Nat → Int → Int → Int → gi_H → Option (Int × gi_H)) (v0 : Nat) (v3 : Int) (v4 : Int) (v5 : Int)  (h : gi_H) : Option (Int × gi_H) :=
  Option.bind (gi_gI h v0 10 13) fun t10 => Option.bind (gi_rg v5) fun _ => Option.bind (gi_rg t10) fun _ => if t10 ≤ v5 then (b_X12_bring_96 n  v0 v3 v4 h) else (Option.bind (gi_gR h v0 10 12) fun t21 => Option.bind (gi_gR h v0 10 40) fun t22 => Option.bind (gi_aI h 1 t22 v5) fun t23 => Option.bind (gi_s1 h t21 v5 t23) fun h24 => gx_nm (v5 + (1 : Int)) fun t25 => r67 v0 v3 v4 t25 h24)
set_option maxRecDepth 100000 in
theorem zb_X12_bring_67 {al : Bool} {n : Nat} {r67 : Nat → Int → Int → Int → gi_H → Option (Int × gi_H)} {res : Int} {h1 : gi_H} (hr67 : ∀ (x0 : Nat) (x3 : Int) (x4 : Int) (x5 : Int) (hh : gi_H), r67 x0 x3 x4 x5 hh = some (res, h1) → gx_Z mX12_bring al al 0 0 67 [(0, .ref x0), (3, .int (gI x3)), (4, .int (gI x4)), (5, .int (gI x5))] [] (gi_cv hh) (.inl (some (.int (gI res)))) (gi_cv h1)) {v0 : Nat} {v3 : Int} {v4 : Int} {v5 : Int}  {h : gi_H} (e : b_X12_bring_67 n r67 v0 v3 v4 v5 h = some (res, h1)) : gx_Z mX12_bring al al 0 0 67 [(0, .ref v0), (3, .int (gI v3)), (4, .int (gI v4)), (5, .int (gI v5))] [] (gi_cv h) (.inl (some (.int (gI res)))) (gi_cv h1) := by
  refine gx_iload dX12_bring_67 3 rfl ?_
  refine gx_aload_n dX12_bring_69 rfl 0 rfl ?_
  refine gx_bE e (fun t10 ht10 e => ?_)
  refine gy_fI ht10 dX12_bring_70 gf_RX12_128_10_13 (by decide) gkN_10_13 gkR_10_13 ?_
  refine gx_bE e (fun _ g11 e => ?_)
  refine gx_bE e (fun _ g12 e => ?_)
  refine gx_iE e (fun c13 e => ?_) (fun c13 e => ?_)
  · refine gy_icmp_ge (tgt := 96) (gi_rgS g11) (gi_rgS g12) dX12_bring_73 (by decide) (fun _ => ?_) (fun z => absurd c13 z)
    refine gx_sub (ls2 := [(0, .ref v0), (3, .int (gI v3)), (4, .int (gI v4))]) [0, 1, 2] rfl ?_
    exact zb_X12_bring_96  e
  · refine gy_icmp_ge (tgt := 96) (gi_rgS g11) (gi_rgS g12) dX12_bring_73 (by decide) (fun z => absurd z c13) (fun _ => ?_)
    refine gx_aload_n dX12_bring_76 rfl 0 rfl ?_
    refine gx_bE e (fun t21 ht21 e => ?_)
    refine gy_fR ht21 dX12_bring_77 gf_RX12_43_10_12 (by decide) gkN_10_12 gkR_10_12 ?_
    refine gx_iload dX12_bring_80 3 rfl ?_
    refine gx_aload_n dX12_bring_82 rfl 0 rfl ?_
    refine gx_bE e (fun t22 ht22 e => ?_)
    refine gy_fR ht22 dX12_bring_83 gf_RX12_92_10_40 (by decide) gkN_10_40 gkR_10_40 ?_
    refine gx_iload dX12_bring_86 3 rfl ?_
    refine gx_bE e (fun t23 ht23 e => ?_)
    refine gy_l1 ht23 dX12_bring_88 ?_
    refine gx_bE e (fun h24 hh24 e => ?_)
    refine gy_t1 hh24 dX12_bring_89 ?_
    refine gx_nE e (fun t25 ht25 e => ?_)
    refine gy_iinc (v := t25) (ls2 := [(5, .int (gI t25)), (0, .ref v0), (3, .int (gI v3)), (4, .int (gI v4))]) dX12_bring_90 3 rfl ht25 (Nat.le_of_ble_eq_true rfl) rfl ?_
    refine gx_goto (tgt := 67) dX12_bring_93 (by decide) ?_
    refine gx_sub (ls2 := [(0, .ref v0), (3, .int (gI v3)), (4, .int (gI v4)), (5, .int (gI t25))]) [1, 2, 3, 0] rfl ?_
    exact hr67 _ _ _ _ _ e
def l_X12_bring_67 (n : Nat)  : Nat → Nat → Int → Int → Int → gi_H → Option (Int × gi_H)
  | 0, _, _, _, _, _ => none
  | k + 1, v0, v3, v4, v5, h => b_X12_bring_67 n  (l_X12_bring_67 n  k) v0 v3 v4 v5 h
theorem zl_X12_bring_67 {al : Bool} {n : Nat}  {res : Int} {h1 : gi_H}  : ∀ (k : Nat) (v0 : Nat) (v3 : Int) (v4 : Int) (v5 : Int) (h : gi_H), l_X12_bring_67 n  k v0 v3 v4 v5 h = some (res, h1) → gx_Z mX12_bring al al 0 0 67 [(0, .ref v0), (3, .int (gI v3)), (4, .int (gI v4)), (5, .int (gI v5))] [] (gi_cv h) (.inl (some (.int (gI res)))) (gi_cv h1)
  | 0, _, _, _, _, _, e => gx_0E e
  | k + 1, _, _, _, _, _, e => zb_X12_bring_67 (n := n)  (zl_X12_bring_67  k) e
set_option maxRecDepth 100000 in
def b_X12_bring_57 (n : Nat)  (v0 : Nat) (v2 : Int) (v3 : Int) (s0 : Int) (h : gi_H) : Option (Int × gi_H) :=
  Option.bind (gi_pI h v0 10 13 v2) fun h9 => l_X12_bring_67 n  n v0 v3 s0 (0 : Int) h9
set_option maxRecDepth 100000 in
theorem zb_X12_bring_57 {al : Bool} {n : Nat}  {res : Int} {h1 : gi_H}  {v0 : Nat} {v2 : Int} {v3 : Int} {s0 : Int} {h : gi_H} (e : b_X12_bring_57 n v0 v2 v3 s0 h = some (res, h1)) : gx_Z mX12_bring al al 0 0 57 [(0, .ref v0), (2, .int (gI v2)), (3, .int (gI v3))] [.int (gI s0)] (gi_cv h) (.inl (some (.int (gI res)))) (gi_cv h1) := by
  refine gx_istore (ls2 := [(4, .int (gI s0)), (0, .ref v0), (2, .int (gI v2)), (3, .int (gI v3))]) dX12_bring_57 (Nat.le_of_ble_eq_true rfl) rfl ?_
  refine gx_aload_n dX12_bring_59 rfl 1 rfl ?_
  refine gx_iload_n dX12_bring_60 rfl 2 rfl ?_
  refine gx_bE e (fun h9 hh9 e => ?_)
  refine gy_qI hh9 dX12_bring_61 gf_RX12_128_10_13 (by decide) gkN_10_13 rfl (Or.inl rfl) ?_
  refine gy_iconst dX12_bring_64 ?_
  refine gx_istore (ls2 := [(5, .int (gI (0 : Int))), (4, .int (gI s0)), (0, .ref v0), (2, .int (gI v2)), (3, .int (gI v3))]) dX12_bring_65 (Nat.le_of_ble_eq_true rfl) rfl ?_
  refine gx_sub (ls2 := [(0, .ref v0), (3, .int (gI v3)), (4, .int (gI s0)), (5, .int (gI (0 : Int)))]) [2, 4, 1, 0] rfl ?_
  exact zl_X12_bring_67  n _ _ _ _ _ e
set_option maxRecDepth 100000 in
def b_X12_bring_56 (n : Nat)  (v0 : Nat) (v2 : Int) (v3 : Int)  (h : gi_H) : Option (Int × gi_H) :=
  b_X12_bring_57 n  v0 v2 v3 (0 : Int) h
set_option maxRecDepth 100000 in
theorem zb_X12_bring_56 {al : Bool} {n : Nat}  {res : Int} {h1 : gi_H}  {v0 : Nat} {v2 : Int} {v3 : Int}  {h : gi_H} (e : b_X12_bring_56 n v0 v2 v3 h = some (res, h1)) : gx_Z mX12_bring al al 0 0 56 [(0, .ref v0), (2, .int (gI v2)), (3, .int (gI v3))] [] (gi_cv h) (.inl (some (.int (gI res)))) (gi_cv h1) := by
  refine gy_iconst dX12_bring_56 ?_
  exact zb_X12_bring_57  e
set_option maxRecDepth 100000 in
def b_X12_bring_33 (n : Nat)  (v0 : Nat) (v1 : Int) (v2 : Int)  (h : gi_H) : Option (Int × gi_H) :=
  Option.bind (f_X12_isBelow v1 (8 : Int) h) fun q6 => Option.bind (gi_rg q6) fun _ => if q6 = 0 then (b_X12_bring_56 n  v0 v2 q6 h) else (Option.bind (gi_is h v0 10) fun _ => Option.bind (f_X12_bringsAll n v0 v1 h) fun q27 => Option.bind (gi_rg q27.1) fun _ => if q27.1 = 0 then (b_X12_bring_56 n  v0 v2 q6 q27.2) else (b_X12_bring_57 n  v0 v2 q6 (1 : Int) q27.2))
set_option maxRecDepth 100000 in
theorem zb_X12_bring_33 {al : Bool} {n : Nat}  {res : Int} {h1 : gi_H}  {v0 : Nat} {v1 : Int} {v2 : Int}  {h : gi_H} (e : b_X12_bring_33 n v0 v1 v2 h = some (res, h1)) : gx_Z mX12_bring al al 0 0 33 [(0, .ref v0), (1, .int (gI v1)), (2, .int (gI v2))] [] (gi_cv h) (.inl (some (.int (gI res)))) (gi_cv h1) := by
  refine gx_iload_n dX12_bring_33 rfl 1 rfl ?_
  refine gy_bipush dX12_bring_34 gcb_8 ?_
  refine gx_bE e (fun q6 hq6 e => ?_)
  refine gx_callS (n := 2) (st := []) (As := [.int (gI v1), .int (gI (8 : Int))]) dX12_bring_36 (z_X12_isBelow hq6) rfl ⟨rfl, gw_cw_X12_isBelow, gw_14, gp_X12_isBelow, ⟨Nat.le_of_ble_eq_true rfl, Nat.le_of_ble_eq_true rfl⟩⟩ gw_1540 gw_1541 ⟨Nat.le_of_ble_eq_true rfl, Nat.le_of_ble_eq_true rfl⟩ (Nat.le_of_ble_eq_true rfl) (gy_k1 (x := .int (gI q6)) (kc2 := 0) (ks2 := 0) ⟨rfl, rfl⟩ ?_) gy_kn
  refine gx_istore_n (ls2 := [(3, .int (gI q6)), (0, .ref v0), (1, .int (gI v1)), (2, .int (gI v2))]) dX12_bring_39 rfl (Nat.le_of_ble_eq_true rfl) rfl ?_
  refine gx_iload_n dX12_bring_40 rfl 0 rfl ?_
  refine gx_bE e (fun _ g7 e => ?_)
  refine gx_iE e (fun c8 e => ?_) (fun c8 e => ?_)
  · refine gy_if_eq (tgt := 56) (gi_rgS g7) dX12_bring_41 (by decide) (fun _ => ?_) (fun z => absurd c8 z)
    refine gx_sub (ls2 := [(0, .ref v0), (2, .int (gI v2)), (3, .int (gI q6))]) [1, 3, 0] rfl ?_
    exact zb_X12_bring_56  e
  · refine gy_if_eq (tgt := 56) (gi_rgS g7) dX12_bring_41 (by decide) (fun z => absurd z c8) (fun _ => ?_)
    refine gx_aload_n dX12_bring_44 rfl 1 rfl ?_
    refine gx_iload_n dX12_bring_45 rfl 2 rfl ?_
    refine gx_bE e (fun _ hu26 e => ?_)
    refine gx_bE e (fun q27 hq27 e => ?_)
    refine gx_callV (n := 1) (st := []) (As := [.int (gI v1)]) (b := v0) dX12_bring_46 (z_X12_bringsAll hq27) rfl ⟨rfl, gw_cw_X12_bringsAll, gw_14, gp_X12_bringsAll, ⟨Nat.le_of_ble_eq_true rfl, Nat.le_of_ble_eq_true rfl⟩⟩ (gi_isS hu26) (by decide) gw_1547 gw_1549 gs_68 rfl ⟨Nat.le_of_ble_eq_true rfl, Nat.le_of_ble_eq_true rfl⟩ (Nat.le_of_ble_eq_true rfl) (gy_k1 (x := .int (gI q27.1)) (kc2 := 0) (ks2 := 0) ⟨rfl, rfl⟩ ?_) gy_kn
    refine gx_bE e (fun _ g28 e => ?_)
    refine gx_iE e (fun c29 e => ?_) (fun c29 e => ?_)
    · refine gy_if_eq (tgt := 56) (gi_rgS g28) dX12_bring_49 (by decide) (fun _ => ?_) (fun z => absurd c29 z)
      refine gx_sub (ls2 := [(0, .ref v0), (2, .int (gI v2)), (3, .int (gI q6))]) [1, 3, 0] rfl ?_
      exact zb_X12_bring_56  e
    · refine gy_if_eq (tgt := 56) (gi_rgS g28) dX12_bring_49 (by decide) (fun z => absurd z c29) (fun _ => ?_)
      refine gy_iconst dX12_bring_52 ?_
      refine gx_goto (tgt := 57) dX12_bring_53 (by decide) ?_
      refine gx_sub (ls2 := [(0, .ref v0), (2, .int (gI v2)), (3, .int (gI q6))]) [1, 3, 0] rfl ?_
      exact zb_X12_bring_57  e
set_option maxRecDepth 100000 in
def b_X12_bring_7 (n : Nat) (r7 : Nat → Int → Int → Int → gi_H → Option (Int × gi_H)) (v0 : Nat) (v1 : Int) (v2 : Int) (v3 : Int)  (h : gi_H) : Option (Int × gi_H) :=
  Option.bind (gi_gI h v0 10 13) fun t2 => Option.bind (gi_rg v3) fun _ => Option.bind (gi_rg t2) fun _ => if t2 ≤ v3 then (b_X12_bring_33 n  v0 v1 v2 h) else (Option.bind (gi_gR h v0 10 40) fun t30 => Option.bind (gi_gR h v0 10 12) fun t31 => Option.bind (gi_aI h 1 t31 v3) fun t32 => Option.bind (gi_s1 h t30 v3 t32) fun h33 => gx_nm (v3 + (1 : Int)) fun t34 => r7 v0 v1 v2 t34 h33)
set_option maxRecDepth 100000 in
theorem zb_X12_bring_7 {al : Bool} {n : Nat} {r7 : Nat → Int → Int → Int → gi_H → Option (Int × gi_H)} {res : Int} {h1 : gi_H} (hr7 : ∀ (x0 : Nat) (x1 : Int) (x2 : Int) (x3 : Int) (hh : gi_H), r7 x0 x1 x2 x3 hh = some (res, h1) → gx_Z mX12_bring al al 0 0 7 [(0, .ref x0), (1, .int (gI x1)), (2, .int (gI x2)), (3, .int (gI x3))] [] (gi_cv hh) (.inl (some (.int (gI res)))) (gi_cv h1)) {v0 : Nat} {v1 : Int} {v2 : Int} {v3 : Int}  {h : gi_H} (e : b_X12_bring_7 n r7 v0 v1 v2 v3 h = some (res, h1)) : gx_Z mX12_bring al al 0 0 7 [(0, .ref v0), (1, .int (gI v1)), (2, .int (gI v2)), (3, .int (gI v3))] [] (gi_cv h) (.inl (some (.int (gI res)))) (gi_cv h1) := by
  refine gx_iload_n dX12_bring_7 rfl 3 rfl ?_
  refine gx_aload_n dX12_bring_8 rfl 0 rfl ?_
  refine gx_bE e (fun t2 ht2 e => ?_)
  refine gy_fI ht2 dX12_bring_9 gf_RX12_128_10_13 (by decide) gkN_10_13 gkR_10_13 ?_
  refine gx_bE e (fun _ g3 e => ?_)
  refine gx_bE e (fun _ g4 e => ?_)
  refine gx_iE e (fun c5 e => ?_) (fun c5 e => ?_)
  · refine gy_icmp_ge (tgt := 33) (gi_rgS g3) (gi_rgS g4) dX12_bring_12 (by decide) (fun _ => ?_) (fun z => absurd c5 z)
    refine gx_sub (ls2 := [(0, .ref v0), (1, .int (gI v1)), (2, .int (gI v2))]) [0, 1, 2] rfl ?_
    exact zb_X12_bring_33  e
  · refine gy_icmp_ge (tgt := 33) (gi_rgS g3) (gi_rgS g4) dX12_bring_12 (by decide) (fun z => absurd z c5) (fun _ => ?_)
    refine gx_aload_n dX12_bring_15 rfl 0 rfl ?_
    refine gx_bE e (fun t30 ht30 e => ?_)
    refine gy_fR ht30 dX12_bring_16 gf_RX12_92_10_40 (by decide) gkN_10_40 gkR_10_40 ?_
    refine gx_iload_n dX12_bring_19 rfl 3 rfl ?_
    refine gx_aload_n dX12_bring_20 rfl 0 rfl ?_
    refine gx_bE e (fun t31 ht31 e => ?_)
    refine gy_fR ht31 dX12_bring_21 gf_RX12_43_10_12 (by decide) gkN_10_12 gkR_10_12 ?_
    refine gx_iload_n dX12_bring_24 rfl 3 rfl ?_
    refine gx_bE e (fun t32 ht32 e => ?_)
    refine gy_l1 ht32 dX12_bring_25 ?_
    refine gx_bE e (fun h33 hh33 e => ?_)
    refine gy_t1 hh33 dX12_bring_26 ?_
    refine gx_nE e (fun t34 ht34 e => ?_)
    refine gy_iinc (v := t34) (ls2 := [(3, .int (gI t34)), (0, .ref v0), (1, .int (gI v1)), (2, .int (gI v2))]) dX12_bring_27 3 rfl ht34 (Nat.le_of_ble_eq_true rfl) rfl ?_
    refine gx_goto (tgt := 7) dX12_bring_30 (by decide) ?_
    refine gx_sub (ls2 := [(0, .ref v0), (1, .int (gI v1)), (2, .int (gI v2)), (3, .int (gI t34))]) [1, 2, 3, 0] rfl ?_
    exact hr7 _ _ _ _ _ e
def l_X12_bring_7 (n : Nat)  : Nat → Nat → Int → Int → Int → gi_H → Option (Int × gi_H)
  | 0, _, _, _, _, _ => none
  | k + 1, v0, v1, v2, v3, h => b_X12_bring_7 n  (l_X12_bring_7 n  k) v0 v1 v2 v3 h
theorem zl_X12_bring_7 {al : Bool} {n : Nat}  {res : Int} {h1 : gi_H}  : ∀ (k : Nat) (v0 : Nat) (v1 : Int) (v2 : Int) (v3 : Int) (h : gi_H), l_X12_bring_7 n  k v0 v1 v2 v3 h = some (res, h1) → gx_Z mX12_bring al al 0 0 7 [(0, .ref v0), (1, .int (gI v1)), (2, .int (gI v2)), (3, .int (gI v3))] [] (gi_cv h) (.inl (some (.int (gI res)))) (gi_cv h1)
  | 0, _, _, _, _, _, e => gx_0E e
  | k + 1, _, _, _, _, _, e => zb_X12_bring_7 (n := n)  (zl_X12_bring_7  k) e
set_option maxRecDepth 100000 in
def f_X12_bring (n : Nat) (v0 : Nat) (v1 : Int) (h : gi_H) : Option (Int × gi_H) :=
  Option.bind (gi_gI h v0 10 13) fun t1 => l_X12_bring_7 n  n v0 v1 t1 (0 : Int) h
set_option maxRecDepth 100000 in
theorem z_X12_bring {al : Bool} {n : Nat} {v0 : Nat} {v1 : Int} {h : gi_H} {res : Int} {h1 : gi_H} (e : f_X12_bring n v0 v1 h = some (res, h1)) : gx_Cw mX12_bring al [.ref v0, .int (gI v1)] (gi_cv h) (.inl (some (.int (gI res)))) (gi_cv h1) := by
  refine gx_enter (by decide +kernel) rfl (Nat.le_of_ble_eq_true rfl) ?_
  show gx_Z mX12_bring al al 0 0 0 [(0, .ref v0), (1, .int (gI v1))] [] (gi_cv h) (.inl (some (.int (gI res)))) (gi_cv h1)
  refine gx_aload_n dX12_bring_0 rfl 0 rfl ?_
  refine gx_bE e (fun t1 ht1 e => ?_)
  refine gy_fI ht1 dX12_bring_1 gf_RX12_128_10_13 (by decide) gkN_10_13 gkR_10_13 ?_
  refine gx_istore_n (ls2 := [(2, .int (gI t1)), (0, .ref v0), (1, .int (gI v1))]) dX12_bring_4 rfl (Nat.le_of_ble_eq_true rfl) rfl ?_
  refine gy_iconst dX12_bring_5 ?_
  refine gx_istore_n (ls2 := [(3, .int (gI (0 : Int))), (2, .int (gI t1)), (0, .ref v0), (1, .int (gI v1))]) dX12_bring_6 rfl (Nat.le_of_ble_eq_true rfl) rfl ?_
  refine gx_sub (ls2 := [(0, .ref v0), (1, .int (gI v1)), (2, .int (gI t1)), (3, .int (gI (0 : Int)))]) [2, 3, 1, 0] rfl ?_
  exact zl_X12_bring_7  n _ _ _ _ _ e
/-! X4_top  -/
set_option maxRecDepth 100000 in
def f_X4_top (v0 : Nat) (h : gi_H) : Option (Int) :=
  Option.bind (gi_gI h v0 3 7) fun t1 => some t1
set_option maxRecDepth 100000 in
theorem z_X4_top {al : Bool} {v0 : Nat} {h : gi_H} {res : Int} (e : f_X4_top v0 h = some res) : gx_Cw mX4_top al [.ref v0] (gi_cv h) (.inl (some (.int (gI res)))) (gi_cv h) := by
  refine gx_enter (by decide +kernel) rfl (Nat.le_of_ble_eq_true rfl) ?_
  show gx_Z mX4_top al al 0 0 0 [(0, .ref v0)] [] (gi_cv h) (.inl (some (.int (gI res)))) (gi_cv h)
  refine gx_aload_n dX4_top_0 rfl 0 rfl ?_
  refine gx_bE e (fun t1 ht1 e => ?_)
  refine gy_fI ht1 dX4_top_1 gf_RX4_49_3_7 (by decide) gkN_3_7 gkR_3_7 ?_
  cases e
  exact gx_iret dX4_top_4 rfl ⟨Nat.le_of_ble_eq_true rfl, Nat.le_of_ble_eq_true rfl⟩ (fun z => z)
/-! X4_setTop  -/
set_option maxRecDepth 100000 in
def f_X4_setTop (v0 : Nat) (v1 : Int) (h : gi_H) : Option (gi_H) :=
  Option.bind (gi_pI h v0 3 7 v1) fun h1 => some h1
set_option maxRecDepth 100000 in
theorem z_X4_setTop {al : Bool} {v0 : Nat} {v1 : Int} {h : gi_H} {h1 : gi_H} (e : f_X4_setTop v0 v1 h = some h1) : gx_Cw mX4_setTop al [.ref v0, .int (gI v1)] (gi_cv h) (.inl none) (gi_cv h1) := by
  refine gx_enter (by decide +kernel) rfl (Nat.le_of_ble_eq_true rfl) ?_
  show gx_Z mX4_setTop al al 0 0 0 [(0, .ref v0), (1, .int (gI v1))] [] (gi_cv h) (.inl none) (gi_cv h1)
  refine gx_aload_n dX4_setTop_0 rfl 0 rfl ?_
  refine gx_iload_n dX4_setTop_1 rfl 1 rfl ?_
  refine gx_bE e (fun h1 hh1 e => ?_)
  refine gy_qI hh1 dX4_setTop_2 gf_RX4_49_3_7 (by decide) gkN_3_7 rfl (Or.inl rfl) ?_
  cases e
  exact gx_vret dX4_setTop_5 rfl ⟨Nat.le_of_ble_eq_true rfl, Nat.le_of_ble_eq_true rfl⟩ (fun z => z)
/-! X11_start  -/
set_option maxRecDepth 100000 in
def b_X11_start_10    (h : gi_H) : Option ((Int ⊕ String) × gi_H) :=
  some (.inr gx_IOB, h)
set_option maxRecDepth 100000 in
theorem zb_X11_start_10  {res : Int ⊕ String} {h1 : gi_H}    {h : gi_H} (e : b_X11_start_10  h = some (res, h1)) : gx_Z mX11_start false false 0 0 10 [] [] (gi_cv h) (gx_oI res) (gi_cv h1) := by
  cases e
  exact gx_throw rfl gt_151_171_155 rfl dX11_start_10 dX11_start_13 dX11_start_14 dX11_start_16 dX11_start_19 (Nat.le_of_ble_eq_true rfl) (Nat.le_of_ble_eq_true rfl) ⟨Nat.le_of_ble_eq_true rfl, Nat.le_of_ble_eq_true rfl⟩
set_option maxRecDepth 100000 in
def f_X11_start (v0 : Nat) (v1 : Int) (h : gi_H) : Option ((Int ⊕ String) × gi_H) :=
  Option.bind (gi_rg v1) fun _ => if v1 < 0 then (b_X11_start_10   h) else (if v1 < (8 : Int) then (Option.bind (gi_gR h v0 9 1) fun t4 => Option.bind (gi_is h t4 3) fun _ => Option.bind (f_X4_top t4 h) fun q6 => Option.bind (gi_gR h v0 9 1) fun t7 => Option.bind (gi_is h t7 3) fun _ => Option.bind (f_X4_setTop t7 v1 h) fun q9 => Option.bind (gi_is q9 v0 9) fun _ => Option.bind (f_X11_forget v0 q9) fun q11 => some (.inl q6, q11)) else (b_X11_start_10   h))
set_option maxRecDepth 100000 in
theorem z_X11_start {v0 : Nat} {v1 : Int} {h : gi_H} {res : Int ⊕ String} {h1 : gi_H} (e : f_X11_start v0 v1 h = some (res, h1)) : gx_Cw mX11_start false [.ref v0, .int (gI v1)] (gi_cv h) (gx_oI res) (gi_cv h1) := by
  refine gx_enter (by decide +kernel) rfl (Nat.le_of_ble_eq_true rfl) ?_
  show gx_Z mX11_start false false 0 0 0 [(0, .ref v0), (1, .int (gI v1))] [] (gi_cv h) (gx_oI res) (gi_cv h1)
  refine gx_iload_n dX11_start_0 rfl 1 rfl ?_
  refine gx_bE e (fun _ g1 e => ?_)
  refine gx_iE e (fun c2 e => ?_) (fun c2 e => ?_)
  · refine gy_if_lt (tgt := 10) (gi_rgS g1) dX11_start_1 (by decide) (fun _ => ?_) (fun z => absurd c2 z)
    refine gx_sub (ls2 := []) [] rfl ?_
    exact zb_X11_start_10  e
  · refine gy_if_lt (tgt := 10) (gi_rgS g1) dX11_start_1 (by decide) (fun z => absurd z c2) (fun _ => ?_)
    refine gx_iload_n dX11_start_4 rfl 1 rfl ?_
    refine gy_bipush dX11_start_5 gcb_8 ?_
    refine gx_iE e (fun c3 e => ?_) (fun c3 e => ?_)
    · refine gy_icmp_lt (tgt := 20) (gi_rgS g1) (by decide) dX11_start_7 (by decide) (fun _ => ?_) (fun z => absurd c3 z)
      refine gx_aload_n dX11_start_20 rfl 0 rfl ?_
      refine gx_bE e (fun t4 ht4 e => ?_)
      refine gy_fR ht4 dX11_start_21 gf_RX11_35_9_1 (by decide) gkN_9_1 gkR_9_1 ?_
      refine gx_bE e (fun _ hu5 e => ?_)
      refine gx_bE e (fun q6 hq6 e => ?_)
      refine gx_callV (n := 0) (st := []) (As := []) (b := t4) dX11_start_24 (z_X4_top hq6) rfl ⟨rfl, gw_cw_X4_top, gw_3, gp_X4_top, ⟨Nat.le_of_ble_eq_true rfl, Nat.le_of_ble_eq_true rfl⟩⟩ (gi_isS hu5) (by decide) gw_824 gw_443 gw_444 rfl ⟨Nat.le_of_ble_eq_true rfl, Nat.le_of_ble_eq_true rfl⟩ (Nat.le_of_ble_eq_true rfl) (gy_k1 (x := .int (gI q6)) (kc2 := 0) (ks2 := 0) ⟨rfl, rfl⟩ ?_) gy_kn
      refine gx_istore_n (ls2 := [(2, .int (gI q6)), (0, .ref v0), (1, .int (gI v1))]) dX11_start_27 rfl (Nat.le_of_ble_eq_true rfl) rfl ?_
      refine gx_aload_n dX11_start_28 rfl 1 rfl ?_
      refine gx_bE e (fun t7 ht7 e => ?_)
      refine gy_fR ht7 dX11_start_29 gf_RX11_35_9_1 (by decide) gkN_9_1 gkR_9_1 ?_
      refine gx_iload_n dX11_start_32 rfl 2 rfl ?_
      refine gx_bE e (fun _ hu8 e => ?_)
      refine gx_bE e (fun q9 hq9 e => ?_)
      refine gx_callV (n := 1) (st := []) (As := [.int (gI v1)]) (b := t7) dX11_start_33 (z_X4_setTop hq9) rfl ⟨rfl, gw_cw_X4_setTop, gw_3, gp_X4_setTop, ⟨Nat.le_of_ble_eq_true rfl, Nat.le_of_ble_eq_true rfl⟩⟩ (gi_isS hu8) (by decide) gw_1075 gw_1076 gw_1077 rfl ⟨Nat.le_of_ble_eq_true rfl, Nat.le_of_ble_eq_true rfl⟩ (Nat.le_of_ble_eq_true rfl) (gy_k0 (kc2 := 0) (ks2 := 0) ⟨rfl, rfl⟩ ?_) gy_kn
      refine gx_aload_n dX11_start_36 rfl 1 rfl ?_
      refine gx_bE e (fun _ hu10 e => ?_)
      refine gx_bE e (fun q11 hq11 e => ?_)
      refine gx_callV (n := 0) (st := []) (As := []) (b := v0) dX11_start_37 (z_X11_forget hq11) rfl ⟨rfl, gw_cw_X11_forget, gw_1, gp_X11_forget, ⟨Nat.le_of_ble_eq_true rfl, Nat.le_of_ble_eq_true rfl⟩⟩ (gi_isS hu10) (by decide) gw_1001 gw_1003 gs_45 rfl ⟨Nat.le_of_ble_eq_true rfl, Nat.le_of_ble_eq_true rfl⟩ (Nat.le_of_ble_eq_true rfl) (gy_k0 (kc2 := 0) (ks2 := 0) ⟨rfl, rfl⟩ ?_) gy_kn
      refine gx_iload_n dX11_start_40 rfl 0 rfl ?_
      cases e
      exact gx_iret dX11_start_41 rfl ⟨Nat.le_of_ble_eq_true rfl, Nat.le_of_ble_eq_true rfl⟩ (fun z => z)
    · refine gy_icmp_lt (tgt := 20) (gi_rgS g1) (by decide) dX11_start_7 (by decide) (fun z => absurd z c3) (fun _ => ?_)
      refine gx_sub (ls2 := []) [] rfl ?_
      exact zb_X11_start_10  e
/-! L_start  -/
set_option maxRecDepth 100000 in
def f_L_start (v0 : Nat) (v1 : Int) (v2 : Nat) (h : gi_H) : Option (Int × gi_H) :=
  Option.bind (gi_is h v0 9) fun _ => Option.bind (f_X11_start v0 v1 h) fun q2 => gx_sm q2.1 (fun t3 => Option.bind (gi_rg t3) fun _ => Option.bind (gi_s2 q2.2 v2 (0 : Int) t3) fun h5 => some ((0 : Int), h5)) (fun t3 => if t3 = gx_IOB then (some ((1 : Int), q2.2)) else (none))
set_option maxRecDepth 100000 in
theorem z_L_start {v0 : Nat} {v1 : Int} {v2 : Nat} {h : gi_H} {res : Int} {h1 : gi_H} (e : f_L_start v0 v1 v2 h = some (res, h1)) : gx_Cw mL_start false [.ref v0, .int (gI v1), .ref v2] (gi_cv h) (.inl (some (.int (gI res)))) (gi_cv h1) := by
  refine gx_enter (by decide +kernel) rfl (Nat.le_of_ble_eq_true rfl) ?_
  show gx_Z mL_start false false 0 0 0 [(0, .ref v0), (1, .int (gI v1)), (2, .ref v2)] [] (gi_cv h) (.inl (some (.int (gI res)))) (gi_cv h1)
  refine gx_aload_n dL_start_0 rfl 2 rfl ?_
  refine gy_iconst dL_start_1 ?_
  refine gx_aload_n dL_start_2 rfl 0 rfl ?_
  refine gx_iload_n dL_start_3 rfl 1 rfl ?_
  refine gx_bE e (fun _ hu1 e => ?_)
  refine gx_bE e (fun q2 hq2 e => ?_)
  refine gx_smE e (fun t3 ht3 e => ?_) (fun t3 ht3 e => ?_)
  · have zq2 := z_X11_start hq2
    rw [ht3] at zq2
    refine gx_callV (n := 1) (st := [.int (gI (0 : Int)), .ref v2]) (As := [.int (gI v1)]) (b := v0) dL_start_4 zq2 rfl ⟨rfl, gw_cw_X11_start, gw_1, gp_X11_start, ⟨Nat.le_of_ble_eq_true rfl, Nat.le_of_ble_eq_true rfl⟩⟩ (gi_isS hu1) (by decide) gw_1070 gw_1071 gw_1072 rfl ⟨Nat.le_of_ble_eq_true rfl, Nat.le_of_ble_eq_true rfl⟩ (Nat.le_of_ble_eq_true rfl) (gy_k1 (x := .int (gI t3)) (kc2 := 1) (ks2 := 6) ⟨rfl, rfl⟩ ?_) gy_kn
    refine gx_bE e (fun _ g4 e => ?_)
    refine gy_i2l (gi_rgS g4) dL_start_7 ?_
    refine gx_bE e (fun h5 hh5 e => ?_)
    refine gy_t2 hh5 dL_start_8 ?_
    refine gx_goto (tgt := 15) dL_start_9 (by decide) ?_
    refine gy_iconst dL_start_15 ?_
    cases e
    exact gx_iret dL_start_16 rfl ⟨Nat.le_of_ble_eq_true rfl, Nat.le_of_ble_eq_true rfl⟩ (fun z => z)
  · have zq2 := z_X11_start hq2
    rw [ht3] at zq2
    refine gx_callV (n := 1) (st := [.int (gI (0 : Int)), .ref v2]) (As := [.int (gI v1)]) (b := v0) dL_start_4 zq2 rfl ⟨rfl, gw_cw_X11_start, gw_1, gp_X11_start, ⟨Nat.le_of_ble_eq_true rfl, Nat.le_of_ble_eq_true rfl⟩⟩ (gi_isS hu1) (by decide) gw_1070 gw_1071 gw_1072 rfl ⟨Nat.le_of_ble_eq_true rfl, Nat.le_of_ble_eq_true rfl⟩ (Nat.le_of_ble_eq_true rfl) gy_kN (gy_kE (kc2 := 1) (ks2 := 6) ⟨rfl, rfl⟩ ?_)
    refine gx_iE e (fun c6 e => ?_) (fun c6 e => ?_)
    · rw [c6]
      refine gx_catch (ls2 := [(0, .ref v0), (1, .int (gI v1)), (2, .ref v2)]) [] (x := (0, 9, 12, 28)) rfl (fun z hz => by cases hz) (by decide +kernel) (by decide) gw_1028 (by decide +kernel) (Nat.le_of_ble_eq_true rfl) (Or.inl ⟨3, rfl, rfl, dL_start_12⟩) rfl ?_
      refine gy_iconst dL_start_13 ?_
      cases e
      exact gx_iret dL_start_14 rfl ⟨Nat.le_of_ble_eq_true rfl, Nat.le_of_ble_eq_true rfl⟩ (fun z => z)
    cases e
/-! X12_start  -/
set_option maxRecDepth 100000 in
def f_X12_start (v0 : Nat) (v1 : Int) (h : gi_H) : Option (Int × gi_H) :=
  Option.bind (f_X12_isBelow v1 (8 : Int) h) fun q1 => Option.bind (gi_is h v0 10) fun _ => Option.bind (f_X12_goes v0 q1 (1 : Int) (1 : Int) h) fun q3 => Option.bind (gi_rg q3.1) fun _ => if q3.1 = 0 then (some ((0 : Int), q3.2)) else (Option.bind (gi_gR q3.2 v0 10 8) fun t6 => Option.bind (gi_gI q3.2 v0 10 9) fun t7 => Option.bind (gi_aI q3.2 1 t6 t7) fun t8 => Option.bind (gi_gR q3.2 v0 10 8) fun t9 => Option.bind (gi_gI q3.2 v0 10 9) fun t10 => Option.bind (gi_s1 q3.2 t9 t10 v1) fun h11 => Option.bind (gi_is h11 v0 10) fun _ => Option.bind (f_X12_changed v0 h11) fun q13 => some (t8, q13))
set_option maxRecDepth 100000 in
theorem z_X12_start {al : Bool} {v0 : Nat} {v1 : Int} {h : gi_H} {res : Int} {h1 : gi_H} (e : f_X12_start v0 v1 h = some (res, h1)) : gx_Cw mX12_start al [.ref v0, .int (gI v1)] (gi_cv h) (.inl (some (.int (gI res)))) (gi_cv h1) := by
  refine gx_enter (by decide +kernel) rfl (Nat.le_of_ble_eq_true rfl) ?_
  show gx_Z mX12_start al al 0 0 0 [(0, .ref v0), (1, .int (gI v1))] [] (gi_cv h) (.inl (some (.int (gI res)))) (gi_cv h1)
  refine gx_aload_n dX12_start_0 rfl 0 rfl ?_
  refine gx_iload_n dX12_start_1 rfl 1 rfl ?_
  refine gy_bipush dX12_start_2 gcb_8 ?_
  refine gx_bE e (fun q1 hq1 e => ?_)
  refine gx_callS (n := 2) (st := [.ref v0]) (As := [.int (gI v1), .int (gI (8 : Int))]) dX12_start_4 (z_X12_isBelow hq1) rfl ⟨rfl, gw_cw_X12_isBelow, gw_14, gp_X12_isBelow, ⟨Nat.le_of_ble_eq_true rfl, Nat.le_of_ble_eq_true rfl⟩⟩ gw_1540 gw_1541 ⟨Nat.le_of_ble_eq_true rfl, Nat.le_of_ble_eq_true rfl⟩ (Nat.le_of_ble_eq_true rfl) (gy_k1 (x := .int (gI q1)) (kc2 := 0) (ks2 := 0) ⟨rfl, rfl⟩ ?_) gy_kn
  refine gy_iconst dX12_start_7 ?_
  refine gy_iconst dX12_start_8 ?_
  refine gx_bE e (fun _ hu2 e => ?_)
  refine gx_bE e (fun q3 hq3 e => ?_)
  refine gx_callV (n := 3) (st := []) (As := [.int (gI q1), .int (gI (1 : Int)), .int (gI (1 : Int))]) (b := v0) dX12_start_9 (z_X12_goes hq3) rfl ⟨rfl, gw_cw_X12_goes, gw_14, gp_X12_goes, ⟨Nat.le_of_ble_eq_true rfl, Nat.le_of_ble_eq_true rfl⟩⟩ (gi_isS hu2) (by decide) gw_1480 gw_1482 gs_58 rfl ⟨Nat.le_of_ble_eq_true rfl, Nat.le_of_ble_eq_true rfl⟩ (Nat.le_of_ble_eq_true rfl) (gy_k1 (x := .int (gI q3.1)) (kc2 := 0) (ks2 := 0) ⟨rfl, rfl⟩ ?_) gy_kn
  refine gx_bE e (fun _ g4 e => ?_)
  refine gx_iE e (fun c5 e => ?_) (fun c5 e => ?_)
  · refine gy_if_ne (tgt := 17) (gi_rgS g4) dX12_start_12 (by decide) (fun z => absurd c5 z) (fun _ => ?_)
    refine gy_iconst dX12_start_15 ?_
    cases e
    exact gx_iret dX12_start_16 rfl ⟨Nat.le_of_ble_eq_true rfl, Nat.le_of_ble_eq_true rfl⟩ (fun z => z)
  · refine gy_if_ne (tgt := 17) (gi_rgS g4) dX12_start_12 (by decide) (fun _ => ?_) (fun z => absurd z c5)
    refine gx_aload_n dX12_start_17 rfl 0 rfl ?_
    refine gx_bE e (fun t6 ht6 e => ?_)
    refine gy_fR ht6 dX12_start_18 gf_RX12_34_10_8 (by decide) gkN_10_8 gkR_10_8 ?_
    refine gx_aload_n dX12_start_21 rfl 0 rfl ?_
    refine gx_bE e (fun t7 ht7 e => ?_)
    refine gy_fI ht7 dX12_start_22 gf_RX12_139_10_9 (by decide) gkN_10_9 gkR_10_9 ?_
    refine gx_bE e (fun t8 ht8 e => ?_)
    refine gy_l1 ht8 dX12_start_25 ?_
    refine gx_istore_n (ls2 := [(2, .int (gI t8)), (0, .ref v0), (1, .int (gI v1))]) dX12_start_26 rfl (Nat.le_of_ble_eq_true rfl) rfl ?_
    refine gx_aload_n dX12_start_27 rfl 1 rfl ?_
    refine gx_bE e (fun t9 ht9 e => ?_)
    refine gy_fR ht9 dX12_start_28 gf_RX12_34_10_8 (by decide) gkN_10_8 gkR_10_8 ?_
    refine gx_aload_n dX12_start_31 rfl 1 rfl ?_
    refine gx_bE e (fun t10 ht10 e => ?_)
    refine gy_fI ht10 dX12_start_32 gf_RX12_139_10_9 (by decide) gkN_10_9 gkR_10_9 ?_
    refine gx_iload_n dX12_start_35 rfl 2 rfl ?_
    refine gx_bE e (fun h11 hh11 e => ?_)
    refine gy_t1 hh11 dX12_start_36 ?_
    refine gx_aload_n dX12_start_37 rfl 1 rfl ?_
    refine gx_bE e (fun _ hu12 e => ?_)
    refine gx_bE e (fun q13 hq13 e => ?_)
    refine gx_callV (n := 0) (st := []) (As := []) (b := v0) dX12_start_38 (z_X12_changed hq13) rfl ⟨rfl, gw_cw_X12_changed, gw_14, gp_X12_changed, ⟨Nat.le_of_ble_eq_true rfl, Nat.le_of_ble_eq_true rfl⟩⟩ (gi_isS hu12) (by decide) gw_1528 gw_1530 gs_67 rfl ⟨Nat.le_of_ble_eq_true rfl, Nat.le_of_ble_eq_true rfl⟩ (Nat.le_of_ble_eq_true rfl) (gy_k0 (kc2 := 0) (ks2 := 0) ⟨rfl, rfl⟩ ?_) gy_kn
    refine gx_iload_n dX12_start_41 rfl 0 rfl ?_
    cases e
    exact gx_iret dX12_start_42 rfl ⟨Nat.le_of_ble_eq_true rfl, Nat.le_of_ble_eq_true rfl⟩ (fun z => z)
/-! X11_isTerminal  -/
set_option maxRecDepth 100000 in
def b_X11_isTerminal_14    (h : gi_H) : Option (Int) :=
  some (0 : Int)
set_option maxRecDepth 100000 in
theorem zb_X11_isTerminal_14 {al : Bool}  {res : Int}    {h : gi_H} (e : b_X11_isTerminal_14  h = some res) : gx_Z mX11_isTerminal al al 0 0 14 [] [] (gi_cv h) (.inl (some (.int (gI res)))) (gi_cv h) := by
  refine gy_iconst dX11_isTerminal_14 ?_
  cases e
  exact gx_zret (by decide +kernel) dX11_isTerminal_15 rfl ⟨Nat.le_of_ble_eq_true rfl, Nat.le_of_ble_eq_true rfl⟩ (fun z => z)
set_option maxRecDepth 100000 in
def f_X11_isTerminal (v0 : Int) (h : gi_H) : Option (Int) :=
  Option.bind (gi_rg v0) fun _ => if v0 < 0 then (b_X11_isTerminal_14   h) else (if (8 : Int) ≤ v0 then (b_X11_isTerminal_14   h) else (some (1 : Int)))
set_option maxRecDepth 100000 in
theorem z_X11_isTerminal {al : Bool} {v0 : Int} {h : gi_H} {res : Int} (e : f_X11_isTerminal v0 h = some res) : gx_Cw mX11_isTerminal al [.int (gI v0)] (gi_cv h) (.inl (some (.int (gI res)))) (gi_cv h) := by
  refine gx_enter (by decide +kernel) rfl (Nat.le_of_ble_eq_true rfl) ?_
  show gx_Z mX11_isTerminal al al 0 0 0 [(0, .int (gI v0))] [] (gi_cv h) (.inl (some (.int (gI res)))) (gi_cv h)
  refine gx_iload_n dX11_isTerminal_0 rfl 0 rfl ?_
  refine gx_bE e (fun _ g1 e => ?_)
  refine gx_iE e (fun c2 e => ?_) (fun c2 e => ?_)
  · refine gy_if_lt (tgt := 14) (gi_rgS g1) dX11_isTerminal_1 (by decide) (fun _ => ?_) (fun z => absurd c2 z)
    refine gx_sub (ls2 := []) [] rfl ?_
    exact zb_X11_isTerminal_14  e
  · refine gy_if_lt (tgt := 14) (gi_rgS g1) dX11_isTerminal_1 (by decide) (fun z => absurd z c2) (fun _ => ?_)
    refine gx_iload_n dX11_isTerminal_4 rfl 0 rfl ?_
    refine gy_bipush dX11_isTerminal_5 gcb_8 ?_
    refine gx_iE e (fun c3 e => ?_) (fun c3 e => ?_)
    · refine gy_icmp_ge (tgt := 14) (gi_rgS g1) (by decide) dX11_isTerminal_7 (by decide) (fun _ => ?_) (fun z => absurd c3 z)
      refine gx_sub (ls2 := []) [] rfl ?_
      exact zb_X11_isTerminal_14  e
    · refine gy_icmp_ge (tgt := 14) (gi_rgS g1) (by decide) dX11_isTerminal_7 (by decide) (fun z => absurd z c3) (fun _ => ?_)
      refine gy_iconst dX11_isTerminal_10 ?_
      refine gx_goto (tgt := 15) dX11_isTerminal_11 (by decide) ?_
      cases e
      exact gx_zret (by decide +kernel) dX11_isTerminal_15 rfl ⟨Nat.le_of_ble_eq_true rfl, Nat.le_of_ble_eq_true rfl⟩ (fun z => z)
/-! X11_level  -/
set_option maxRecDepth 100000 in
def b_X11_level_16    (h : gi_H) : Option ((Int ⊕ String) × gi_H) :=
  some (.inr gx_IOB, h)
set_option maxRecDepth 100000 in
theorem zb_X11_level_16  {res : Int ⊕ String} {h1 : gi_H}    {h : gi_H} (e : b_X11_level_16  h = some (res, h1)) : gx_Z mX11_level false false 0 0 16 [] [] (gi_cv h) (gx_oI res) (gi_cv h1) := by
  cases e
  exact gx_throw rfl gt_151_184_155 rfl dX11_level_16 dX11_level_19 dX11_level_20 dX11_level_22 dX11_level_25 (Nat.le_of_ble_eq_true rfl) (Nat.le_of_ble_eq_true rfl) ⟨Nat.le_of_ble_eq_true rfl, Nat.le_of_ble_eq_true rfl⟩
set_option maxRecDepth 100000 in
def b_X11_level_35    (h : gi_H) : Option ((Int ⊕ String) × gi_H) :=
  some (.inr gx_IAE, h)
set_option maxRecDepth 100000 in
theorem zb_X11_level_35  {res : Int ⊕ String} {h1 : gi_H}    {h : gi_H} (e : b_X11_level_35  h = some (res, h1)) : gx_Z mX11_level false false 0 0 35 [] [] (gi_cv h) (gx_oI res) (gi_cv h1) := by
  cases e
  exact gx_throw rfl gt_105_186_109 rfl dX11_level_35 dX11_level_38 dX11_level_39 dX11_level_41 dX11_level_44 (Nat.le_of_ble_eq_true rfl) (Nat.le_of_ble_eq_true rfl) ⟨Nat.le_of_ble_eq_true rfl, Nat.le_of_ble_eq_true rfl⟩
set_option maxRecDepth 100000 in
def f_X11_level (v0 : Nat) (v1 : Int) (v2 : Int) (v3 : Int) (h : gi_H) : Option ((Int ⊕ String) × gi_H) :=
  Option.bind (f_X11_isTerminal v1 h) fun q1 => Option.bind (gi_rg q1) fun _ => if q1 = 0 then (b_X11_level_16   h) else (Option.bind (gi_rg v3) fun _ => if v3 < 0 then (b_X11_level_16   h) else (if v3 ≤ (2 : Int) then (Option.bind (gi_rg v2) fun _ => if v2 < 0 then (b_X11_level_35   h) else (if v2 ≤ (5 : Int) then (Option.bind (gi_gR h v0 9 4) fun t10 => Option.bind (gi_aI h 1 t10 v1) fun t11 => Option.bind (gi_gR h v0 9 4) fun t12 => Option.bind (gi_s1 h t12 v1 v2) fun h13 => Option.bind (gi_gR h13 v0 9 5) fun t14 => Option.bind (gi_s1 h13 t14 v1 v3) fun h15 => some (.inl t11, h15)) else (b_X11_level_35   h))) else (b_X11_level_16   h)))
set_option maxRecDepth 100000 in
theorem z_X11_level {v0 : Nat} {v1 : Int} {v2 : Int} {v3 : Int} {h : gi_H} {res : Int ⊕ String} {h1 : gi_H} (e : f_X11_level v0 v1 v2 v3 h = some (res, h1)) : gx_Cw mX11_level false [.ref v0, .int (gI v1), .int (gI v2), .int (gI v3)] (gi_cv h) (gx_oI res) (gi_cv h1) := by
  refine gx_enter (by decide +kernel) rfl (Nat.le_of_ble_eq_true rfl) ?_
  show gx_Z mX11_level false false 0 0 0 [(0, .ref v0), (1, .int (gI v1)), (2, .int (gI v2)), (3, .int (gI v3))] [] (gi_cv h) (gx_oI res) (gi_cv h1)
  refine gx_iload_n dX11_level_0 rfl 1 rfl ?_
  refine gx_bE e (fun q1 hq1 e => ?_)
  refine gx_callS (n := 1) (st := []) (As := [.int (gI v1)]) dX11_level_1 (z_X11_isTerminal hq1) rfl ⟨rfl, gw_cw_X11_isTerminal, gw_1, gp_X11_isTerminal, ⟨Nat.le_of_ble_eq_true rfl, Nat.le_of_ble_eq_true rfl⟩⟩ gw_1086 gw_646 ⟨Nat.le_of_ble_eq_true rfl, Nat.le_of_ble_eq_true rfl⟩ (Nat.le_of_ble_eq_true rfl) (gy_k1 (x := .int (gI q1)) (kc2 := 0) (ks2 := 0) ⟨rfl, rfl⟩ ?_) gy_kn
  refine gx_bE e (fun _ g2 e => ?_)
  refine gx_iE e (fun c3 e => ?_) (fun c3 e => ?_)
  · refine gy_if_eq (tgt := 16) (gi_rgS g2) dX11_level_4 (by decide) (fun _ => ?_) (fun z => absurd c3 z)
    refine gx_sub (ls2 := []) [] rfl ?_
    exact zb_X11_level_16  e
  · refine gy_if_eq (tgt := 16) (gi_rgS g2) dX11_level_4 (by decide) (fun z => absurd z c3) (fun _ => ?_)
    refine gx_iload_n dX11_level_7 rfl 3 rfl ?_
    refine gx_bE e (fun _ g4 e => ?_)
    refine gx_iE e (fun c5 e => ?_) (fun c5 e => ?_)
    · refine gy_if_lt (tgt := 16) (gi_rgS g4) dX11_level_8 (by decide) (fun _ => ?_) (fun z => absurd c5 z)
      refine gx_sub (ls2 := []) [] rfl ?_
      exact zb_X11_level_16  e
    · refine gy_if_lt (tgt := 16) (gi_rgS g4) dX11_level_8 (by decide) (fun z => absurd z c5) (fun _ => ?_)
      refine gx_iload_n dX11_level_11 rfl 3 rfl ?_
      refine gy_iconst dX11_level_12 ?_
      refine gx_iE e (fun c6 e => ?_) (fun c6 e => ?_)
      · refine gy_icmp_le (tgt := 26) (gi_rgS g4) (by decide) dX11_level_13 (by decide) (fun _ => ?_) (fun z => absurd c6 z)
        refine gx_iload_n dX11_level_26 rfl 2 rfl ?_
        refine gx_bE e (fun _ g7 e => ?_)
        refine gx_iE e (fun c8 e => ?_) (fun c8 e => ?_)
        · refine gy_if_lt (tgt := 35) (gi_rgS g7) dX11_level_27 (by decide) (fun _ => ?_) (fun z => absurd c8 z)
          refine gx_sub (ls2 := []) [] rfl ?_
          exact zb_X11_level_35  e
        · refine gy_if_lt (tgt := 35) (gi_rgS g7) dX11_level_27 (by decide) (fun z => absurd z c8) (fun _ => ?_)
          refine gx_iload_n dX11_level_30 rfl 2 rfl ?_
          refine gy_iconst dX11_level_31 ?_
          refine gx_iE e (fun c9 e => ?_) (fun c9 e => ?_)
          · refine gy_icmp_le (tgt := 45) (gi_rgS g7) (by decide) dX11_level_32 (by decide) (fun _ => ?_) (fun z => absurd c9 z)
            refine gx_aload_n dX11_level_45 rfl 0 rfl ?_
            refine gx_bE e (fun t10 ht10 e => ?_)
            refine gy_fR ht10 dX11_level_46 gf_RX11_42_9_4 (by decide) gkN_9_4 gkR_9_4 ?_
            refine gx_iload_n dX11_level_49 rfl 1 rfl ?_
            refine gx_bE e (fun t11 ht11 e => ?_)
            refine gy_l1 ht11 dX11_level_50 ?_
            refine gx_istore (ls2 := [(4, .int (gI t11)), (0, .ref v0), (1, .int (gI v1)), (2, .int (gI v2)), (3, .int (gI v3))]) dX11_level_51 (Nat.le_of_ble_eq_true rfl) rfl ?_
            refine gx_aload_n dX11_level_53 rfl 1 rfl ?_
            refine gx_bE e (fun t12 ht12 e => ?_)
            refine gy_fR ht12 dX11_level_54 gf_RX11_42_9_4 (by decide) gkN_9_4 gkR_9_4 ?_
            refine gx_iload_n dX11_level_57 rfl 2 rfl ?_
            refine gx_iload_n dX11_level_58 rfl 3 rfl ?_
            refine gx_bE e (fun h13 hh13 e => ?_)
            refine gy_t1 hh13 dX11_level_59 ?_
            refine gx_aload_n dX11_level_60 rfl 1 rfl ?_
            refine gx_bE e (fun t14 ht14 e => ?_)
            refine gy_fR ht14 dX11_level_61 gf_RX11_46_9_5 (by decide) gkN_9_5 gkR_9_5 ?_
            refine gx_iload_n dX11_level_64 rfl 2 rfl ?_
            refine gx_iload_n dX11_level_65 rfl 4 rfl ?_
            refine gx_bE e (fun h15 hh15 e => ?_)
            refine gy_t1 hh15 dX11_level_66 ?_
            refine gx_iload dX11_level_67 0 rfl ?_
            cases e
            exact gx_iret dX11_level_69 rfl ⟨Nat.le_of_ble_eq_true rfl, Nat.le_of_ble_eq_true rfl⟩ (fun z => z)
          · refine gy_icmp_le (tgt := 45) (gi_rgS g7) (by decide) dX11_level_32 (by decide) (fun z => absurd z c9) (fun _ => ?_)
            refine gx_sub (ls2 := []) [] rfl ?_
            exact zb_X11_level_35  e
      · refine gy_icmp_le (tgt := 26) (gi_rgS g4) (by decide) dX11_level_13 (by decide) (fun z => absurd z c6) (fun _ => ?_)
        refine gx_sub (ls2 := []) [] rfl ?_
        exact zb_X11_level_16  e
/-! L_level  -/
set_option maxRecDepth 100000 in
def f_L_level (v0 : Nat) (v1 : Int) (v2 : Int) (v3 : Int) (v4 : Nat) (h : gi_H) : Option (Int × gi_H) :=
  Option.bind (gi_is h v0 9) fun _ => Option.bind (f_X11_level v0 v1 v2 v3 h) fun q2 => gx_sm q2.1 (fun t3 => Option.bind (gi_rg t3) fun _ => Option.bind (gi_s2 q2.2 v4 (0 : Int) t3) fun h5 => some ((0 : Int), h5)) (fun t3 => if t3 = gx_IOB then (some ((1 : Int), q2.2)) else (if t3 = gx_IAE then (some ((2 : Int), q2.2)) else (none)))
set_option maxRecDepth 100000 in
theorem z_L_level {v0 : Nat} {v1 : Int} {v2 : Int} {v3 : Int} {v4 : Nat} {h : gi_H} {res : Int} {h1 : gi_H} (e : f_L_level v0 v1 v2 v3 v4 h = some (res, h1)) : gx_Cw mL_level false [.ref v0, .int (gI v1), .int (gI v2), .int (gI v3), .ref v4] (gi_cv h) (.inl (some (.int (gI res)))) (gi_cv h1) := by
  refine gx_enter (by decide +kernel) rfl (Nat.le_of_ble_eq_true rfl) ?_
  show gx_Z mL_level false false 0 0 0 [(0, .ref v0), (1, .int (gI v1)), (2, .int (gI v2)), (3, .int (gI v3)), (4, .ref v4)] [] (gi_cv h) (.inl (some (.int (gI res)))) (gi_cv h1)
  refine gx_aload dL_level_0 4 rfl ?_
  refine gy_iconst dL_level_2 ?_
  refine gx_aload_n dL_level_3 rfl 0 rfl ?_
  refine gx_iload_n dL_level_4 rfl 1 rfl ?_
  refine gx_iload_n dL_level_5 rfl 2 rfl ?_
  refine gx_iload_n dL_level_6 rfl 3 rfl ?_
  refine gx_bE e (fun _ hu1 e => ?_)
  refine gx_bE e (fun q2 hq2 e => ?_)
  refine gx_smE e (fun t3 ht3 e => ?_) (fun t3 ht3 e => ?_)
  · have zq2 := z_X11_level hq2
    rw [ht3] at zq2
    refine gx_callV (n := 3) (st := [.int (gI (0 : Int)), .ref v4]) (As := [.int (gI v1), .int (gI v2), .int (gI v3)]) (b := v0) dL_level_7 zq2 rfl ⟨rfl, gw_cw_X11_level, gw_1, gp_X11_level, ⟨Nat.le_of_ble_eq_true rfl, Nat.le_of_ble_eq_true rfl⟩⟩ (gi_isS hu1) (by decide) gw_1082 gw_1083 gw_1084 rfl ⟨Nat.le_of_ble_eq_true rfl, Nat.le_of_ble_eq_true rfl⟩ (Nat.le_of_ble_eq_true rfl) (gy_k1 (x := .int (gI t3)) (kc2 := 1) (ks2 := 6) ⟨rfl, rfl⟩ ?_) gy_kn
    refine gx_bE e (fun _ g4 e => ?_)
    refine gy_i2l (gi_rgS g4) dL_level_10 ?_
    refine gx_bE e (fun h5 hh5 e => ?_)
    refine gy_t2 hh5 dL_level_11 ?_
    refine gx_goto (tgt := 23) dL_level_12 (by decide) ?_
    refine gy_iconst dL_level_23 ?_
    cases e
    exact gx_iret dL_level_24 rfl ⟨Nat.le_of_ble_eq_true rfl, Nat.le_of_ble_eq_true rfl⟩ (fun z => z)
  · have zq2 := z_X11_level hq2
    rw [ht3] at zq2
    refine gx_callV (n := 3) (st := [.int (gI (0 : Int)), .ref v4]) (As := [.int (gI v1), .int (gI v2), .int (gI v3)]) (b := v0) dL_level_7 zq2 rfl ⟨rfl, gw_cw_X11_level, gw_1, gp_X11_level, ⟨Nat.le_of_ble_eq_true rfl, Nat.le_of_ble_eq_true rfl⟩⟩ (gi_isS hu1) (by decide) gw_1082 gw_1083 gw_1084 rfl ⟨Nat.le_of_ble_eq_true rfl, Nat.le_of_ble_eq_true rfl⟩ (Nat.le_of_ble_eq_true rfl) gy_kN (gy_kE (kc2 := 1) (ks2 := 6) ⟨rfl, rfl⟩ ?_)
    refine gx_iE e (fun c6 e => ?_) (fun c6 e => ?_)
    · rw [c6]
      refine gx_catch (ls2 := [(0, .ref v0), (1, .int (gI v1)), (2, .int (gI v2)), (3, .int (gI v3)), (4, .ref v4)]) [] (x := (0, 12, 15, 28)) rfl (fun z hz => by cases hz) (by decide +kernel) (by decide) gw_1028 (by decide +kernel) (Nat.le_of_ble_eq_true rfl) (Or.inr ⟨rfl, dL_level_15⟩) rfl ?_
      refine gy_iconst dL_level_17 ?_
      cases e
      exact gx_iret dL_level_18 rfl ⟨Nat.le_of_ble_eq_true rfl, Nat.le_of_ble_eq_true rfl⟩ (fun z => z)
    refine gx_iE e (fun c7 e => ?_) (fun c7 e => ?_)
    · rw [c7]
      refine gx_catch (ls2 := [(0, .ref v0), (1, .int (gI v1)), (2, .int (gI v2)), (3, .int (gI v3)), (4, .ref v4)]) [(0, 12, 15, 28)] (x := (0, 12, 19, 13)) rfl (by refine List.forall_mem_cons.mpr ⟨⟨by decide, "java/lang/IndexOutOfBoundsException", gw_1028, by decide +kernel⟩, ?_⟩;  exact fun z hz => absurd hz List.not_mem_nil) (by decide +kernel) (by decide) gw_836 (by decide +kernel) (Nat.le_of_ble_eq_true rfl) (Or.inr ⟨rfl, dL_level_19⟩) rfl ?_
      refine gy_iconst dL_level_21 ?_
      cases e
      exact gx_iret dL_level_22 rfl ⟨Nat.le_of_ble_eq_true rfl, Nat.le_of_ble_eq_true rfl⟩ (fun z => z)
    cases e
/-! X12_level  -/
set_option maxRecDepth 100000 in
def b_X12_level_38  (v0 : Nat) (v1 : Int) (v2 : Int) (v3 : Int) (s0 : Nat) (s1 : Int) (s2 : Int) (h : gi_H) : Option (Int × gi_H) :=
  Option.bind (gi_is h s0 10) fun _ => Option.bind (f_X12_goes s0 s1 s2 (1 : Int) h) fun q7 => Option.bind (gi_rg q7.1) fun _ => if q7.1 = 0 then (some ((0 : Int), q7.2)) else (Option.bind (gi_gR q7.2 v0 10 10) fun t10 => Option.bind (gi_aI q7.2 1 t10 v1) fun t11 => Option.bind (gi_gR q7.2 v0 10 10) fun t12 => Option.bind (gi_s1 q7.2 t12 v1 v2) fun h13 => Option.bind (gi_gR h13 v0 10 11) fun t14 => Option.bind (gi_s1 h13 t14 v1 v3) fun h15 => some (t11, h15))
set_option maxRecDepth 100000 in
theorem zb_X12_level_38 {al : Bool}  {res : Int} {h1 : gi_H}  {v0 : Nat} {v1 : Int} {v2 : Int} {v3 : Int} {s0 : Nat} {s1 : Int} {s2 : Int} {h : gi_H} (e : b_X12_level_38 v0 v1 v2 v3 s0 s1 s2 h = some (res, h1)) : gx_Z mX12_level al al 0 0 38 [(0, .ref v0), (1, .int (gI v1)), (2, .int (gI v2)), (3, .int (gI v3))] [.int (gI s2), .int (gI s1), .ref s0] (gi_cv h) (.inl (some (.int (gI res)))) (gi_cv h1) := by
  refine gy_iconst dX12_level_38 ?_
  refine gx_bE e (fun _ hu6 e => ?_)
  refine gx_bE e (fun q7 hq7 e => ?_)
  refine gx_callV (n := 3) (st := []) (As := [.int (gI s1), .int (gI s2), .int (gI (1 : Int))]) (b := s0) dX12_level_39 (z_X12_goes hq7) rfl ⟨rfl, gw_cw_X12_goes, gw_14, gp_X12_goes, ⟨Nat.le_of_ble_eq_true rfl, Nat.le_of_ble_eq_true rfl⟩⟩ (gi_isS hu6) (by decide) gw_1480 gw_1482 gs_58 rfl ⟨Nat.le_of_ble_eq_true rfl, Nat.le_of_ble_eq_true rfl⟩ (Nat.le_of_ble_eq_true rfl) (gy_k1 (x := .int (gI q7.1)) (kc2 := 0) (ks2 := 0) ⟨rfl, rfl⟩ ?_) gy_kn
  refine gx_bE e (fun _ g8 e => ?_)
  refine gx_iE e (fun c9 e => ?_) (fun c9 e => ?_)
  · refine gy_if_ne (tgt := 47) (gi_rgS g8) dX12_level_42 (by decide) (fun z => absurd c9 z) (fun _ => ?_)
    refine gy_iconst dX12_level_45 ?_
    cases e
    exact gx_iret dX12_level_46 rfl ⟨Nat.le_of_ble_eq_true rfl, Nat.le_of_ble_eq_true rfl⟩ (fun z => z)
  · refine gy_if_ne (tgt := 47) (gi_rgS g8) dX12_level_42 (by decide) (fun _ => ?_) (fun z => absurd z c9)
    refine gx_aload_n dX12_level_47 rfl 0 rfl ?_
    refine gx_bE e (fun t10 ht10 e => ?_)
    refine gy_fR ht10 dX12_level_48 gf_RX12_37_10_10 (by decide) gkN_10_10 gkR_10_10 ?_
    refine gx_iload_n dX12_level_51 rfl 1 rfl ?_
    refine gx_bE e (fun t11 ht11 e => ?_)
    refine gy_l1 ht11 dX12_level_52 ?_
    refine gx_istore (ls2 := [(4, .int (gI t11)), (0, .ref v0), (1, .int (gI v1)), (2, .int (gI v2)), (3, .int (gI v3))]) dX12_level_53 (Nat.le_of_ble_eq_true rfl) rfl ?_
    refine gx_aload_n dX12_level_55 rfl 1 rfl ?_
    refine gx_bE e (fun t12 ht12 e => ?_)
    refine gy_fR ht12 dX12_level_56 gf_RX12_37_10_10 (by decide) gkN_10_10 gkR_10_10 ?_
    refine gx_iload_n dX12_level_59 rfl 2 rfl ?_
    refine gx_iload_n dX12_level_60 rfl 3 rfl ?_
    refine gx_bE e (fun h13 hh13 e => ?_)
    refine gy_t1 hh13 dX12_level_61 ?_
    refine gx_aload_n dX12_level_62 rfl 1 rfl ?_
    refine gx_bE e (fun t14 ht14 e => ?_)
    refine gy_fR ht14 dX12_level_63 gf_RX12_40_10_11 (by decide) gkN_10_11 gkR_10_11 ?_
    refine gx_iload_n dX12_level_66 rfl 2 rfl ?_
    refine gx_iload_n dX12_level_67 rfl 4 rfl ?_
    refine gx_bE e (fun h15 hh15 e => ?_)
    refine gy_t1 hh15 dX12_level_68 ?_
    refine gx_iload dX12_level_69 0 rfl ?_
    cases e
    exact gx_iret dX12_level_71 rfl ⟨Nat.le_of_ble_eq_true rfl, Nat.le_of_ble_eq_true rfl⟩ (fun z => z)
set_option maxRecDepth 100000 in
def b_X12_level_37  (v0 : Nat) (v1 : Int) (v2 : Int) (v3 : Int) (s0 : Nat) (s1 : Int) (h : gi_H) : Option (Int × gi_H) :=
  b_X12_level_38  v0 v1 v2 v3 s0 s1 (0 : Int) h
set_option maxRecDepth 100000 in
theorem zb_X12_level_37 {al : Bool}  {res : Int} {h1 : gi_H}  {v0 : Nat} {v1 : Int} {v2 : Int} {v3 : Int} {s0 : Nat} {s1 : Int} {h : gi_H} (e : b_X12_level_37 v0 v1 v2 v3 s0 s1 h = some (res, h1)) : gx_Z mX12_level al al 0 0 37 [(0, .ref v0), (1, .int (gI v1)), (2, .int (gI v2)), (3, .int (gI v3))] [.int (gI s1), .ref s0] (gi_cv h) (.inl (some (.int (gI res)))) (gi_cv h1) := by
  refine gy_iconst dX12_level_37 ?_
  exact zb_X12_level_38  e
set_option maxRecDepth 100000 in
def b_X12_level_24  (v0 : Nat) (v1 : Int) (v2 : Int) (v3 : Int) (s0 : Nat) (s1 : Int) (h : gi_H) : Option (Int × gi_H) :=
  Option.bind (gi_rg v2) fun _ => if v2 < 0 then (b_X12_level_37  v0 v1 v2 v3 s0 s1 h) else (if (5 : Int) < v2 then (b_X12_level_37  v0 v1 v2 v3 s0 s1 h) else (b_X12_level_38  v0 v1 v2 v3 s0 s1 (1 : Int) h))
set_option maxRecDepth 100000 in
theorem zb_X12_level_24 {al : Bool}  {res : Int} {h1 : gi_H}  {v0 : Nat} {v1 : Int} {v2 : Int} {v3 : Int} {s0 : Nat} {s1 : Int} {h : gi_H} (e : b_X12_level_24 v0 v1 v2 v3 s0 s1 h = some (res, h1)) : gx_Z mX12_level al al 0 0 24 [(0, .ref v0), (1, .int (gI v1)), (2, .int (gI v2)), (3, .int (gI v3))] [.int (gI s1), .ref s0] (gi_cv h) (.inl (some (.int (gI res)))) (gi_cv h1) := by
  refine gx_iload_n dX12_level_24 rfl 2 rfl ?_
  refine gx_bE e (fun _ g4 e => ?_)
  refine gx_iE e (fun c5 e => ?_) (fun c5 e => ?_)
  · refine gy_if_lt (tgt := 37) (gi_rgS g4) dX12_level_25 (by decide) (fun _ => ?_) (fun z => absurd c5 z)
    exact zb_X12_level_37  e
  · refine gy_if_lt (tgt := 37) (gi_rgS g4) dX12_level_25 (by decide) (fun z => absurd z c5) (fun _ => ?_)
    refine gx_iload_n dX12_level_28 rfl 2 rfl ?_
    refine gy_iconst dX12_level_29 ?_
    refine gx_iE e (fun c16 e => ?_) (fun c16 e => ?_)
    · refine gy_icmp_gt (tgt := 37) (gi_rgS g4) (by decide) dX12_level_30 (by decide) (fun _ => ?_) (fun z => absurd c16 z)
      exact zb_X12_level_37  e
    · refine gy_icmp_gt (tgt := 37) (gi_rgS g4) (by decide) dX12_level_30 (by decide) (fun z => absurd z c16) (fun _ => ?_)
      refine gy_iconst dX12_level_33 ?_
      refine gx_goto (tgt := 38) dX12_level_34 (by decide) ?_
      exact zb_X12_level_38  e
set_option maxRecDepth 100000 in
def b_X12_level_23  (v0 : Nat) (v1 : Int) (v2 : Int) (v3 : Int) (s0 : Nat) (h : gi_H) : Option (Int × gi_H) :=
  b_X12_level_24  v0 v1 v2 v3 s0 (0 : Int) h
set_option maxRecDepth 100000 in
theorem zb_X12_level_23 {al : Bool}  {res : Int} {h1 : gi_H}  {v0 : Nat} {v1 : Int} {v2 : Int} {v3 : Int} {s0 : Nat} {h : gi_H} (e : b_X12_level_23 v0 v1 v2 v3 s0 h = some (res, h1)) : gx_Z mX12_level al al 0 0 23 [(0, .ref v0), (1, .int (gI v1)), (2, .int (gI v2)), (3, .int (gI v3))] [.ref s0] (gi_cv h) (.inl (some (.int (gI res)))) (gi_cv h1) := by
  refine gy_iconst dX12_level_23 ?_
  exact zb_X12_level_24  e
set_option maxRecDepth 100000 in
def f_X12_level (v0 : Nat) (v1 : Int) (v2 : Int) (v3 : Int) (h : gi_H) : Option (Int × gi_H) :=
  Option.bind (f_X12_isBelow v1 (8 : Int) h) fun q1 => Option.bind (gi_rg q1) fun _ => if q1 = 0 then (b_X12_level_23  v0 v1 v2 v3 v0 h) else (Option.bind (gi_rg v3) fun _ => if v3 < 0 then (b_X12_level_23  v0 v1 v2 v3 v0 h) else (if (2 : Int) < v3 then (b_X12_level_23  v0 v1 v2 v3 v0 h) else (b_X12_level_24  v0 v1 v2 v3 v0 (1 : Int) h)))
set_option maxRecDepth 100000 in
theorem z_X12_level {al : Bool} {v0 : Nat} {v1 : Int} {v2 : Int} {v3 : Int} {h : gi_H} {res : Int} {h1 : gi_H} (e : f_X12_level v0 v1 v2 v3 h = some (res, h1)) : gx_Cw mX12_level al [.ref v0, .int (gI v1), .int (gI v2), .int (gI v3)] (gi_cv h) (.inl (some (.int (gI res)))) (gi_cv h1) := by
  refine gx_enter (by decide +kernel) rfl (Nat.le_of_ble_eq_true rfl) ?_
  show gx_Z mX12_level al al 0 0 0 [(0, .ref v0), (1, .int (gI v1)), (2, .int (gI v2)), (3, .int (gI v3))] [] (gi_cv h) (.inl (some (.int (gI res)))) (gi_cv h1)
  refine gx_aload_n dX12_level_0 rfl 0 rfl ?_
  refine gx_iload_n dX12_level_1 rfl 1 rfl ?_
  refine gy_bipush dX12_level_2 gcb_8 ?_
  refine gx_bE e (fun q1 hq1 e => ?_)
  refine gx_callS (n := 2) (st := [.ref v0]) (As := [.int (gI v1), .int (gI (8 : Int))]) dX12_level_4 (z_X12_isBelow hq1) rfl ⟨rfl, gw_cw_X12_isBelow, gw_14, gp_X12_isBelow, ⟨Nat.le_of_ble_eq_true rfl, Nat.le_of_ble_eq_true rfl⟩⟩ gw_1540 gw_1541 ⟨Nat.le_of_ble_eq_true rfl, Nat.le_of_ble_eq_true rfl⟩ (Nat.le_of_ble_eq_true rfl) (gy_k1 (x := .int (gI q1)) (kc2 := 0) (ks2 := 0) ⟨rfl, rfl⟩ ?_) gy_kn
  refine gx_bE e (fun _ g2 e => ?_)
  refine gx_iE e (fun c3 e => ?_) (fun c3 e => ?_)
  · refine gy_if_eq (tgt := 23) (gi_rgS g2) dX12_level_7 (by decide) (fun _ => ?_) (fun z => absurd c3 z)
    exact zb_X12_level_23  e
  · refine gy_if_eq (tgt := 23) (gi_rgS g2) dX12_level_7 (by decide) (fun z => absurd z c3) (fun _ => ?_)
    refine gx_iload_n dX12_level_10 rfl 3 rfl ?_
    refine gx_bE e (fun _ g17 e => ?_)
    refine gx_iE e (fun c18 e => ?_) (fun c18 e => ?_)
    · refine gy_if_lt (tgt := 23) (gi_rgS g17) dX12_level_11 (by decide) (fun _ => ?_) (fun z => absurd c18 z)
      exact zb_X12_level_23  e
    · refine gy_if_lt (tgt := 23) (gi_rgS g17) dX12_level_11 (by decide) (fun z => absurd z c18) (fun _ => ?_)
      refine gx_iload_n dX12_level_14 rfl 3 rfl ?_
      refine gy_iconst dX12_level_15 ?_
      refine gx_iE e (fun c19 e => ?_) (fun c19 e => ?_)
      · refine gy_icmp_gt (tgt := 23) (gi_rgS g17) (by decide) dX12_level_16 (by decide) (fun _ => ?_) (fun z => absurd c19 z)
        exact zb_X12_level_23  e
      · refine gy_icmp_gt (tgt := 23) (gi_rgS g17) (by decide) dX12_level_16 (by decide) (fun z => absurd z c19) (fun _ => ?_)
        refine gy_iconst dX12_level_19 ?_
        refine gx_goto (tgt := 24) dX12_level_20 (by decide) ?_
        exact zb_X12_level_24  e
/-! X11_productions  -/
set_option maxRecDepth 100000 in
def f_X11_productions (v0 : Nat) (h : gi_H) : Option (Int) :=
  Option.bind (gi_gR h v0 9 1) fun t1 => Option.bind (gi_is h t1 3) fun _ => Option.bind (f_X4_count t1 h) fun q3 => some q3
set_option maxRecDepth 100000 in
theorem z_X11_productions {al : Bool} {v0 : Nat} {h : gi_H} {res : Int} (e : f_X11_productions v0 h = some res) : gx_Cw mX11_productions al [.ref v0] (gi_cv h) (.inl (some (.int (gI res)))) (gi_cv h) := by
  refine gx_enter (by decide +kernel) rfl (Nat.le_of_ble_eq_true rfl) ?_
  show gx_Z mX11_productions al al 0 0 0 [(0, .ref v0)] [] (gi_cv h) (.inl (some (.int (gI res)))) (gi_cv h)
  refine gx_aload_n dX11_productions_0 rfl 0 rfl ?_
  refine gx_bE e (fun t1 ht1 e => ?_)
  refine gy_fR ht1 dX11_productions_1 gf_RX11_35_9_1 (by decide) gkN_9_1 gkR_9_1 ?_
  refine gx_bE e (fun _ hu2 e => ?_)
  refine gx_bE e (fun q3 hq3 e => ?_)
  refine gx_callV (n := 0) (st := []) (As := []) (b := t1) dX11_productions_4 (z_X4_count hq3) rfl ⟨rfl, gw_cw_X4_count, gw_3, gp_X4_count, ⟨Nat.le_of_ble_eq_true rfl, Nat.le_of_ble_eq_true rfl⟩⟩ (gi_isS hu2) (by decide) gw_392 gw_393 gw_394 rfl ⟨Nat.le_of_ble_eq_true rfl, Nat.le_of_ble_eq_true rfl⟩ (Nat.le_of_ble_eq_true rfl) (gy_k1 (x := .int (gI q3)) (kc2 := 0) (ks2 := 0) ⟨rfl, rfl⟩ ?_) gy_kn
  cases e
  exact gx_iret dX11_productions_7 rfl ⟨Nat.le_of_ble_eq_true rfl, Nat.le_of_ble_eq_true rfl⟩ (fun z => z)
/-! X12_productions  -/
set_option maxRecDepth 100000 in
def f_X12_productions (v0 : Nat) (h : gi_H) : Option (Int × gi_H) :=
  Option.bind (gi_pI h v0 10 44 (0 : Int)) fun h1 => Option.bind (gi_gR h1 v0 10 3) fun t2 => Option.bind (gi_gI h1 v0 10 9) fun t3 => Option.bind (gi_aI h1 1 t2 t3) fun t4 => some (t4, h1)
set_option maxRecDepth 100000 in
theorem z_X12_productions {al : Bool} {v0 : Nat} {h : gi_H} {res : Int} {h1 : gi_H} (e : f_X12_productions v0 h = some (res, h1)) : gx_Cw mX12_productions al [.ref v0] (gi_cv h) (.inl (some (.int (gI res)))) (gi_cv h1) := by
  refine gx_enter (by decide +kernel) rfl (Nat.le_of_ble_eq_true rfl) ?_
  show gx_Z mX12_productions al al 0 0 0 [(0, .ref v0)] [] (gi_cv h) (.inl (some (.int (gI res)))) (gi_cv h1)
  refine gx_aload_n dX12_productions_0 rfl 0 rfl ?_
  refine gy_iconst dX12_productions_1 ?_
  refine gx_bE e (fun h1 hh1 e => ?_)
  refine gy_qI hh1 dX12_productions_2 gf_RX12_104_10_44 (by decide) gkN_10_44 rfl (Or.inl rfl) ?_
  refine gx_aload_n dX12_productions_5 rfl 0 rfl ?_
  refine gx_bE e (fun t2 ht2 e => ?_)
  refine gy_fR ht2 dX12_productions_6 gf_RX12_19_10_3 (by decide) gkN_10_3 gkR_10_3 ?_
  refine gx_aload_n dX12_productions_9 rfl 0 rfl ?_
  refine gx_bE e (fun t3 ht3 e => ?_)
  refine gy_fI ht3 dX12_productions_10 gf_RX12_139_10_9 (by decide) gkN_10_9 gkR_10_9 ?_
  refine gx_bE e (fun t4 ht4 e => ?_)
  refine gy_l1 ht4 dX12_productions_13 ?_
  cases e
  exact gx_iret dX12_productions_14 rfl ⟨Nat.le_of_ble_eq_true rfl, Nat.le_of_ble_eq_true rfl⟩ (fun z => z)
/-! X11_left  -/
set_option maxRecDepth 100000 in
def b_X11_left_15    (h : gi_H) : Option ((Int ⊕ String) × gi_H) :=
  some (.inr gx_IOB, h)
set_option maxRecDepth 100000 in
theorem zb_X11_left_15  {res : Int ⊕ String} {h1 : gi_H}    {h : gi_H} (e : b_X11_left_15  h = some (res, h1)) : gx_Z mX11_left false false 0 0 15 [] [] (gi_cv h) (gx_oI res) (gi_cv h1) := by
  cases e
  exact gx_throw rfl gt_151_188_155 rfl dX11_left_15 dX11_left_18 dX11_left_19 dX11_left_21 dX11_left_24 (Nat.le_of_ble_eq_true rfl) (Nat.le_of_ble_eq_true rfl) ⟨Nat.le_of_ble_eq_true rfl, Nat.le_of_ble_eq_true rfl⟩
set_option maxRecDepth 100000 in
def f_X11_left (v0 : Nat) (v1 : Int) (h : gi_H) : Option ((Int ⊕ String) × gi_H) :=
  Option.bind (gi_rg v1) fun _ => if v1 < 0 then (b_X11_left_15   h) else (Option.bind (gi_gR h v0 9 1) fun t3 => Option.bind (gi_is h t3 3) fun _ => Option.bind (f_X4_count t3 h) fun q5 => Option.bind (gi_rg q5) fun _ => if v1 < q5 then (Option.bind (gi_gR h v0 9 1) fun t8 => Option.bind (gi_is h t8 3) fun _ => Option.bind (f_X4_owner t8 v1 h) fun q10 => some (.inl q10, h)) else (b_X11_left_15   h))
set_option maxRecDepth 100000 in
theorem z_X11_left {v0 : Nat} {v1 : Int} {h : gi_H} {res : Int ⊕ String} {h1 : gi_H} (e : f_X11_left v0 v1 h = some (res, h1)) : gx_Cw mX11_left false [.ref v0, .int (gI v1)] (gi_cv h) (gx_oI res) (gi_cv h1) := by
  refine gx_enter (by decide +kernel) rfl (Nat.le_of_ble_eq_true rfl) ?_
  show gx_Z mX11_left false false 0 0 0 [(0, .ref v0), (1, .int (gI v1))] [] (gi_cv h) (gx_oI res) (gi_cv h1)
  refine gx_iload_n dX11_left_0 rfl 1 rfl ?_
  refine gx_bE e (fun _ g1 e => ?_)
  refine gx_iE e (fun c2 e => ?_) (fun c2 e => ?_)
  · refine gy_if_lt (tgt := 15) (gi_rgS g1) dX11_left_1 (by decide) (fun _ => ?_) (fun z => absurd c2 z)
    refine gx_sub (ls2 := []) [] rfl ?_
    exact zb_X11_left_15  e
  · refine gy_if_lt (tgt := 15) (gi_rgS g1) dX11_left_1 (by decide) (fun z => absurd z c2) (fun _ => ?_)
    refine gx_iload_n dX11_left_4 rfl 1 rfl ?_
    refine gx_aload_n dX11_left_5 rfl 0 rfl ?_
    refine gx_bE e (fun t3 ht3 e => ?_)
    refine gy_fR ht3 dX11_left_6 gf_RX11_35_9_1 (by decide) gkN_9_1 gkR_9_1 ?_
    refine gx_bE e (fun _ hu4 e => ?_)
    refine gx_bE e (fun q5 hq5 e => ?_)
    refine gx_callV (n := 0) (st := [.int (gI v1)]) (As := []) (b := t3) dX11_left_9 (z_X4_count hq5) rfl ⟨rfl, gw_cw_X4_count, gw_3, gp_X4_count, ⟨Nat.le_of_ble_eq_true rfl, Nat.le_of_ble_eq_true rfl⟩⟩ (gi_isS hu4) (by decide) gw_392 gw_393 gw_394 rfl ⟨Nat.le_of_ble_eq_true rfl, Nat.le_of_ble_eq_true rfl⟩ (Nat.le_of_ble_eq_true rfl) (gy_k1 (x := .int (gI q5)) (kc2 := 0) (ks2 := 0) ⟨rfl, rfl⟩ ?_) gy_kn
    refine gx_bE e (fun _ g6 e => ?_)
    refine gx_iE e (fun c7 e => ?_) (fun c7 e => ?_)
    · refine gy_icmp_lt (tgt := 25) (gi_rgS g1) (gi_rgS g6) dX11_left_12 (by decide) (fun _ => ?_) (fun z => absurd c7 z)
      refine gx_aload_n dX11_left_25 rfl 0 rfl ?_
      refine gx_bE e (fun t8 ht8 e => ?_)
      refine gy_fR ht8 dX11_left_26 gf_RX11_35_9_1 (by decide) gkN_9_1 gkR_9_1 ?_
      refine gx_iload_n dX11_left_29 rfl 1 rfl ?_
      refine gx_bE e (fun _ hu9 e => ?_)
      refine gx_bE e (fun q10 hq10 e => ?_)
      refine gx_callV (n := 1) (st := []) (As := [.int (gI v1)]) (b := t8) dX11_left_30 (z_X4_owner hq10) rfl ⟨rfl, gw_cw_X4_owner, gw_3, gp_X4_owner, ⟨Nat.le_of_ble_eq_true rfl, Nat.le_of_ble_eq_true rfl⟩⟩ (gi_isS hu9) (by decide) gw_1097 gw_416 gw_417 rfl ⟨Nat.le_of_ble_eq_true rfl, Nat.le_of_ble_eq_true rfl⟩ (Nat.le_of_ble_eq_true rfl) (gy_k1 (x := .int (gI q10)) (kc2 := 0) (ks2 := 0) ⟨rfl, rfl⟩ ?_) gy_kn
      cases e
      exact gx_iret dX11_left_33 rfl ⟨Nat.le_of_ble_eq_true rfl, Nat.le_of_ble_eq_true rfl⟩ (fun z => z)
    · refine gy_icmp_lt (tgt := 25) (gi_rgS g1) (gi_rgS g6) dX11_left_12 (by decide) (fun z => absurd z c7) (fun _ => ?_)
      refine gx_sub (ls2 := []) [] rfl ?_
      exact zb_X11_left_15  e
/-! L_left  -/
set_option maxRecDepth 100000 in
def f_L_left (v0 : Nat) (v1 : Int) (v2 : Nat) (h : gi_H) : Option (Int × gi_H) :=
  Option.bind (gi_is h v0 9) fun _ => Option.bind (f_X11_left v0 v1 h) fun q2 => gx_sm q2.1 (fun t3 => Option.bind (gi_rg t3) fun _ => Option.bind (gi_s2 q2.2 v2 (0 : Int) t3) fun h5 => some ((0 : Int), h5)) (fun t3 => if t3 = gx_IOB then (some ((1 : Int), q2.2)) else (none))
set_option maxRecDepth 100000 in
theorem z_L_left {v0 : Nat} {v1 : Int} {v2 : Nat} {h : gi_H} {res : Int} {h1 : gi_H} (e : f_L_left v0 v1 v2 h = some (res, h1)) : gx_Cw mL_left false [.ref v0, .int (gI v1), .ref v2] (gi_cv h) (.inl (some (.int (gI res)))) (gi_cv h1) := by
  refine gx_enter (by decide +kernel) rfl (Nat.le_of_ble_eq_true rfl) ?_
  show gx_Z mL_left false false 0 0 0 [(0, .ref v0), (1, .int (gI v1)), (2, .ref v2)] [] (gi_cv h) (.inl (some (.int (gI res)))) (gi_cv h1)
  refine gx_aload_n dL_left_0 rfl 2 rfl ?_
  refine gy_iconst dL_left_1 ?_
  refine gx_aload_n dL_left_2 rfl 0 rfl ?_
  refine gx_iload_n dL_left_3 rfl 1 rfl ?_
  refine gx_bE e (fun _ hu1 e => ?_)
  refine gx_bE e (fun q2 hq2 e => ?_)
  refine gx_smE e (fun t3 ht3 e => ?_) (fun t3 ht3 e => ?_)
  · have zq2 := z_X11_left hq2
    rw [ht3] at zq2
    refine gx_callV (n := 1) (st := [.int (gI (0 : Int)), .ref v2]) (As := [.int (gI v1)]) (b := v0) dL_left_4 zq2 rfl ⟨rfl, gw_cw_X11_left, gw_1, gp_X11_left, ⟨Nat.le_of_ble_eq_true rfl, Nat.le_of_ble_eq_true rfl⟩⟩ (gi_isS hu1) (by decide) gw_1092 gw_1093 gw_1094 rfl ⟨Nat.le_of_ble_eq_true rfl, Nat.le_of_ble_eq_true rfl⟩ (Nat.le_of_ble_eq_true rfl) (gy_k1 (x := .int (gI t3)) (kc2 := 1) (ks2 := 6) ⟨rfl, rfl⟩ ?_) gy_kn
    refine gx_bE e (fun _ g4 e => ?_)
    refine gy_i2l (gi_rgS g4) dL_left_7 ?_
    refine gx_bE e (fun h5 hh5 e => ?_)
    refine gy_t2 hh5 dL_left_8 ?_
    refine gx_goto (tgt := 15) dL_left_9 (by decide) ?_
    refine gy_iconst dL_left_15 ?_
    cases e
    exact gx_iret dL_left_16 rfl ⟨Nat.le_of_ble_eq_true rfl, Nat.le_of_ble_eq_true rfl⟩ (fun z => z)
  · have zq2 := z_X11_left hq2
    rw [ht3] at zq2
    refine gx_callV (n := 1) (st := [.int (gI (0 : Int)), .ref v2]) (As := [.int (gI v1)]) (b := v0) dL_left_4 zq2 rfl ⟨rfl, gw_cw_X11_left, gw_1, gp_X11_left, ⟨Nat.le_of_ble_eq_true rfl, Nat.le_of_ble_eq_true rfl⟩⟩ (gi_isS hu1) (by decide) gw_1092 gw_1093 gw_1094 rfl ⟨Nat.le_of_ble_eq_true rfl, Nat.le_of_ble_eq_true rfl⟩ (Nat.le_of_ble_eq_true rfl) gy_kN (gy_kE (kc2 := 1) (ks2 := 6) ⟨rfl, rfl⟩ ?_)
    refine gx_iE e (fun c6 e => ?_) (fun c6 e => ?_)
    · rw [c6]
      refine gx_catch (ls2 := [(0, .ref v0), (1, .int (gI v1)), (2, .ref v2)]) [] (x := (0, 9, 12, 28)) rfl (fun z hz => by cases hz) (by decide +kernel) (by decide) gw_1028 (by decide +kernel) (Nat.le_of_ble_eq_true rfl) (Or.inl ⟨3, rfl, rfl, dL_left_12⟩) rfl ?_
      refine gy_iconst dL_left_13 ?_
      cases e
      exact gx_iret dL_left_14 rfl ⟨Nat.le_of_ble_eq_true rfl, Nat.le_of_ble_eq_true rfl⟩ (fun z => z)
    cases e
/-! X12_left  -/
set_option maxRecDepth 100000 in
def f_X12_left (v0 : Nat) (v1 : Int) (h : gi_H) : Option (Int × gi_H) :=
  Option.bind (gi_gR h v0 10 3) fun t1 => Option.bind (gi_gI h v0 10 9) fun t2 => Option.bind (gi_aI h 1 t1 t2) fun t3 => Option.bind (f_X12_isBelow v1 t3 h) fun q4 => Option.bind (gi_is h v0 10) fun _ => Option.bind (f_X12_goes v0 q4 (1 : Int) (1 : Int) h) fun q6 => Option.bind (gi_rg q6.1) fun _ => if q6.1 = 0 then (some ((0 : Int), q6.2)) else (Option.bind (gi_gR q6.2 v0 10 0) fun t9 => Option.bind (gi_gI q6.2 v0 10 9) fun t10 => Option.bind (gi_aI q6.2 1 t9 (((24 : Int) * t10) + v1)) fun t11 => some (t11, q6.2))
set_option maxRecDepth 100000 in
theorem z_X12_left {al : Bool} {v0 : Nat} {v1 : Int} {h : gi_H} {res : Int} {h1 : gi_H} (e : f_X12_left v0 v1 h = some (res, h1)) : gx_Cw mX12_left al [.ref v0, .int (gI v1)] (gi_cv h) (.inl (some (.int (gI res)))) (gi_cv h1) := by
  refine gx_enter (by decide +kernel) rfl (Nat.le_of_ble_eq_true rfl) ?_
  show gx_Z mX12_left al al 0 0 0 [(0, .ref v0), (1, .int (gI v1))] [] (gi_cv h) (.inl (some (.int (gI res)))) (gi_cv h1)
  refine gx_aload_n dX12_left_0 rfl 0 rfl ?_
  refine gx_iload_n dX12_left_1 rfl 1 rfl ?_
  refine gx_aload_n dX12_left_2 rfl 0 rfl ?_
  refine gx_bE e (fun t1 ht1 e => ?_)
  refine gy_fR ht1 dX12_left_3 gf_RX12_19_10_3 (by decide) gkN_10_3 gkR_10_3 ?_
  refine gx_aload_n dX12_left_6 rfl 0 rfl ?_
  refine gx_bE e (fun t2 ht2 e => ?_)
  refine gy_fI ht2 dX12_left_7 gf_RX12_139_10_9 (by decide) gkN_10_9 gkR_10_9 ?_
  refine gx_bE e (fun t3 ht3 e => ?_)
  refine gy_l1 ht3 dX12_left_10 ?_
  refine gx_bE e (fun q4 hq4 e => ?_)
  refine gx_callS (n := 2) (st := [.ref v0]) (As := [.int (gI v1), .int (gI t3)]) dX12_left_11 (z_X12_isBelow hq4) rfl ⟨rfl, gw_cw_X12_isBelow, gw_14, gp_X12_isBelow, ⟨Nat.le_of_ble_eq_true rfl, Nat.le_of_ble_eq_true rfl⟩⟩ gw_1540 gw_1541 ⟨Nat.le_of_ble_eq_true rfl, Nat.le_of_ble_eq_true rfl⟩ (Nat.le_of_ble_eq_true rfl) (gy_k1 (x := .int (gI q4)) (kc2 := 0) (ks2 := 0) ⟨rfl, rfl⟩ ?_) gy_kn
  refine gy_iconst dX12_left_14 ?_
  refine gy_iconst dX12_left_15 ?_
  refine gx_bE e (fun _ hu5 e => ?_)
  refine gx_bE e (fun q6 hq6 e => ?_)
  refine gx_callV (n := 3) (st := []) (As := [.int (gI q4), .int (gI (1 : Int)), .int (gI (1 : Int))]) (b := v0) dX12_left_16 (z_X12_goes hq6) rfl ⟨rfl, gw_cw_X12_goes, gw_14, gp_X12_goes, ⟨Nat.le_of_ble_eq_true rfl, Nat.le_of_ble_eq_true rfl⟩⟩ (gi_isS hu5) (by decide) gw_1480 gw_1482 gs_58 rfl ⟨Nat.le_of_ble_eq_true rfl, Nat.le_of_ble_eq_true rfl⟩ (Nat.le_of_ble_eq_true rfl) (gy_k1 (x := .int (gI q6.1)) (kc2 := 0) (ks2 := 0) ⟨rfl, rfl⟩ ?_) gy_kn
  refine gx_bE e (fun _ g7 e => ?_)
  refine gx_iE e (fun c8 e => ?_) (fun c8 e => ?_)
  · refine gy_if_eq (tgt := 39) (gi_rgS g7) dX12_left_19 (by decide) (fun _ => ?_) (fun z => absurd c8 z)
    refine gy_iconst dX12_left_39 ?_
    cases e
    exact gx_iret dX12_left_40 rfl ⟨Nat.le_of_ble_eq_true rfl, Nat.le_of_ble_eq_true rfl⟩ (fun z => z)
  · refine gy_if_eq (tgt := 39) (gi_rgS g7) dX12_left_19 (by decide) (fun z => absurd z c8) (fun _ => ?_)
    refine gx_aload_n dX12_left_22 rfl 0 rfl ?_
    refine gx_bE e (fun t9 ht9 e => ?_)
    refine gy_fR ht9 dX12_left_23 gf_RX12_7_10_0 (by decide) gkN_10_0 gkR_10_0 ?_
    refine gy_bipush dX12_left_26 gcb_24 ?_
    refine gx_aload_n dX12_left_28 rfl 0 rfl ?_
    refine gx_bE e (fun t10 ht10 e => ?_)
    refine gy_fI ht10 dX12_left_29 gf_RX12_139_10_9 (by decide) gkN_10_9 gkR_10_9 ?_
    refine gy_imul dX12_left_32 ?_
    refine gx_iload_n dX12_left_33 rfl 1 rfl ?_
    refine gy_iadd dX12_left_34 ?_
    refine gx_bE e (fun t11 ht11 e => ?_)
    refine gy_l1 ht11 dX12_left_35 ?_
    refine gx_goto (tgt := 40) dX12_left_36 (by decide) ?_
    cases e
    exact gx_iret dX12_left_40 rfl ⟨Nat.le_of_ble_eq_true rfl, Nat.le_of_ble_eq_true rfl⟩ (fun z => z)
/-! X11_right  -/
set_option maxRecDepth 100000 in
def b_X11_right_24    (h : gi_H) : Option ((Int ⊕ String) × gi_H) :=
  some (.inr gx_IOB, h)
set_option maxRecDepth 100000 in
theorem zb_X11_right_24  {res : Int ⊕ String} {h1 : gi_H}    {h : gi_H} (e : b_X11_right_24  h = some (res, h1)) : gx_Z mX11_right false false 0 0 24 [] [] (gi_cv h) (gx_oI res) (gi_cv h1) := by
  cases e
  exact gx_throw rfl gt_151_194_155 rfl dX11_right_24 dX11_right_27 dX11_right_28 dX11_right_30 dX11_right_33 (Nat.le_of_ble_eq_true rfl) (Nat.le_of_ble_eq_true rfl) ⟨Nat.le_of_ble_eq_true rfl, Nat.le_of_ble_eq_true rfl⟩
set_option maxRecDepth 100000 in
def f_X11_right (v0 : Nat) (v1 : Int) (v2 : Int) (h : gi_H) : Option ((Int ⊕ String) × gi_H) :=
  Option.bind (gi_rg v1) fun _ => if v1 < 0 then (b_X11_right_24   h) else (Option.bind (gi_gR h v0 9 1) fun t3 => Option.bind (gi_is h t3 3) fun _ => Option.bind (f_X4_count t3 h) fun q5 => Option.bind (gi_rg q5) fun _ => if q5 ≤ v1 then (b_X11_right_24   h) else (Option.bind (gi_rg v2) fun _ => if v2 < 0 then (b_X11_right_24   h) else (if v2 < (5 : Int) then (Option.bind (gi_gR h v0 9 1) fun t11 => Option.bind (gi_is h t11 3) fun _ => Option.bind (f_X4_symbol t11 v1 v2 h) fun q13 => some (.inl q13, h)) else (b_X11_right_24   h))))
set_option maxRecDepth 100000 in
theorem z_X11_right {v0 : Nat} {v1 : Int} {v2 : Int} {h : gi_H} {res : Int ⊕ String} {h1 : gi_H} (e : f_X11_right v0 v1 v2 h = some (res, h1)) : gx_Cw mX11_right false [.ref v0, .int (gI v1), .int (gI v2)] (gi_cv h) (gx_oI res) (gi_cv h1) := by
  refine gx_enter (by decide +kernel) rfl (Nat.le_of_ble_eq_true rfl) ?_
  show gx_Z mX11_right false false 0 0 0 [(0, .ref v0), (1, .int (gI v1)), (2, .int (gI v2))] [] (gi_cv h) (gx_oI res) (gi_cv h1)
  refine gx_iload_n dX11_right_0 rfl 1 rfl ?_
  refine gx_bE e (fun _ g1 e => ?_)
  refine gx_iE e (fun c2 e => ?_) (fun c2 e => ?_)
  · refine gy_if_lt (tgt := 24) (gi_rgS g1) dX11_right_1 (by decide) (fun _ => ?_) (fun z => absurd c2 z)
    refine gx_sub (ls2 := []) [] rfl ?_
    exact zb_X11_right_24  e
  · refine gy_if_lt (tgt := 24) (gi_rgS g1) dX11_right_1 (by decide) (fun z => absurd z c2) (fun _ => ?_)
    refine gx_iload_n dX11_right_4 rfl 1 rfl ?_
    refine gx_aload_n dX11_right_5 rfl 0 rfl ?_
    refine gx_bE e (fun t3 ht3 e => ?_)
    refine gy_fR ht3 dX11_right_6 gf_RX11_35_9_1 (by decide) gkN_9_1 gkR_9_1 ?_
    refine gx_bE e (fun _ hu4 e => ?_)
    refine gx_bE e (fun q5 hq5 e => ?_)
    refine gx_callV (n := 0) (st := [.int (gI v1)]) (As := []) (b := t3) dX11_right_9 (z_X4_count hq5) rfl ⟨rfl, gw_cw_X4_count, gw_3, gp_X4_count, ⟨Nat.le_of_ble_eq_true rfl, Nat.le_of_ble_eq_true rfl⟩⟩ (gi_isS hu4) (by decide) gw_392 gw_393 gw_394 rfl ⟨Nat.le_of_ble_eq_true rfl, Nat.le_of_ble_eq_true rfl⟩ (Nat.le_of_ble_eq_true rfl) (gy_k1 (x := .int (gI q5)) (kc2 := 0) (ks2 := 0) ⟨rfl, rfl⟩ ?_) gy_kn
    refine gx_bE e (fun _ g6 e => ?_)
    refine gx_iE e (fun c7 e => ?_) (fun c7 e => ?_)
    · refine gy_icmp_ge (tgt := 24) (gi_rgS g1) (gi_rgS g6) dX11_right_12 (by decide) (fun _ => ?_) (fun z => absurd c7 z)
      refine gx_sub (ls2 := []) [] rfl ?_
      exact zb_X11_right_24  e
    · refine gy_icmp_ge (tgt := 24) (gi_rgS g1) (gi_rgS g6) dX11_right_12 (by decide) (fun z => absurd z c7) (fun _ => ?_)
      refine gx_iload_n dX11_right_15 rfl 2 rfl ?_
      refine gx_bE e (fun _ g8 e => ?_)
      refine gx_iE e (fun c9 e => ?_) (fun c9 e => ?_)
      · refine gy_if_lt (tgt := 24) (gi_rgS g8) dX11_right_16 (by decide) (fun _ => ?_) (fun z => absurd c9 z)
        refine gx_sub (ls2 := []) [] rfl ?_
        exact zb_X11_right_24  e
      · refine gy_if_lt (tgt := 24) (gi_rgS g8) dX11_right_16 (by decide) (fun z => absurd z c9) (fun _ => ?_)
        refine gx_iload_n dX11_right_19 rfl 2 rfl ?_
        refine gy_iconst dX11_right_20 ?_
        refine gx_iE e (fun c10 e => ?_) (fun c10 e => ?_)
        · refine gy_icmp_lt (tgt := 34) (gi_rgS g8) (by decide) dX11_right_21 (by decide) (fun _ => ?_) (fun z => absurd c10 z)
          refine gx_aload_n dX11_right_34 rfl 0 rfl ?_
          refine gx_bE e (fun t11 ht11 e => ?_)
          refine gy_fR ht11 dX11_right_35 gf_RX11_35_9_1 (by decide) gkN_9_1 gkR_9_1 ?_
          refine gx_iload_n dX11_right_38 rfl 1 rfl ?_
          refine gx_iload_n dX11_right_39 rfl 2 rfl ?_
          refine gx_bE e (fun _ hu12 e => ?_)
          refine gx_bE e (fun q13 hq13 e => ?_)
          refine gx_callV (n := 2) (st := []) (As := [.int (gI v1), .int (gI v2)]) (b := t11) dX11_right_40 (z_X4_symbol hq13) rfl ⟨rfl, gw_cw_X4_symbol, gw_3, gp_X4_symbol, ⟨Nat.le_of_ble_eq_true rfl, Nat.le_of_ble_eq_true rfl⟩⟩ (gi_isS hu12) (by decide) gw_1106 gw_428 gw_429 rfl ⟨Nat.le_of_ble_eq_true rfl, Nat.le_of_ble_eq_true rfl⟩ (Nat.le_of_ble_eq_true rfl) (gy_k1 (x := .int (gI q13)) (kc2 := 0) (ks2 := 0) ⟨rfl, rfl⟩ ?_) gy_kn
          cases e
          exact gx_iret dX11_right_43 rfl ⟨Nat.le_of_ble_eq_true rfl, Nat.le_of_ble_eq_true rfl⟩ (fun z => z)
        · refine gy_icmp_lt (tgt := 34) (gi_rgS g8) (by decide) dX11_right_21 (by decide) (fun z => absurd z c10) (fun _ => ?_)
          refine gx_sub (ls2 := []) [] rfl ?_
          exact zb_X11_right_24  e
