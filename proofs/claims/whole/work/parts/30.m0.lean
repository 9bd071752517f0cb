/-! X8_init  -/
set_option maxRecDepth 100000 in
def f_X8_init (v0 : Nat) (h : gi_H) : Option (gi_H) :=
  Option.bind (gi_mk h) fun _ => gx_nm (gi_nw h (3, 24)) fun h1 => Option.bind (gi_pR h1 v0 7 0 (gi_sz h)) fun h2 => some h2
set_option maxRecDepth 100000 in
theorem z_X8_init {v0 : Nat} {h : gi_H} {h1 : gi_H} (e : f_X8_init v0 h = some h1) : gx_Cw mX8_init true [.ref v0] (gi_cv h) (.inl none) (gi_cv h1) := by
  refine gx_enter (by decide +kernel) rfl (Nat.le_of_ble_eq_true rfl) ?_
  show gx_Z mX8_init true true 0 0 0 [(0, .ref v0)] [] (gi_cv h) (.inl none) (gi_cv h1)
  refine gx_aload_n dX8_init_0 rfl 0 rfl ?_
  refine gx_obj dX8_init_1 gw_35 gw_28 gw_29 (Nat.le_of_ble_eq_true rfl) (Nat.le_of_ble_eq_true rfl) ?_
  refine gx_aload_n dX8_init_4 rfl 0 rfl ?_
  refine gy_bipush dX8_init_5 gcb_24 ?_
  refine gx_bE e (fun _ gh1 e => ?_)
  refine gx_nE e (fun h1 hh1 e => ?_)
  refine gy_newa3 (N := 24) gh1 hh1 dX8_init_7 gw_43 (by decide +kernel) (by decide +kernel) (by decide) rfl (kc2 := 1) (ks2 := 24) ⟨rfl, rfl⟩ ⟨Nat.le_of_ble_eq_true rfl, Nat.le_of_ble_eq_true rfl⟩ ?_
  refine gx_bE e (fun h2 hh2 e => ?_)
  refine gy_qR hh2 dX8_init_9 gf_RX8_9_7_0 (by decide) gkN_7_0 gkR_7_0 (Or.inr ⟨rfl, rfl, rfl⟩) ?_
  cases e
  exact gx_vret dX8_init_12 rfl ⟨Nat.le_of_ble_eq_true rfl, Nat.le_of_ble_eq_true rfl⟩ (fun z => z)
/-! X7_init  -/
set_option maxRecDepth 100000 in
def f_X7_init (v0 : Nat) (h : gi_H) : Option (gi_H) :=
  Option.bind (gi_mk h) fun _ => gx_nm (gi_nw h (1, 24)) fun h1 => Option.bind (gi_pR h1 v0 6 0 (gi_sz h)) fun h2 => some h2
set_option maxRecDepth 100000 in
theorem z_X7_init {v0 : Nat} {h : gi_H} {h1 : gi_H} (e : f_X7_init v0 h = some h1) : gx_Cw mX7_init true [.ref v0] (gi_cv h) (.inl none) (gi_cv h1) := by
  refine gx_enter (by decide +kernel) rfl (Nat.le_of_ble_eq_true rfl) ?_
  show gx_Z mX7_init true true 0 0 0 [(0, .ref v0)] [] (gi_cv h) (.inl none) (gi_cv h1)
  refine gx_aload_n dX7_init_0 rfl 0 rfl ?_
  refine gx_obj dX7_init_1 gw_58 gw_28 gw_29 (Nat.le_of_ble_eq_true rfl) (Nat.le_of_ble_eq_true rfl) ?_
  refine gx_aload_n dX7_init_4 rfl 0 rfl ?_
  refine gy_bipush dX7_init_5 gcb_24 ?_
  refine gx_bE e (fun _ gh1 e => ?_)
  refine gx_nE e (fun h1 hh1 e => ?_)
  refine gy_newa1 (N := 24) gh1 hh1 dX7_init_7 gw_66 (by decide +kernel) (by decide +kernel) (by decide) rfl (kc2 := 1) (ks2 := 24) ⟨rfl, rfl⟩ ⟨Nat.le_of_ble_eq_true rfl, Nat.le_of_ble_eq_true rfl⟩ ?_
  refine gx_bE e (fun h2 hh2 e => ?_)
  refine gy_qR hh2 dX7_init_9 gf_RX7_9_6_0 (by decide) gkN_6_0 gkR_6_0 (Or.inr ⟨rfl, rfl, rfl⟩) ?_
  cases e
  exact gx_vret dX7_init_12 rfl ⟨Nat.le_of_ble_eq_true rfl, Nat.le_of_ble_eq_true rfl⟩ (fun z => z)
/-! X4_init  -/
set_option maxRecDepth 100000 in
def b_X4_init_69 (n : Nat) (r69 : Nat → Int → gi_H → Option (gi_H)) (v0 : Nat) (v1 : Int)  (h : gi_H) : Option (gi_H) :=
  Option.bind (gi_gR h v0 3 4) fun t17 => Option.bind (gi_ln h t17) fun t18 => Option.bind (gi_rg v1) fun _ => Option.bind (gi_rg t18) fun _ => if t18 ≤ v1 then (some h) else (Option.bind (gi_gR h v0 3 4) fun t22 => Option.bind (gi_mk h) fun _ => gx_nm (gi_nw h (0, 7)) fun h23 => Option.bind (f_X8_init (gi_sz h) h23) fun q24 => Option.bind (gi_s5 q24 t22 v1 (gi_sz h)) fun h25 => gx_nm (v1 + (1 : Int)) fun t26 => r69 v0 t26 h25)
set_option maxRecDepth 100000 in
theorem zb_X4_init_69 {n : Nat} {r69 : Nat → Int → gi_H → Option (gi_H)} {h1 : gi_H} {kc ks k : Nat} (hkc : kc + (k + 1) * 2 ≤ (gx_rm mX4_init).cells) (hks : ks + (k + 1) * 26 ≤ (gx_rm mX4_init).slots) (hr69 : ∀ (kc ks : Nat) (x0 : Nat) (x1 : Int) (hh : gi_H), kc + k * 2 ≤ (gx_rm mX4_init).cells → ks + k * 26 ≤ (gx_rm mX4_init).slots → r69 x0 x1 hh = some h1 → gx_Z mX4_init true true kc ks 69 [(0, .ref x0), (1, .int (gI x1))] [] (gi_cv hh) (.inl none) (gi_cv h1)) {v0 : Nat} {v1 : Int}  {h : gi_H} (e : b_X4_init_69 n r69 v0 v1 h = some h1) : gx_Z mX4_init true true kc ks 69 [(0, .ref v0), (1, .int (gI v1))] [] (gi_cv h) (.inl none) (gi_cv h1) := by
  refine gx_iload_n dX4_init_69 rfl 1 rfl ?_
  refine gx_aload_n dX4_init_70 rfl 0 rfl ?_
  refine gx_bE e (fun t17 ht17 e => ?_)
  refine gy_fR ht17 dX4_init_71 gf_RX4_23_3_4 (by decide) gkN_3_4 gkR_3_4 ?_
  refine gx_bE e (fun t18 ht18 e => ?_)
  refine gy_al0 ht18 dX4_init_74 ?_
  refine gx_bE e (fun _ g19 e => ?_)
  refine gx_bE e (fun _ g20 e => ?_)
  refine gx_iE e (fun c21 e => ?_) (fun c21 e => ?_)
  · refine gy_icmp_ge (tgt := 97) (gi_rgS g19) (gi_rgS g20) dX4_init_75 (by decide) (fun _ => ?_) (fun z => absurd c21 z)
    cases e
    exact gx_vret dX4_init_97 rfl ⟨by show kc ≤ _; omega, by show ks ≤ _; omega⟩ (fun z => z)
  · refine gy_icmp_ge (tgt := 97) (gi_rgS g19) (gi_rgS g20) dX4_init_75 (by decide) (fun z => absurd z c21) (fun _ => ?_)
    refine gx_aload_n dX4_init_78 rfl 0 rfl ?_
    refine gx_bE e (fun t22 ht22 e => ?_)
    refine gy_fR ht22 dX4_init_79 gf_RX4_23_3_4 (by decide) gkN_3_4 gkR_3_4 ?_
    refine gx_iload_n dX4_init_82 rfl 1 rfl ?_
    refine gx_bE e (fun _ gh23 e => ?_)
    refine gx_nE e (fun h23 hh23 e => ?_)
    refine gy_new (ci := 7) gh23 hh23 dX4_init_83 (by decide) gw_50 gw_31 gw_2 rfl (kc2 := (kc + 1)) (ks2 := (ks + 2)) ⟨rfl, rfl⟩ ⟨by show (kc + 1) ≤ _; omega, by show (ks + 2) ≤ _; omega⟩ ?_
    refine gx_dup dX4_init_86 rfl ?_
    refine gx_bE e (fun q24 hq24 e => ?_)
    refine gx_callIN (n := 0) (st := [.ref (gi_sz h), .int (gI v1), .ref t22]) (As := []) (b := (gi_sz h)) dX4_init_87 (z_X8_init hq24) rfl ⟨rfl, gw_cw_X8_init, gw_2, gp_X8_init, ⟨Nat.le_of_ble_eq_true rfl, Nat.le_of_ble_eq_true rfl⟩⟩ (host := "Grammarsmith") (by decide +kernel) gw_33 rfl rfl ⟨by show (kc + 2) ≤ _; omega, by show (ks + 26) ≤ _; omega⟩ (Nat.le_of_ble_eq_true rfl) (gy_k0 (kc2 := (kc + 2)) (ks2 := (ks + 26)) ⟨rfl, rfl⟩ ?_) gy_kn
    refine gx_bE e (fun h25 hh25 e => ?_)
    refine gy_t5 hh25 dX4_init_90 ?_
    refine gx_nE e (fun t26 ht26 e => ?_)
    refine gy_iinc (v := t26) (ls2 := [(1, .int (gI t26)), (0, .ref v0)]) dX4_init_91 1 rfl ht26 (Nat.le_of_ble_eq_true rfl) rfl ?_
    refine gx_goto (tgt := 69) dX4_init_94 (by decide) ?_
    refine gx_sub (ls2 := [(0, .ref v0), (1, .int (gI t26))]) [1, 0] rfl ?_
    exact hr69 _ _ _ _ _ (by show (kc + 2) + _ ≤ _; omega) (by show (ks + 26) + _ ≤ _; omega) e
def l_X4_init_69 (n : Nat)  : Nat → Nat → Int → gi_H → Option (gi_H)
  | 0, _, _, _ => none
  | k + 1, v0, v1, h => b_X4_init_69 n  (l_X4_init_69 n  k) v0 v1 h
theorem zl_X4_init_69 {n : Nat}  {h1 : gi_H}  : ∀ (k kc ks : Nat) (v0 : Nat) (v1 : Int) (h : gi_H), kc + k * 2 ≤ (gx_rm mX4_init).cells → ks + k * 26 ≤ (gx_rm mX4_init).slots → l_X4_init_69 n  k v0 v1 h = some h1 → gx_Z mX4_init true true kc ks 69 [(0, .ref v0), (1, .int (gI v1))] [] (gi_cv h) (.inl none) (gi_cv h1)
  | 0, _, _, _, _, _, _, _, e => gx_0E e
  | k + 1, _, _, _, _, _, hkc, hks, e => zb_X4_init_69 (n := n) hkc hks  (fun kc ks => zl_X4_init_69  k kc ks) e
set_option maxRecDepth 100000 in
def f_X4_init (n : Nat) (v0 : Nat) (h : gi_H) : Option (gi_H) :=
  Option.bind (gi_mk h) fun _ => gx_nm (gi_nw h (1, 24)) fun h1 => Option.bind (gi_pR h1 v0 3 0 (gi_sz h)) fun h2 => Option.bind (gi_mk h2) fun _ => gx_nm (gi_nw h2 (1, 120)) fun h3 => Option.bind (gi_pR h3 v0 3 1 (gi_sz h2)) fun h4 => Option.bind (gi_mk h4) fun _ => gx_nm (gi_nw h4 (1, 24)) fun h5 => Option.bind (gi_pR h5 v0 3 2 (gi_sz h4)) fun h6 => Option.bind (gi_mk h6) fun _ => gx_nm (gi_nw h6 (5, 24)) fun h7 => Option.bind (gi_pR h7 v0 3 4 (gi_sz h6)) fun h8 => Option.bind (gi_mk h8) fun _ => gx_nm (gi_nw h8 (1, 24)) fun h9 => Option.bind (gi_pR h9 v0 3 5 (gi_sz h8)) fun h10 => Option.bind (gi_mk h10) fun _ => gx_nm (gi_nw h10 (0, 7)) fun h11 => Option.bind (f_X8_init (gi_sz h10) h11) fun q12 => Option.bind (gi_pR q12 v0 3 8 (gi_sz h10)) fun h13 => Option.bind (gi_mk h13) fun _ => gx_nm (gi_nw h13 (0, 6)) fun h14 => Option.bind (f_X7_init (gi_sz h13) h14) fun q15 => Option.bind (gi_pR q15 v0 3 9 (gi_sz h13)) fun h16 => l_X4_init_69 n  30 v0 (0 : Int) h16
set_option maxRecDepth 100000 in
theorem z_X4_init {n : Nat} {v0 : Nat} {h : gi_H} {h1 : gi_H} (e : f_X4_init n v0 h = some h1) : gx_Cw mX4_init true [.ref v0] (gi_cv h) (.inl none) (gi_cv h1) := by
  refine gx_enter (by decide +kernel) rfl (Nat.le_of_ble_eq_true rfl) ?_
  show gx_Z mX4_init true true 0 0 0 [(0, .ref v0)] [] (gi_cv h) (.inl none) (gi_cv h1)
  refine gx_aload_n dX4_init_0 rfl 0 rfl ?_
  refine gx_obj dX4_init_1 gw_49 gw_28 gw_29 (Nat.le_of_ble_eq_true rfl) (Nat.le_of_ble_eq_true rfl) ?_
  refine gx_aload_n dX4_init_4 rfl 0 rfl ?_
  refine gy_bipush dX4_init_5 gcb_24 ?_
  refine gx_bE e (fun _ gh1 e => ?_)
  refine gx_nE e (fun h1 hh1 e => ?_)
  refine gy_newa1 (N := 24) gh1 hh1 dX4_init_7 gw_66 (by decide +kernel) (by decide +kernel) (by decide) rfl (kc2 := 1) (ks2 := 24) ⟨rfl, rfl⟩ ⟨Nat.le_of_ble_eq_true rfl, Nat.le_of_ble_eq_true rfl⟩ ?_
  refine gx_bE e (fun h2 hh2 e => ?_)
  refine gy_qR hh2 dX4_init_9 gf_RX4_9_3_0 (by decide) gkN_3_0 gkR_3_0 (Or.inr ⟨rfl, rfl, rfl⟩) ?_
  refine gx_aload_n dX4_init_12 rfl 0 rfl ?_
  refine gy_bipush dX4_init_13 gcb_120 ?_
  refine gx_bE e (fun _ gh3 e => ?_)
  refine gx_nE e (fun h3 hh3 e => ?_)
  refine gy_newa1 (N := 120) gh3 hh3 dX4_init_15 gw_66 (by decide +kernel) (by decide +kernel) (by decide) rfl (kc2 := 2) (ks2 := 144) ⟨rfl, rfl⟩ ⟨Nat.le_of_ble_eq_true rfl, Nat.le_of_ble_eq_true rfl⟩ ?_
  refine gx_bE e (fun h4 hh4 e => ?_)
  refine gy_qR hh4 dX4_init_17 gf_RX4_15_3_1 (by decide) gkN_3_1 gkR_3_1 (Or.inr ⟨rfl, rfl, rfl⟩) ?_
  refine gx_aload_n dX4_init_20 rfl 0 rfl ?_
  refine gy_bipush dX4_init_21 gcb_24 ?_
  refine gx_bE e (fun _ gh5 e => ?_)
  refine gx_nE e (fun h5 hh5 e => ?_)
  refine gy_newa1 (N := 24) gh5 hh5 dX4_init_23 gw_66 (by decide +kernel) (by decide +kernel) (by decide) rfl (kc2 := 3) (ks2 := 168) ⟨rfl, rfl⟩ ⟨Nat.le_of_ble_eq_true rfl, Nat.le_of_ble_eq_true rfl⟩ ?_
  refine gx_bE e (fun h6 hh6 e => ?_)
  refine gy_qR hh6 dX4_init_25 gf_RX4_18_3_2 (by decide) gkN_3_2 gkR_3_2 (Or.inr ⟨rfl, rfl, rfl⟩) ?_
  refine gx_aload_n dX4_init_28 rfl 0 rfl ?_
  refine gy_bipush dX4_init_29 gcb_24 ?_
  refine gx_bE e (fun _ gh7 e => ?_)
  refine gx_nE e (fun h7 hh7 e => ?_)
  refine gy_newa5 (N := 24) gh7 hh7 dX4_init_31 gw_50 (by decide +kernel) (by decide +kernel) (by decide) rfl (kc2 := 4) (ks2 := 192) ⟨rfl, rfl⟩ ⟨Nat.le_of_ble_eq_true rfl, Nat.le_of_ble_eq_true rfl⟩ ?_
  refine gx_bE e (fun h8 hh8 e => ?_)
  refine gy_qR hh8 dX4_init_34 gf_RX4_23_3_4 (by decide) gkN_3_4 gkR_3_4 (Or.inr ⟨rfl, rfl, rfl⟩) ?_
  refine gx_aload_n dX4_init_37 rfl 0 rfl ?_
  refine gy_bipush dX4_init_38 gcb_24 ?_
  refine gx_bE e (fun _ gh9 e => ?_)
  refine gx_nE e (fun h9 hh9 e => ?_)
  refine gy_newa1 (N := 24) gh9 hh9 dX4_init_40 gw_66 (by decide +kernel) (by decide +kernel) (by decide) rfl (kc2 := 5) (ks2 := 216) ⟨rfl, rfl⟩ ⟨Nat.le_of_ble_eq_true rfl, Nat.le_of_ble_eq_true rfl⟩ ?_
  refine gx_bE e (fun h10 hh10 e => ?_)
  refine gy_qR hh10 dX4_init_42 gf_RX4_27_3_5 (by decide) gkN_3_5 gkR_3_5 (Or.inr ⟨rfl, rfl, rfl⟩) ?_
  refine gx_aload_n dX4_init_45 rfl 0 rfl ?_
  refine gx_bE e (fun _ gh11 e => ?_)
  refine gx_nE e (fun h11 hh11 e => ?_)
  refine gy_new (ci := 7) gh11 hh11 dX4_init_46 (by decide) gw_50 gw_31 gw_2 rfl (kc2 := 6) (ks2 := 218) ⟨rfl, rfl⟩ ⟨Nat.le_of_ble_eq_true rfl, Nat.le_of_ble_eq_true rfl⟩ ?_
  refine gx_dup dX4_init_49 rfl ?_
  refine gx_bE e (fun q12 hq12 e => ?_)
  refine gx_callIN (n := 0) (st := [.ref (gi_sz h10), .ref v0]) (As := []) (b := (gi_sz h10)) dX4_init_50 (z_X8_init hq12) rfl ⟨rfl, gw_cw_X8_init, gw_2, gp_X8_init, ⟨Nat.le_of_ble_eq_true rfl, Nat.le_of_ble_eq_true rfl⟩⟩ (host := "Grammarsmith") (by decide +kernel) gw_33 rfl rfl ⟨Nat.le_of_ble_eq_true rfl, Nat.le_of_ble_eq_true rfl⟩ (Nat.le_of_ble_eq_true rfl) (gy_k0 (kc2 := 7) (ks2 := 242) ⟨rfl, rfl⟩ ?_) gy_kn
  refine gx_bE e (fun h13 hh13 e => ?_)
  refine gy_qR hh13 dX4_init_53 gf_RX4_31_3_8 (by decide) gkN_3_8 gkR_3_8 (Or.inr ⟨rfl, rfl, rfl⟩) ?_
  refine gx_aload_n dX4_init_56 rfl 0 rfl ?_
  refine gx_bE e (fun _ gh14 e => ?_)
  refine gx_nE e (fun h14 hh14 e => ?_)
  refine gy_new (ci := 6) gh14 hh14 dX4_init_57 (by decide) gw_53 gw_54 gw_4 rfl (kc2 := 8) (ks2 := 244) ⟨rfl, rfl⟩ ⟨Nat.le_of_ble_eq_true rfl, Nat.le_of_ble_eq_true rfl⟩ ?_
  refine gx_dup dX4_init_60 rfl ?_
  refine gx_bE e (fun q15 hq15 e => ?_)
  refine gx_callIN (n := 0) (st := [.ref (gi_sz h13), .ref v0]) (As := []) (b := (gi_sz h13)) dX4_init_61 (z_X7_init hq15) rfl ⟨rfl, gw_cw_X7_init, gw_4, gp_X7_init, ⟨Nat.le_of_ble_eq_true rfl, Nat.le_of_ble_eq_true rfl⟩⟩ (host := "Grammarsmith") (by decide +kernel) gw_56 rfl rfl ⟨Nat.le_of_ble_eq_true rfl, Nat.le_of_ble_eq_true rfl⟩ (Nat.le_of_ble_eq_true rfl) (gy_k0 (kc2 := 9) (ks2 := 268) ⟨rfl, rfl⟩ ?_) gy_kn
  refine gx_bE e (fun h16 hh16 e => ?_)
  refine gy_qR hh16 dX4_init_64 gf_RX4_38_3_9 (by decide) gkN_3_9 gkR_3_9 (Or.inr ⟨rfl, rfl, rfl⟩) ?_
  refine gy_iconst dX4_init_67 ?_
  refine gx_istore_n (ls2 := [(1, .int (gI (0 : Int))), (0, .ref v0)]) dX4_init_68 rfl (Nat.le_of_ble_eq_true rfl) rfl ?_
  refine gx_sub (ls2 := [(0, .ref v0), (1, .int (gI (0 : Int)))]) [1, 0] rfl ?_
  exact zl_X4_init_69  30 9 268 _ _ _ (Nat.le_of_ble_eq_true rfl) (Nat.le_of_ble_eq_true rfl) e
/-! J7_fill_53178  -/
set_option maxRecDepth 100000 in
def b_J7_fill_53178_5 (n : Nat) (r5 : Nat → Int → Int → Int → gi_H → Option (gi_H)) (v0 : Nat) (v1 : Int) (v2 : Int) (v3 : Int)  (h : gi_H) : Option (gi_H) :=
  Option.bind (gi_rg v2) fun _ => Option.bind (gi_rg v3) fun _ => if v3 ≤ v2 then (some h) else (Option.bind (gi_s1 h v0 v2 v1) fun h5 => gx_nm (v2 + (1 : Int)) fun t6 => r5 v0 v1 t6 v3 h5)
set_option maxRecDepth 100000 in
theorem zb_J7_fill_53178_5 {al : Bool} {n : Nat} {r5 : Nat → Int → Int → Int → gi_H → Option (gi_H)} {h1 : gi_H} (hr5 : ∀ (x0 : Nat) (x1 : Int) (x2 : Int) (x3 : Int) (hh : gi_H), r5 x0 x1 x2 x3 hh = some h1 → gx_Z mJ7_fill_53178 al al 0 0 5 [(0, .ref x0), (1, .int (gI x1)), (2, .int (gI x2)), (3, .int (gI x3))] [] (gi_cv hh) (.inl none) (gi_cv h1)) {v0 : Nat} {v1 : Int} {v2 : Int} {v3 : Int}  {h : gi_H} (e : b_J7_fill_53178_5 n r5 v0 v1 v2 v3 h = some h1) : gx_Z mJ7_fill_53178 al al 0 0 5 [(0, .ref v0), (1, .int (gI v1)), (2, .int (gI v2)), (3, .int (gI v3))] [] (gi_cv h) (.inl none) (gi_cv h1) := by
  refine gx_iload_n dJ7_fill_53178_5 rfl 2 rfl ?_
  refine gx_iload_n dJ7_fill_53178_6 rfl 3 rfl ?_
  refine gx_bE e (fun _ g2 e => ?_)
  refine gx_bE e (fun _ g3 e => ?_)
  refine gx_iE e (fun c4 e => ?_) (fun c4 e => ?_)
  · refine gy_icmp_ge (tgt := 20) (gi_rgS g2) (gi_rgS g3) dJ7_fill_53178_7 (by decide) (fun _ => ?_) (fun z => absurd c4 z)
    cases e
    exact gx_vret dJ7_fill_53178_20 rfl ⟨Nat.le_of_ble_eq_true rfl, Nat.le_of_ble_eq_true rfl⟩ (fun z => z)
  · refine gy_icmp_ge (tgt := 20) (gi_rgS g2) (gi_rgS g3) dJ7_fill_53178_7 (by decide) (fun z => absurd z c4) (fun _ => ?_)
    refine gx_aload_n dJ7_fill_53178_10 rfl 0 rfl ?_
    refine gx_iload_n dJ7_fill_53178_11 rfl 2 rfl ?_
    refine gx_iload_n dJ7_fill_53178_12 rfl 1 rfl ?_
    refine gx_bE e (fun h5 hh5 e => ?_)
    refine gy_t1 hh5 dJ7_fill_53178_13 ?_
    refine gx_nE e (fun t6 ht6 e => ?_)
    refine gy_iinc (v := t6) (ls2 := [(2, .int (gI t6)), (0, .ref v0), (1, .int (gI v1)), (3, .int (gI v3))]) dJ7_fill_53178_14 2 rfl ht6 (Nat.le_of_ble_eq_true rfl) rfl ?_
    refine gx_goto (tgt := 5) dJ7_fill_53178_17 (by decide) ?_
    refine gx_sub (ls2 := [(0, .ref v0), (1, .int (gI v1)), (2, .int (gI t6)), (3, .int (gI v3))]) [1, 2, 0, 3] rfl ?_
    exact hr5 _ _ _ _ _ e
def l_J7_fill_53178_5 (n : Nat)  : Nat → Nat → Int → Int → Int → gi_H → Option (gi_H)
  | 0, _, _, _, _, _ => none
  | k + 1, v0, v1, v2, v3, h => b_J7_fill_53178_5 n  (l_J7_fill_53178_5 n  k) v0 v1 v2 v3 h
theorem zl_J7_fill_53178_5 {al : Bool} {n : Nat}  {h1 : gi_H}  : ∀ (k : Nat) (v0 : Nat) (v1 : Int) (v2 : Int) (v3 : Int) (h : gi_H), l_J7_fill_53178_5 n  k v0 v1 v2 v3 h = some h1 → gx_Z mJ7_fill_53178 al al 0 0 5 [(0, .ref v0), (1, .int (gI v1)), (2, .int (gI v2)), (3, .int (gI v3))] [] (gi_cv h) (.inl none) (gi_cv h1)
  | 0, _, _, _, _, _, e => gx_0E e
  | k + 1, _, _, _, _, _, e => zb_J7_fill_53178_5 (n := n)  (zl_J7_fill_53178_5  k) e
set_option maxRecDepth 100000 in
def f_J7_fill_53178 (n : Nat) (v0 : Nat) (v1 : Int) (h : gi_H) : Option (gi_H) :=
  Option.bind (gi_ln h v0) fun t1 => l_J7_fill_53178_5 n  n v0 v1 (0 : Int) t1 h
set_option maxRecDepth 100000 in
theorem z_J7_fill_53178 {al : Bool} {n : Nat} {v0 : Nat} {v1 : Int} {h : gi_H} {h1 : gi_H} (e : f_J7_fill_53178 n v0 v1 h = some h1) : gx_Cw mJ7_fill_53178 al [.ref v0, .int (gI v1)] (gi_cv h) (.inl none) (gi_cv h1) := by
  refine gx_enter (by decide +kernel) rfl (Nat.le_of_ble_eq_true rfl) ?_
  show gx_Z mJ7_fill_53178 al al 0 0 0 [(0, .ref v0), (1, .int (gI v1))] [] (gi_cv h) (.inl none) (gi_cv h1)
  refine gy_iconst dJ7_fill_53178_0 ?_
  refine gx_istore_n (ls2 := [(2, .int (gI (0 : Int))), (0, .ref v0), (1, .int (gI v1))]) dJ7_fill_53178_1 rfl (Nat.le_of_ble_eq_true rfl) rfl ?_
  refine gx_aload_n dJ7_fill_53178_2 rfl 1 rfl ?_
  refine gx_bE e (fun t1 ht1 e => ?_)
  refine gy_al0 ht1 dJ7_fill_53178_3 ?_
  refine gx_istore_n (ls2 := [(3, .int (gI t1)), (2, .int (gI (0 : Int))), (0, .ref v0), (1, .int (gI v1))]) dJ7_fill_53178_4 rfl (Nat.le_of_ble_eq_true rfl) rfl ?_
  refine gx_sub (ls2 := [(0, .ref v0), (1, .int (gI v1)), (2, .int (gI (0 : Int))), (3, .int (gI t1))]) [2, 3, 1, 0] rfl ?_
  exact zl_J7_fill_53178_5  n _ _ _ _ _ e
/-! X3_init  -/
set_option maxRecDepth 100000 in
def f_X3_init (v0 : Nat) (v1 : Nat) (h : gi_H) : Option (gi_H) :=
  Option.bind (gi_mk h) fun _ => gx_nm (gi_nw h (1, 32)) fun h1 => Option.bind (gi_pR h1 v0 2 5 (gi_sz h)) fun h2 => Option.bind (gi_mk h2) fun _ => gx_nm (gi_nw h2 (1, 16)) fun h3 => Option.bind (gi_pR h3 v0 2 6 (gi_sz h2)) fun h4 => Option.bind (gi_mk h4) fun _ => gx_nm (gi_nw h4 (1, 24)) fun h5 => Option.bind (gi_pR h5 v0 2 7 (gi_sz h4)) fun h6 => Option.bind (gi_mk h6) fun _ => gx_nm (gi_nw h6 (1, 32)) fun h7 => Option.bind (gi_pR h7 v0 2 8 (gi_sz h6)) fun h8 => Option.bind (gi_mk h8) fun _ => gx_nm (gi_nw h8 (2, 32)) fun h9 => Option.bind (gi_pR h9 v0 2 9 (gi_sz h8)) fun h10 => Option.bind (gi_mk h10) fun _ => gx_nm (gi_nw h10 (1, 16)) fun h11 => Option.bind (gi_pR h11 v0 2 11 (gi_sz h10)) fun h12 => Option.bind (gi_mk h12) fun _ => gx_nm (gi_nw h12 (1, 150)) fun h13 => Option.bind (gi_pR h13 v0 2 12 (gi_sz h12)) fun h14 => Option.bind (gi_mk h14) fun _ => gx_nm (gi_nw h14 (1, 150)) fun h15 => Option.bind (gi_pR h15 v0 2 13 (gi_sz h14)) fun h16 => Option.bind (gi_pR h16 v0 2 0 v1) fun h17 => some h17
set_option maxRecDepth 100000 in
theorem z_X3_init {v0 : Nat} {v1 : Nat} {h : gi_H} {h1 : gi_H} (e : f_X3_init v0 v1 h = some h1) : gx_Cw mX3_init true [.ref v0, .ref v1] (gi_cv h) (.inl none) (gi_cv h1) := by
  refine gx_enter (by decide +kernel) rfl (Nat.le_of_ble_eq_true rfl) ?_
  show gx_Z mX3_init true true 0 0 0 [(0, .ref v0), (1, .ref v1)] [] (gi_cv h) (.inl none) (gi_cv h1)
  refine gx_aload_n dX3_init_0 rfl 0 rfl ?_
  refine gx_obj dX3_init_1 gw_106 gw_28 gw_29 (Nat.le_of_ble_eq_true rfl) (Nat.le_of_ble_eq_true rfl) ?_
  refine gx_aload_n dX3_init_4 rfl 0 rfl ?_
  refine gy_bipush dX3_init_5 gcb_32 ?_
  refine gx_bE e (fun _ gh1 e => ?_)
  refine gx_nE e (fun h1 hh1 e => ?_)
  refine gy_newa1 (N := 32) gh1 hh1 dX3_init_7 gw_66 (by decide +kernel) (by decide +kernel) (by decide) rfl (kc2 := 1) (ks2 := 32) ⟨rfl, rfl⟩ ⟨Nat.le_of_ble_eq_true rfl, Nat.le_of_ble_eq_true rfl⟩ ?_
  refine gx_bE e (fun h2 hh2 e => ?_)
  refine gy_qR hh2 dX3_init_9 gf_RX3_9_2_5 (by decide) gkN_2_5 gkR_2_5 (Or.inr ⟨rfl, rfl, rfl⟩) ?_
  refine gx_aload_n dX3_init_12 rfl 0 rfl ?_
  refine gy_bipush dX3_init_13 gcb_16 ?_
  refine gx_bE e (fun _ gh3 e => ?_)
  refine gx_nE e (fun h3 hh3 e => ?_)
  refine gy_newa1 (N := 16) gh3 hh3 dX3_init_15 gw_66 (by decide +kernel) (by decide +kernel) (by decide) rfl (kc2 := 2) (ks2 := 48) ⟨rfl, rfl⟩ ⟨Nat.le_of_ble_eq_true rfl, Nat.le_of_ble_eq_true rfl⟩ ?_
  refine gx_bE e (fun h4 hh4 e => ?_)
  refine gy_qR hh4 dX3_init_17 gf_RX3_15_2_6 (by decide) gkN_2_6 gkR_2_6 (Or.inr ⟨rfl, rfl, rfl⟩) ?_
  refine gx_aload_n dX3_init_20 rfl 0 rfl ?_
  refine gy_bipush dX3_init_21 gcb_24 ?_
  refine gx_bE e (fun _ gh5 e => ?_)
  refine gx_nE e (fun h5 hh5 e => ?_)
  refine gy_newa1 (N := 24) gh5 hh5 dX3_init_23 gw_66 (by decide +kernel) (by decide +kernel) (by decide) rfl (kc2 := 3) (ks2 := 72) ⟨rfl, rfl⟩ ⟨Nat.le_of_ble_eq_true rfl, Nat.le_of_ble_eq_true rfl⟩ ?_
  refine gx_bE e (fun h6 hh6 e => ?_)
  refine gy_qR hh6 dX3_init_25 gf_RX3_18_2_7 (by decide) gkN_2_7 gkR_2_7 (Or.inr ⟨rfl, rfl, rfl⟩) ?_
  refine gx_aload_n dX3_init_28 rfl 0 rfl ?_
  refine gy_bipush dX3_init_29 gcb_32 ?_
  refine gx_bE e (fun _ gh7 e => ?_)
  refine gx_nE e (fun h7 hh7 e => ?_)
  refine gy_newa1 (N := 32) gh7 hh7 dX3_init_31 gw_66 (by decide +kernel) (by decide +kernel) (by decide) rfl (kc2 := 4) (ks2 := 104) ⟨rfl, rfl⟩ ⟨Nat.le_of_ble_eq_true rfl, Nat.le_of_ble_eq_true rfl⟩ ?_
  refine gx_bE e (fun h8 hh8 e => ?_)
  refine gy_qR hh8 dX3_init_33 gf_RX3_21_2_8 (by decide) gkN_2_8 gkR_2_8 (Or.inr ⟨rfl, rfl, rfl⟩) ?_
  refine gx_aload_n dX3_init_36 rfl 0 rfl ?_
  refine gy_bipush dX3_init_37 gcb_32 ?_
  refine gx_bE e (fun _ gh9 e => ?_)
  refine gx_nE e (fun h9 hh9 e => ?_)
  refine gy_newa2 (N := 32) gh9 hh9 dX3_init_39 gw_150 (by decide +kernel) (by decide +kernel) (by decide) rfl (kc2 := 5) (ks2 := 136) ⟨rfl, rfl⟩ ⟨Nat.le_of_ble_eq_true rfl, Nat.le_of_ble_eq_true rfl⟩ ?_
  refine gx_bE e (fun h10 hh10 e => ?_)
  refine gy_qR hh10 dX3_init_41 gf_RX3_24_2_9 (by decide) gkN_2_9 gkR_2_9 (Or.inr ⟨rfl, rfl, rfl⟩) ?_
  refine gx_aload_n dX3_init_44 rfl 0 rfl ?_
  refine gy_bipush dX3_init_45 gcb_16 ?_
  refine gx_bE e (fun _ gh11 e => ?_)
  refine gx_nE e (fun h11 hh11 e => ?_)
  refine gy_newa1 (N := 16) gh11 hh11 dX3_init_47 gw_66 (by decide +kernel) (by decide +kernel) (by decide) rfl (kc2 := 6) (ks2 := 152) ⟨rfl, rfl⟩ ⟨Nat.le_of_ble_eq_true rfl, Nat.le_of_ble_eq_true rfl⟩ ?_
  refine gx_bE e (fun h12 hh12 e => ?_)
  refine gy_qR hh12 dX3_init_49 gf_RX3_28_2_11 (by decide) gkN_2_11 gkR_2_11 (Or.inr ⟨rfl, rfl, rfl⟩) ?_
  refine gx_aload_n dX3_init_52 rfl 0 rfl ?_
  refine gy_sipush dX3_init_53 gcs_150 ?_
  refine gx_bE e (fun _ gh13 e => ?_)
  refine gx_nE e (fun h13 hh13 e => ?_)
  refine gy_newa1 (N := 150) gh13 hh13 dX3_init_56 gw_66 (by decide +kernel) (by decide +kernel) (by decide) rfl (kc2 := 7) (ks2 := 302) ⟨rfl, rfl⟩ ⟨Nat.le_of_ble_eq_true rfl, Nat.le_of_ble_eq_true rfl⟩ ?_
  refine gx_bE e (fun h14 hh14 e => ?_)
  refine gy_qR hh14 dX3_init_58 gf_RX3_31_2_12 (by decide) gkN_2_12 gkR_2_12 (Or.inr ⟨rfl, rfl, rfl⟩) ?_
  refine gx_aload_n dX3_init_61 rfl 0 rfl ?_
  refine gy_sipush dX3_init_62 gcs_150 ?_
  refine gx_bE e (fun _ gh15 e => ?_)
  refine gx_nE e (fun h15 hh15 e => ?_)
  refine gy_newa1 (N := 150) gh15 hh15 dX3_init_65 gw_66 (by decide +kernel) (by decide +kernel) (by decide) rfl (kc2 := 8) (ks2 := 452) ⟨rfl, rfl⟩ ⟨Nat.le_of_ble_eq_true rfl, Nat.le_of_ble_eq_true rfl⟩ ?_
  refine gx_bE e (fun h16 hh16 e => ?_)
  refine gy_qR hh16 dX3_init_67 gf_RX3_34_2_13 (by decide) gkN_2_13 gkR_2_13 (Or.inr ⟨rfl, rfl, rfl⟩) ?_
  refine gx_aload_n dX3_init_70 rfl 0 rfl ?_
  refine gx_aload_n dX3_init_71 rfl 1 rfl ?_
  refine gx_bE e (fun h17 hh17 e => ?_)
  refine gy_qR hh17 dX3_init_72 gf_RX3_37_2_0 (by decide) gkN_2_0 gkR_2_0 (Or.inl rfl) ?_
  cases e
  exact gx_vret dX3_init_75 rfl ⟨Nat.le_of_ble_eq_true rfl, Nat.le_of_ble_eq_true rfl⟩ (fun z => z)
/-! X0_init  -/
set_option maxRecDepth 100000 in
def f_X0_init (v0 : Nat) (v1 : Nat) (v2 : Int) (h : gi_H) : Option (gi_H) :=
  Option.bind (gi_mk h) fun _ => gx_nm (gi_nw h (1, 12000)) fun h1 => Option.bind (gi_pR h1 v0 0 5 (gi_sz h)) fun h2 => Option.bind (gi_mk h2) fun _ => gx_nm (gi_nw h2 (1, 2560)) fun h3 => Option.bind (gi_pR h3 v0 0 6 (gi_sz h2)) fun h4 => Option.bind (gi_mk h4) fun _ => gx_nm (gi_nw h4 (1, 80)) fun h5 => Option.bind (gi_pR h5 v0 0 7 (gi_sz h4)) fun h6 => Option.bind (gi_mk h6) fun _ => gx_nm (gi_nw h6 (4, 80)) fun h7 => Option.bind (gi_pR h7 v0 0 8 (gi_sz h6)) fun h8 => Option.bind (gi_mk h8) fun _ => gx_nm (gi_nw h8 (1, 150)) fun h9 => Option.bind (gi_pR h9 v0 0 9 (gi_sz h8)) fun h10 => Option.bind (gi_pR h10 v0 0 0 v1) fun h11 => Option.bind (gi_pZ h11 v0 0 1 v2) fun h12 => some h12
set_option maxRecDepth 100000 in
theorem z_X0_init {v0 : Nat} {v1 : Nat} {v2 : Int} {h : gi_H} {h1 : gi_H} (e : f_X0_init v0 v1 v2 h = some h1) : gx_Cw mX0_init true [.ref v0, .ref v1, .int (gI v2)] (gi_cv h) (.inl none) (gi_cv h1) := by
  refine gx_enter (by decide +kernel) rfl (Nat.le_of_ble_eq_true rfl) ?_
  show gx_Z mX0_init true true 0 0 0 [(0, .ref v0), (1, .ref v1), (2, .int (gI v2))] [] (gi_cv h) (.inl none) (gi_cv h1)
  refine gx_aload_n dX0_init_0 rfl 0 rfl ?_
  refine gx_obj dX0_init_1 gw_156 gw_28 gw_29 (Nat.le_of_ble_eq_true rfl) (Nat.le_of_ble_eq_true rfl) ?_
  refine gx_aload_n dX0_init_4 rfl 0 rfl ?_
  refine gy_sipush dX0_init_5 gcs_12000 ?_
  refine gx_bE e (fun _ gh1 e => ?_)
  refine gx_nE e (fun h1 hh1 e => ?_)
  refine gy_newa1 (N := 12000) gh1 hh1 dX0_init_8 gw_66 (by decide +kernel) (by decide +kernel) (by decide) rfl (kc2 := 1) (ks2 := 12000) ⟨rfl, rfl⟩ ⟨Nat.le_of_ble_eq_true rfl, Nat.le_of_ble_eq_true rfl⟩ ?_
  refine gx_bE e (fun h2 hh2 e => ?_)
  refine gy_qR hh2 dX0_init_10 gf_RX0_9_0_5 (by decide) gkN_0_5 gkR_0_5 (Or.inr ⟨rfl, rfl, rfl⟩) ?_
  refine gx_aload_n dX0_init_13 rfl 0 rfl ?_
  refine gy_sipush dX0_init_14 gcs_2560 ?_
  refine gx_bE e (fun _ gh3 e => ?_)
  refine gx_nE e (fun h3 hh3 e => ?_)
  refine gy_newa1 (N := 2560) gh3 hh3 dX0_init_17 gw_66 (by decide +kernel) (by decide +kernel) (by decide) rfl (kc2 := 2) (ks2 := 14560) ⟨rfl, rfl⟩ ⟨Nat.le_of_ble_eq_true rfl, Nat.le_of_ble_eq_true rfl⟩ ?_
  refine gx_bE e (fun h4 hh4 e => ?_)
  refine gy_qR hh4 dX0_init_19 gf_RX0_15_0_6 (by decide) gkN_0_6 gkR_0_6 (Or.inr ⟨rfl, rfl, rfl⟩) ?_
  refine gx_aload_n dX0_init_22 rfl 0 rfl ?_
  refine gy_bipush dX0_init_23 gcb_80 ?_
  refine gx_bE e (fun _ gh5 e => ?_)
  refine gx_nE e (fun h5 hh5 e => ?_)
  refine gy_newa1 (N := 80) gh5 hh5 dX0_init_25 gw_66 (by decide +kernel) (by decide +kernel) (by decide) rfl (kc2 := 3) (ks2 := 14640) ⟨rfl, rfl⟩ ⟨Nat.le_of_ble_eq_true rfl, Nat.le_of_ble_eq_true rfl⟩ ?_
  refine gx_bE e (fun h6 hh6 e => ?_)
  refine gy_qR hh6 dX0_init_27 gf_RX0_18_0_7 (by decide) gkN_0_7 gkR_0_7 (Or.inr ⟨rfl, rfl, rfl⟩) ?_
  refine gx_aload_n dX0_init_30 rfl 0 rfl ?_
  refine gy_bipush dX0_init_31 gcb_80 ?_
  refine gx_bE e (fun _ gh7 e => ?_)
  refine gx_nE e (fun h7 hh7 e => ?_)
  refine gy_newa4 (N := 80) gh7 hh7 dX0_init_33 gw_188 (by decide +kernel) (by decide +kernel) (by decide) rfl (kc2 := 4) (ks2 := 14720) ⟨rfl, rfl⟩ ⟨Nat.le_of_ble_eq_true rfl, Nat.le_of_ble_eq_true rfl⟩ ?_
  refine gx_bE e (fun h8 hh8 e => ?_)
  refine gy_qR hh8 dX0_init_35 gf_RX0_21_0_8 (by decide) gkN_0_8 gkR_0_8 (Or.inr ⟨rfl, rfl, rfl⟩) ?_
  refine gx_aload_n dX0_init_38 rfl 0 rfl ?_
  refine gy_sipush dX0_init_39 gcs_150 ?_
  refine gx_bE e (fun _ gh9 e => ?_)
  refine gx_nE e (fun h9 hh9 e => ?_)
  refine gy_newa1 (N := 150) gh9 hh9 dX0_init_42 gw_66 (by decide +kernel) (by decide +kernel) (by decide) rfl (kc2 := 5) (ks2 := 14870) ⟨rfl, rfl⟩ ⟨Nat.le_of_ble_eq_true rfl, Nat.le_of_ble_eq_true rfl⟩ ?_
  refine gx_bE e (fun h10 hh10 e => ?_)
  refine gy_qR hh10 dX0_init_44 gf_RX0_25_0_9 (by decide) gkN_0_9 gkR_0_9 (Or.inr ⟨rfl, rfl, rfl⟩) ?_
  refine gx_aload_n dX0_init_47 rfl 0 rfl ?_
  refine gx_aload_n dX0_init_48 rfl 1 rfl ?_
  refine gx_bE e (fun h11 hh11 e => ?_)
  refine gy_qR hh11 dX0_init_49 gf_RX0_28_0_0 (by decide) gkN_0_0 gkR_0_0 (Or.inr ⟨rfl, rfl, rfl⟩) ?_
  refine gx_aload_n dX0_init_52 rfl 0 rfl ?_
  refine gx_iload_n dX0_init_53 rfl 2 rfl ?_
  refine gx_bE e (fun h12 hh12 e => ?_)
  refine gy_qZ hh12 dX0_init_54 gf_RX0_32_0_1 (by decide) gkN_0_1 rfl (Or.inr ⟨rfl, rfl, rfl⟩) ?_
  cases e
  exact gx_vret dX0_init_57 rfl ⟨Nat.le_of_ble_eq_true rfl, Nat.le_of_ble_eq_true rfl⟩ (fun z => z)
/-! X10_init 4 -/
set_option maxRecDepth 100000 in
def f_X10_init_4 (v0 : Nat) (h : gi_H) : Option (gi_H) :=
  some h
set_option maxRecDepth 100000 in
theorem z_X10_init_4 {al : Bool} {v0 : Nat} {h : gi_H} {h1 : gi_H} (e : f_X10_init_4 v0 h = some h1) : gx_Cw mX10_init al [.ref v0] (gi_cv h) (.inl none) (gi_cv h1) := by
  refine gx_enter (by decide +kernel) rfl (Nat.le_of_ble_eq_true rfl) ?_
  show gx_Z mX10_init al al 0 0 0 [(0, .ref v0)] [] (gi_cv h) (.inl none) (gi_cv h1)
  refine gx_aload_n dX10_init_0 rfl 0 rfl ?_
  refine gx_obj dX10_init_1 gw_197 gw_28 gw_29 (Nat.le_of_ble_eq_true rfl) (Nat.le_of_ble_eq_true rfl) ?_
  cases e
  exact gx_vret dX10_init_4 rfl ⟨Nat.le_of_ble_eq_true rfl, Nat.le_of_ble_eq_true rfl⟩ (fun z => z)
/-! X5_init  -/
set_option maxRecDepth 100000 in
def f_X5_init (v0 : Nat) (v1 : Nat) (v2 : Nat) (h : gi_H) : Option (gi_H) :=
  Option.bind (f_X10_init_4 v0 h) fun q1 => Option.bind (gi_mk q1) fun _ => gx_nm (gi_nw q1 (1, 1501)) fun h2 => Option.bind (gi_pR h2 v0 4 3 (gi_sz q1)) fun h3 => Option.bind (gi_mk h3) fun _ => gx_nm (gi_nw h3 (1, 300)) fun h4 => Option.bind (gi_pR h4 v0 4 5 (gi_sz h3)) fun h5 => Option.bind (gi_pR h5 v0 4 1 v1) fun h6 => Option.bind (gi_pR h6 v0 4 2 v2) fun h7 => some h7
set_option maxRecDepth 100000 in
theorem z_X5_init {v0 : Nat} {v1 : Nat} {v2 : Nat} {h : gi_H} {h1 : gi_H} (e : f_X5_init v0 v1 v2 h = some h1) : gx_Cw mX5_init true [.ref v0, .ref v1, .ref v2] (gi_cv h) (.inl none) (gi_cv h1) := by
  refine gx_enter (by decide +kernel) rfl (Nat.le_of_ble_eq_true rfl) ?_
  show gx_Z mX5_init true true 0 0 0 [(0, .ref v0), (1, .ref v1), (2, .ref v2)] [] (gi_cv h) (.inl none) (gi_cv h1)
  refine gx_aload_n dX5_init_0 rfl 0 rfl ?_
  refine gx_bE e (fun q1 hq1 e => ?_)
  refine gx_callIN (n := 0) (st := []) (As := []) (b := v0) dX5_init_1 (z_X10_init_4 hq1) rfl ⟨rfl, gw_cw_X10_init, gw_8, gp_X10_init, ⟨Nat.le_of_ble_eq_true rfl, Nat.le_of_ble_eq_true rfl⟩⟩ (host := "Grammarsmith") (by decide +kernel) gw_195 rfl rfl ⟨Nat.le_of_ble_eq_true rfl, Nat.le_of_ble_eq_true rfl⟩ (Nat.le_of_ble_eq_true rfl) (gy_k0 (kc2 := 0) (ks2 := 0) ⟨rfl, rfl⟩ ?_) gy_kn
  refine gx_aload_n dX5_init_4 rfl 0 rfl ?_
  refine gy_sipush dX5_init_5 gcs_1501 ?_
  refine gx_bE e (fun _ gh2 e => ?_)
  refine gx_nE e (fun h2 hh2 e => ?_)
  refine gy_newa1 (N := 1501) gh2 hh2 dX5_init_8 gw_66 (by decide +kernel) (by decide +kernel) (by decide) rfl (kc2 := 1) (ks2 := 1501) ⟨rfl, rfl⟩ ⟨Nat.le_of_ble_eq_true rfl, Nat.le_of_ble_eq_true rfl⟩ ?_
  refine gx_bE e (fun h3 hh3 e => ?_)
  refine gy_qR hh3 dX5_init_10 gf_RX5_9_4_3 (by decide) gkN_4_3 gkR_4_3 (Or.inr ⟨rfl, rfl, rfl⟩) ?_
  refine gx_aload_n dX5_init_13 rfl 0 rfl ?_
  refine gy_sipush dX5_init_14 gcs_300 ?_
  refine gx_bE e (fun _ gh4 e => ?_)
  refine gx_nE e (fun h4 hh4 e => ?_)
  refine gy_newa1 (N := 300) gh4 hh4 dX5_init_17 gw_66 (by decide +kernel) (by decide +kernel) (by decide) rfl (kc2 := 2) (ks2 := 1801) ⟨rfl, rfl⟩ ⟨Nat.le_of_ble_eq_true rfl, Nat.le_of_ble_eq_true rfl⟩ ?_
  refine gx_bE e (fun h5 hh5 e => ?_)
  refine gy_qR hh5 dX5_init_19 gf_RX5_15_4_5 (by decide) gkN_4_5 gkR_4_5 (Or.inr ⟨rfl, rfl, rfl⟩) ?_
  refine gx_aload_n dX5_init_22 rfl 0 rfl ?_
  refine gx_aload_n dX5_init_23 rfl 1 rfl ?_
  refine gx_bE e (fun h6 hh6 e => ?_)
  refine gy_qR hh6 dX5_init_24 gf_RX5_18_4_1 (by decide) gkN_4_1 gkR_4_1 (Or.inr ⟨rfl, rfl, rfl⟩) ?_
  refine gx_aload_n dX5_init_27 rfl 0 rfl ?_
  refine gx_aload_n dX5_init_28 rfl 2 rfl ?_
  refine gx_bE e (fun h7 hh7 e => ?_)
  refine gy_qR hh7 dX5_init_29 gf_RX5_22_4_2 (by decide) gkN_4_2 gkR_4_2 (Or.inr ⟨rfl, rfl, rfl⟩) ?_
  cases e
  exact gx_vret dX5_init_32 rfl ⟨Nat.le_of_ble_eq_true rfl, Nat.le_of_ble_eq_true rfl⟩ (fun z => z)
/-! X10_init 8 -/
set_option maxRecDepth 100000 in
def f_X10_init_8 (v0 : Nat) (h : gi_H) : Option (gi_H) :=
  some h
set_option maxRecDepth 100000 in
theorem z_X10_init_8 {al : Bool} {v0 : Nat} {h : gi_H} {h1 : gi_H} (e : f_X10_init_8 v0 h = some h1) : gx_Cw mX10_init al [.ref v0] (gi_cv h) (.inl none) (gi_cv h1) := by
  refine gx_enter (by decide +kernel) rfl (Nat.le_of_ble_eq_true rfl) ?_
  show gx_Z mX10_init al al 0 0 0 [(0, .ref v0)] [] (gi_cv h) (.inl none) (gi_cv h1)
  refine gx_aload_n dX10_init_0 rfl 0 rfl ?_
  refine gx_obj dX10_init_1 gw_197 gw_28 gw_29 (Nat.le_of_ble_eq_true rfl) (Nat.le_of_ble_eq_true rfl) ?_
  cases e
  exact gx_vret dX10_init_4 rfl ⟨Nat.le_of_ble_eq_true rfl, Nat.le_of_ble_eq_true rfl⟩ (fun z => z)
/-! X9_init  -/
set_option maxRecDepth 100000 in
def f_X9_init (v0 : Nat) (v1 : Nat) (v2 : Int) (v3 : Nat) (v4 : Nat) (v5 : Nat) (h : gi_H) : Option (gi_H) :=
  Option.bind (f_X10_init_8 v0 h) fun q1 => Option.bind (gi_mk q1) fun _ => gx_nm (gi_nw q1 (1, 301)) fun h2 => Option.bind (gi_pR h2 v0 8 10 (gi_sz q1)) fun h3 => Option.bind (gi_mk h3) fun _ => gx_nm (gi_nw h3 (1, 301)) fun h4 => Option.bind (gi_pR h4 v0 8 11 (gi_sz h3)) fun h5 => Option.bind (gi_pR h5 v0 8 1 v1) fun h6 => Option.bind (gi_pZ h6 v0 8 2 v2) fun h7 => Option.bind (gi_pR h7 v0 8 3 v3) fun h8 => Option.bind (gi_pR h8 v0 8 4 v4) fun h9 => Option.bind (gi_pR h9 v0 8 5 v5) fun h10 => some h10
set_option maxRecDepth 100000 in
theorem z_X9_init {v0 : Nat} {v1 : Nat} {v2 : Int} {v3 : Nat} {v4 : Nat} {v5 : Nat} {h : gi_H} {h1 : gi_H} (e : f_X9_init v0 v1 v2 v3 v4 v5 h = some h1) : gx_Cw mX9_init true [.ref v0, .ref v1, .int (gI v2), .ref v3, .ref v4, .ref v5] (gi_cv h) (.inl none) (gi_cv h1) := by
  refine gx_enter (by decide +kernel) rfl (Nat.le_of_ble_eq_true rfl) ?_
  show gx_Z mX9_init true true 0 0 0 [(0, .ref v0), (1, .ref v1), (2, .int (gI v2)), (3, .ref v3), (4, .ref v4), (5, .ref v5)] [] (gi_cv h) (.inl none) (gi_cv h1)
  refine gx_aload_n dX9_init_0 rfl 0 rfl ?_
  refine gx_bE e (fun q1 hq1 e => ?_)
  refine gx_callIN (n := 0) (st := []) (As := []) (b := v0) dX9_init_1 (z_X10_init_8 hq1) rfl ⟨rfl, gw_cw_X10_init, gw_8, gp_X10_init, ⟨Nat.le_of_ble_eq_true rfl, Nat.le_of_ble_eq_true rfl⟩⟩ (host := "Grammarsmith") (by decide +kernel) gw_195 rfl rfl ⟨Nat.le_of_ble_eq_true rfl, Nat.le_of_ble_eq_true rfl⟩ (Nat.le_of_ble_eq_true rfl) (gy_k0 (kc2 := 0) (ks2 := 0) ⟨rfl, rfl⟩ ?_) gy_kn
  refine gx_aload_n dX9_init_4 rfl 0 rfl ?_
  refine gy_sipush dX9_init_5 gcs_301 ?_
  refine gx_bE e (fun _ gh2 e => ?_)
  refine gx_nE e (fun h2 hh2 e => ?_)
  refine gy_newa1 (N := 301) gh2 hh2 dX9_init_8 gw_66 (by decide +kernel) (by decide +kernel) (by decide) rfl (kc2 := 1) (ks2 := 301) ⟨rfl, rfl⟩ ⟨Nat.le_of_ble_eq_true rfl, Nat.le_of_ble_eq_true rfl⟩ ?_
  refine gx_bE e (fun h3 hh3 e => ?_)
  refine gy_qR hh3 dX9_init_10 gf_RX9_9_8_10 (by decide) gkN_8_10 gkR_8_10 (Or.inr ⟨rfl, rfl, rfl⟩) ?_
  refine gx_aload_n dX9_init_13 rfl 0 rfl ?_
  refine gy_sipush dX9_init_14 gcs_301 ?_
  refine gx_bE e (fun _ gh4 e => ?_)
  refine gx_nE e (fun h4 hh4 e => ?_)
  refine gy_newa1 (N := 301) gh4 hh4 dX9_init_17 gw_66 (by decide +kernel) (by decide +kernel) (by decide) rfl (kc2 := 2) (ks2 := 602) ⟨rfl, rfl⟩ ⟨Nat.le_of_ble_eq_true rfl, Nat.le_of_ble_eq_true rfl⟩ ?_
  refine gx_bE e (fun h5 hh5 e => ?_)
  refine gy_qR hh5 dX9_init_19 gf_RX9_15_8_11 (by decide) gkN_8_11 gkR_8_11 (Or.inr ⟨rfl, rfl, rfl⟩) ?_
  refine gx_aload_n dX9_init_22 rfl 0 rfl ?_
  refine gx_aload_n dX9_init_23 rfl 1 rfl ?_
  refine gx_bE e (fun h6 hh6 e => ?_)
  refine gy_qR hh6 dX9_init_24 gf_RX9_18_8_1 (by decide) gkN_8_1 gkR_8_1 (Or.inr ⟨rfl, rfl, rfl⟩) ?_
  refine gx_aload_n dX9_init_27 rfl 0 rfl ?_
  refine gx_iload_n dX9_init_28 rfl 2 rfl ?_
  refine gx_bE e (fun h7 hh7 e => ?_)
  refine gy_qZ hh7 dX9_init_29 gf_RX9_22_8_2 (by decide) gkN_8_2 rfl (Or.inr ⟨rfl, rfl, rfl⟩) ?_
  refine gx_aload_n dX9_init_32 rfl 0 rfl ?_
  refine gx_aload_n dX9_init_33 rfl 3 rfl ?_
  refine gx_bE e (fun h8 hh8 e => ?_)
  refine gy_qR hh8 dX9_init_34 gf_RX9_26_8_3 (by decide) gkN_8_3 gkR_8_3 (Or.inr ⟨rfl, rfl, rfl⟩) ?_
  refine gx_aload_n dX9_init_37 rfl 0 rfl ?_
  refine gx_aload dX9_init_38 4 rfl ?_
  refine gx_bE e (fun h9 hh9 e => ?_)
  refine gy_qR hh9 dX9_init_40 gf_RX9_29_8_4 (by decide) gkN_8_4 gkR_8_4 (Or.inr ⟨rfl, rfl, rfl⟩) ?_
  refine gx_aload_n dX9_init_43 rfl 0 rfl ?_
  refine gx_aload dX9_init_44 5 rfl ?_
  refine gx_bE e (fun h10 hh10 e => ?_)
  refine gy_qR hh10 dX9_init_46 gf_RX9_32_8_5 (by decide) gkN_8_5 gkR_8_5 (Or.inr ⟨rfl, rfl, rfl⟩) ?_
  cases e
  exact gx_vret dX9_init_49 rfl ⟨Nat.le_of_ble_eq_true rfl, Nat.le_of_ble_eq_true rfl⟩ (fun z => z)
/-! X1_init 1 -/
set_option maxRecDepth 100000 in
def f_X1_init_1 (v0 : Nat) (v1 : Nat) (v2 : Nat) (v3 : Nat) (v4 : Nat) (h : gi_H) : Option (gi_H) :=
  Option.bind (gi_mk h) fun _ => gx_nm (gi_nw h (1, 16)) fun h1 => Option.bind (gi_pR h1 v0 1 4 (gi_sz h)) fun h2 => Option.bind (gi_pR h2 v0 1 0 v1) fun h3 => Option.bind (gi_pR h3 v0 1 1 v2) fun h4 => Option.bind (gi_pR h4 v0 1 2 v3) fun h5 => Option.bind (gi_pR h5 v0 1 3 v4) fun h6 => some h6
set_option maxRecDepth 100000 in
theorem z_X1_init_1 {v0 : Nat} {v1 : Nat} {v2 : Nat} {v3 : Nat} {v4 : Nat} {h : gi_H} {h1 : gi_H} (e : f_X1_init_1 v0 v1 v2 v3 v4 h = some h1) : gx_Cw mX1_init true [.ref v0, .ref v1, .ref v2, .ref v3, .ref v4] (gi_cv h) (.inl none) (gi_cv h1) := by
  refine gx_enter (by decide +kernel) rfl (Nat.le_of_ble_eq_true rfl) ?_
  show gx_Z mX1_init true true 0 0 0 [(0, .ref v0), (1, .ref v1), (2, .ref v2), (3, .ref v3), (4, .ref v4)] [] (gi_cv h) (.inl none) (gi_cv h1)
  refine gx_aload_n dX1_init_0 rfl 0 rfl ?_
  refine gx_obj dX1_init_1 gw_272 gw_28 gw_29 (Nat.le_of_ble_eq_true rfl) (Nat.le_of_ble_eq_true rfl) ?_
  refine gx_aload_n dX1_init_4 rfl 0 rfl ?_
  refine gy_bipush dX1_init_5 gcb_16 ?_
  refine gx_bE e (fun _ gh1 e => ?_)
  refine gx_nE e (fun h1 hh1 e => ?_)
  refine gy_newa1 (N := 16) gh1 hh1 dX1_init_7 gw_66 (by decide +kernel) (by decide +kernel) (by decide) rfl (kc2 := 1) (ks2 := 16) ⟨rfl, rfl⟩ ⟨Nat.le_of_ble_eq_true rfl, Nat.le_of_ble_eq_true rfl⟩ ?_
  refine gx_bE e (fun h2 hh2 e => ?_)
  refine gy_qR hh2 dX1_init_9 gf_RX1_9_1_4 (by decide) gkN_1_4 gkR_1_4 (Or.inr ⟨rfl, rfl, rfl⟩) ?_
  refine gx_aload_n dX1_init_12 rfl 0 rfl ?_
  refine gx_aload_n dX1_init_13 rfl 1 rfl ?_
  refine gx_bE e (fun h3 hh3 e => ?_)
  refine gy_qR hh3 dX1_init_14 gf_RX1_15_1_0 (by decide) gkN_1_0 gkR_1_0 (Or.inr ⟨rfl, rfl, rfl⟩) ?_
  refine gx_aload_n dX1_init_17 rfl 0 rfl ?_
  refine gx_aload_n dX1_init_18 rfl 2 rfl ?_
  refine gx_bE e (fun h4 hh4 e => ?_)
  refine gy_qR hh4 dX1_init_19 gf_RX1_19_1_1 (by decide) gkN_1_1 gkR_1_1 (Or.inr ⟨rfl, rfl, rfl⟩) ?_
  refine gx_aload_n dX1_init_22 rfl 0 rfl ?_
  refine gx_aload_n dX1_init_23 rfl 3 rfl ?_
  refine gx_bE e (fun h5 hh5 e => ?_)
  refine gy_qR hh5 dX1_init_24 gf_RX1_22_1_2 (by decide) gkN_1_2 gkR_1_2 (Or.inr ⟨rfl, rfl, rfl⟩) ?_
  refine gx_aload_n dX1_init_27 rfl 0 rfl ?_
  refine gx_aload dX1_init_28 4 rfl ?_
  refine gx_bE e (fun h6 hh6 e => ?_)
  refine gy_qR hh6 dX1_init_30 gf_RX1_25_1_3 (by decide) gkN_1_3 gkR_1_3 (Or.inr ⟨rfl, rfl, rfl⟩) ?_
  cases e
  exact gx_vret dX1_init_33 rfl ⟨Nat.le_of_ble_eq_true rfl, Nat.le_of_ble_eq_true rfl⟩ (fun z => z)
/-! X2_init  -/
set_option maxRecDepth 100000 in
def f_X2_init (v0 : Nat) (v1 : Nat) (v2 : Nat) (v3 : Nat) (v4 : Nat) (h : gi_H) : Option (gi_H) :=
  Option.bind (f_X1_init_1 v0 v1 v2 v3 v4 h) fun q1 => some q1
set_option maxRecDepth 100000 in
theorem z_X2_init {v0 : Nat} {v1 : Nat} {v2 : Nat} {v3 : Nat} {v4 : Nat} {h : gi_H} {h1 : gi_H} (e : f_X2_init v0 v1 v2 v3 v4 h = some h1) : gx_Cw mX2_init true [.ref v0, .ref v1, .ref v2, .ref v3, .ref v4] (gi_cv h) (.inl none) (gi_cv h1) := by
  refine gx_enter (by decide +kernel) rfl (Nat.le_of_ble_eq_true rfl) ?_
  show gx_Z mX2_init true true 0 0 0 [(0, .ref v0), (1, .ref v1), (2, .ref v2), (3, .ref v3), (4, .ref v4)] [] (gi_cv h) (.inl none) (gi_cv h1)
  refine gx_aload_n dX2_init_0 rfl 0 rfl ?_
  refine gx_aload_n dX2_init_1 rfl 1 rfl ?_
  refine gx_aload_n dX2_init_2 rfl 2 rfl ?_
  refine gx_aload_n dX2_init_3 rfl 3 rfl ?_
  refine gx_aload dX2_init_4 4 rfl ?_
  refine gx_bE e (fun q1 hq1 e => ?_)
  refine gx_callI (n := 4) (st := []) (As := [.ref v1, .ref v2, .ref v3, .ref v4]) (b := v0) dX2_init_6 (z_X1_init_1 hq1) rfl ⟨rfl, gw_cw_X1_init, gw_11, gp_X1_init, ⟨Nat.le_of_ble_eq_true rfl, Nat.le_of_ble_eq_true rfl⟩⟩ gw_269 gw_270 rfl rfl ⟨Nat.le_of_ble_eq_true rfl, Nat.le_of_ble_eq_true rfl⟩ (Nat.le_of_ble_eq_true rfl) (gy_k0 (kc2 := 1) (ks2 := 16) ⟨rfl, rfl⟩ ?_) gy_kn
  cases e
  exact gx_vret dX2_init_9 rfl ⟨Nat.le_of_ble_eq_true rfl, Nat.le_of_ble_eq_true rfl⟩ (fun z => z)
/-! X1_init 5 -/
set_option maxRecDepth 100000 in
def f_X1_init_5 (v0 : Nat) (v1 : Nat) (v2 : Nat) (v3 : Nat) (v4 : Nat) (h : gi_H) : Option (gi_H) :=
  Option.bind (gi_mk h) fun _ => gx_nm (gi_nw h (1, 16)) fun h1 => Option.bind (gi_pR h1 v0 5 4 (gi_sz h)) fun h2 => Option.bind (gi_pR h2 v0 5 0 v1) fun h3 => Option.bind (gi_pR h3 v0 5 1 v2) fun h4 => Option.bind (gi_pR h4 v0 5 2 v3) fun h5 => Option.bind (gi_pR h5 v0 5 3 v4) fun h6 => some h6
set_option maxRecDepth 100000 in
theorem z_X1_init_5 {v0 : Nat} {v1 : Nat} {v2 : Nat} {v3 : Nat} {v4 : Nat} {h : gi_H} {h1 : gi_H} (e : f_X1_init_5 v0 v1 v2 v3 v4 h = some h1) : gx_Cw mX1_init true [.ref v0, .ref v1, .ref v2, .ref v3, .ref v4] (gi_cv h) (.inl none) (gi_cv h1) := by
  refine gx_enter (by decide +kernel) rfl (Nat.le_of_ble_eq_true rfl) ?_
  show gx_Z mX1_init true true 0 0 0 [(0, .ref v0), (1, .ref v1), (2, .ref v2), (3, .ref v3), (4, .ref v4)] [] (gi_cv h) (.inl none) (gi_cv h1)
  refine gx_aload_n dX1_init_0 rfl 0 rfl ?_
  refine gx_obj dX1_init_1 gw_272 gw_28 gw_29 (Nat.le_of_ble_eq_true rfl) (Nat.le_of_ble_eq_true rfl) ?_
  refine gx_aload_n dX1_init_4 rfl 0 rfl ?_
  refine gy_bipush dX1_init_5 gcb_16 ?_
  refine gx_bE e (fun _ gh1 e => ?_)
  refine gx_nE e (fun h1 hh1 e => ?_)
  refine gy_newa1 (N := 16) gh1 hh1 dX1_init_7 gw_66 (by decide +kernel) (by decide +kernel) (by decide) rfl (kc2 := 1) (ks2 := 16) ⟨rfl, rfl⟩ ⟨Nat.le_of_ble_eq_true rfl, Nat.le_of_ble_eq_true rfl⟩ ?_
  refine gx_bE e (fun h2 hh2 e => ?_)
  refine gy_qR hh2 dX1_init_9 gf_RX1_9_5_4 (by decide) gkN_5_4 gkR_5_4 (Or.inr ⟨rfl, rfl, rfl⟩) ?_
  refine gx_aload_n dX1_init_12 rfl 0 rfl ?_
  refine gx_aload_n dX1_init_13 rfl 1 rfl ?_
  refine gx_bE e (fun h3 hh3 e => ?_)
  refine gy_qR hh3 dX1_init_14 gf_RX1_15_5_0 (by decide) gkN_5_0 gkR_5_0 (Or.inr ⟨rfl, rfl, rfl⟩) ?_
  refine gx_aload_n dX1_init_17 rfl 0 rfl ?_
  refine gx_aload_n dX1_init_18 rfl 2 rfl ?_
  refine gx_bE e (fun h4 hh4 e => ?_)
  refine gy_qR hh4 dX1_init_19 gf_RX1_19_5_1 (by decide) gkN_5_1 gkR_5_1 (Or.inr ⟨rfl, rfl, rfl⟩) ?_
  refine gx_aload_n dX1_init_22 rfl 0 rfl ?_
  refine gx_aload_n dX1_init_23 rfl 3 rfl ?_
  refine gx_bE e (fun h5 hh5 e => ?_)
  refine gy_qR hh5 dX1_init_24 gf_RX1_22_5_2 (by decide) gkN_5_2 gkR_5_2 (Or.inr ⟨rfl, rfl, rfl⟩) ?_
  refine gx_aload_n dX1_init_27 rfl 0 rfl ?_
  refine gx_aload dX1_init_28 4 rfl ?_
  refine gx_bE e (fun h6 hh6 e => ?_)
  refine gy_qR hh6 dX1_init_30 gf_RX1_25_5_3 (by decide) gkN_5_3 gkR_5_3 (Or.inr ⟨rfl, rfl, rfl⟩) ?_
  cases e
  exact gx_vret dX1_init_33 rfl ⟨Nat.le_of_ble_eq_true rfl, Nat.le_of_ble_eq_true rfl⟩ (fun z => z)
/-! X6_init  -/
set_option maxRecDepth 100000 in
def f_X6_init (v0 : Nat) (v1 : Nat) (v2 : Nat) (v3 : Nat) (v4 : Nat) (h : gi_H) : Option (gi_H) :=
  Option.bind (f_X1_init_5 v0 v1 v2 v3 v4 h) fun q1 => some q1
set_option maxRecDepth 100000 in
theorem z_X6_init {v0 : Nat} {v1 : Nat} {v2 : Nat} {v3 : Nat} {v4 : Nat} {h : gi_H} {h1 : gi_H} (e : f_X6_init v0 v1 v2 v3 v4 h = some h1) : gx_Cw mX6_init true [.ref v0, .ref v1, .ref v2, .ref v3, .ref v4] (gi_cv h) (.inl none) (gi_cv h1) := by
  refine gx_enter (by decide +kernel) rfl (Nat.le_of_ble_eq_true rfl) ?_
  show gx_Z mX6_init true true 0 0 0 [(0, .ref v0), (1, .ref v1), (2, .ref v2), (3, .ref v3), (4, .ref v4)] [] (gi_cv h) (.inl none) (gi_cv h1)
  refine gx_aload_n dX6_init_0 rfl 0 rfl ?_
  refine gx_aload_n dX6_init_1 rfl 1 rfl ?_
  refine gx_aload_n dX6_init_2 rfl 2 rfl ?_
  refine gx_aload_n dX6_init_3 rfl 3 rfl ?_
  refine gx_aload dX6_init_4 4 rfl ?_
  refine gx_bE e (fun q1 hq1 e => ?_)
  refine gx_callI (n := 4) (st := []) (As := [.ref v1, .ref v2, .ref v3, .ref v4]) (b := v0) dX6_init_6 (z_X1_init_5 hq1) rfl ⟨rfl, gw_cw_X1_init, gw_11, gp_X1_init, ⟨Nat.le_of_ble_eq_true rfl, Nat.le_of_ble_eq_true rfl⟩⟩ gw_294 gw_270 rfl rfl ⟨Nat.le_of_ble_eq_true rfl, Nat.le_of_ble_eq_true rfl⟩ (Nat.le_of_ble_eq_true rfl) (gy_k0 (kc2 := 1) (ks2 := 16) ⟨rfl, rfl⟩ ?_) gy_kn
  cases e
  exact gx_vret dX6_init_9 rfl ⟨Nat.le_of_ble_eq_true rfl, Nat.le_of_ble_eq_true rfl⟩ (fun z => z)
/-! X11_init  -/
set_option maxRecDepth 100000 in
def f_X11_init (n : Nat) (v0 : Nat) (h : gi_H) : Option (gi_H) :=
  Option.bind (gi_mk h) fun _ => gx_nm (gi_nw h (0, 7)) fun h1 => Option.bind (f_X8_init (gi_sz h) h1) fun q2 => Option.bind (gi_pR q2 v0 9 0 (gi_sz h)) fun h3 => Option.bind (gi_mk h3) fun _ => gx_nm (gi_nw h3 (0, 3)) fun h4 => Option.bind (f_X4_init n (gi_sz h3) h4) fun q5 => gx_nm (gi_sz h3) fun t6 => Option.bind (gi_mk q5) fun _ => gx_nm (gi_nw q5 (1, 8)) fun h7 => gx_nm (gi_sz q5) fun t8 => Option.bind (gi_mk h7) fun _ => gx_nm (gi_nw h7 (1, 8)) fun h9 => gx_nm (gi_sz h7) fun t10 => Option.bind (gi_mk h9) fun _ => gx_nm (gi_nw h9 (1, 13)) fun h11 => gx_nm (gi_sz h9) fun t12 => Option.bind (f_J7_fill_53178 n t12 (8 : Int) h11) fun q13 => Option.bind (gi_mk q13) fun _ => gx_nm (gi_nw q13 (0, 2)) fun h14 => Option.bind (f_X3_init (gi_sz q13) t6 h14) fun q15 => gx_nm (gi_sz q13) fun t16 => Option.bind (gi_mk q15) fun _ => gx_nm (gi_nw q15 (0, 0)) fun h17 => Option.bind (f_X0_init (gi_sz q15) t16 (1 : Int) h17) fun q18 => gx_nm (gi_sz q15) fun t19 => Option.bind (gi_mk q18) fun _ => gx_nm (gi_nw q18 (0, 0)) fun h20 => Option.bind (f_X0_init (gi_sz q18) t16 (0 : Int) h20) fun q21 => gx_nm (gi_sz q18) fun t22 => Option.bind (gi_mk q21) fun _ => gx_nm (gi_nw q21 (1, 2704)) fun h23 => gx_nm (gi_sz q21) fun t24 => Option.bind (gi_mk h23) fun _ => gx_nm (gi_nw h23 (1, 25350)) fun h25 => gx_nm (gi_sz h23) fun t26 => Option.bind (gi_pR h25 v0 9 1 t6) fun h27 => Option.bind (gi_mk h27) fun _ => gx_nm (gi_nw h27 (0, 3)) fun h28 => Option.bind (f_X4_init n (gi_sz h27) h28) fun q29 => Option.bind (gi_pR q29 v0 9 2 (gi_sz h27)) fun h30 => Option.bind (gi_pR h30 v0 9 4 t8) fun h31 => Option.bind (gi_pR h31 v0 9 5 t10) fun h32 => Option.bind (gi_pR h32 v0 9 6 t12) fun h33 => Option.bind (gi_pR h33 v0 9 8 t16) fun h34 => Option.bind (gi_pR h34 v0 9 9 t19) fun h35 => Option.bind (gi_pR h35 v0 9 10 t22) fun h36 => Option.bind (gi_mk h36) fun _ => gx_nm (gi_nw h36 (0, 4)) fun h37 => Option.bind (f_X5_init (gi_sz h36) t16 t12 h37) fun q38 => Option.bind (gi_pR q38 v0 9 11 (gi_sz h36)) fun h39 => Option.bind (gi_mk h39) fun _ => gx_nm (gi_nw h39 (0, 8)) fun h40 => Option.bind (f_X9_init (gi_sz h39) t19 (1 : Int) t8 t10 t12 h40) fun q41 => Option.bind (gi_pR q41 v0 9 12 (gi_sz h39)) fun h42 => Option.bind (gi_mk h42) fun _ => gx_nm (gi_nw h42 (0, 8)) fun h43 => Option.bind (f_X9_init (gi_sz h42) t19 (0 : Int) t8 t10 t12 h43) fun q44 => Option.bind (gi_pR q44 v0 9 13 (gi_sz h42)) fun h45 => Option.bind (gi_mk h45) fun _ => gx_nm (gi_nw h45 (0, 8)) fun h46 => Option.bind (f_X9_init (gi_sz h45) t22 (0 : Int) t8 t10 t12 h46) fun q47 => Option.bind (gi_pR q47 v0 9 14 (gi_sz h45)) fun h48 => Option.bind (gi_mk h48) fun _ => gx_nm (gi_nw h48 (0, 1)) fun h49 => Option.bind (f_X2_init (gi_sz h48) t16 t12 t24 t26 h49) fun q50 => Option.bind (gi_pR q50 v0 9 15 (gi_sz h48)) fun h51 => Option.bind (gi_mk h51) fun _ => gx_nm (gi_nw h51 (0, 5)) fun h52 => Option.bind (f_X6_init (gi_sz h51) t16 t12 t24 t26 h52) fun q53 => Option.bind (gi_pR q53 v0 9 16 (gi_sz h51)) fun h54 => some h54
set_option maxRecDepth 100000 in
theorem z_X11_init {n : Nat} {v0 : Nat} {h : gi_H} {h1 : gi_H} (e : f_X11_init n v0 h = some h1) : gx_Cw mX11_init true [.ref v0] (gi_cv h) (.inl none) (gi_cv h1) := by
  refine gx_enter (by decide +kernel) rfl (Nat.le_of_ble_eq_true rfl) ?_
  show gx_Z mX11_init true true 0 0 0 [(0, .ref v0)] [] (gi_cv h) (.inl none) (gi_cv h1)
  refine gx_aload_n dX11_init_0 rfl 0 rfl ?_
  refine gx_obj dX11_init_1 gw_27 gw_28 gw_29 (Nat.le_of_ble_eq_true rfl) (Nat.le_of_ble_eq_true rfl) ?_
  refine gx_aload_n dX11_init_4 rfl 0 rfl ?_
  refine gx_bE e (fun _ gh1 e => ?_)
  refine gx_nE e (fun h1 hh1 e => ?_)
  refine gy_new (ci := 7) gh1 hh1 dX11_init_5 (by decide) gw_30 gw_31 gw_2 rfl (kc2 := 1) (ks2 := 2) ⟨rfl, rfl⟩ ⟨Nat.le_of_ble_eq_true rfl, Nat.le_of_ble_eq_true rfl⟩ ?_
  refine gx_dup dX11_init_8 rfl ?_
  refine gx_bE e (fun q2 hq2 e => ?_)
  refine gx_callIN (n := 0) (st := [.ref (gi_sz h), .ref v0]) (As := []) (b := (gi_sz h)) dX11_init_9 (z_X8_init hq2) rfl ⟨rfl, gw_cw_X8_init, gw_2, gp_X8_init, ⟨Nat.le_of_ble_eq_true rfl, Nat.le_of_ble_eq_true rfl⟩⟩ (host := "Grammarsmith") (by decide +kernel) gw_33 rfl rfl ⟨Nat.le_of_ble_eq_true rfl, Nat.le_of_ble_eq_true rfl⟩ (Nat.le_of_ble_eq_true rfl) (gy_k0 (kc2 := 2) (ks2 := 26) ⟨rfl, rfl⟩ ?_) gy_kn
  refine gx_bE e (fun h3 hh3 e => ?_)
  refine gy_qR hh3 dX11_init_12 gf_RX11_12_9_0 (by decide) gkN_9_0 gkR_9_0 (Or.inr ⟨rfl, rfl, rfl⟩) ?_
  refine gx_bE e (fun _ gh4 e => ?_)
  refine gx_nE e (fun h4 hh4 e => ?_)
  refine gy_new (ci := 3) gh4 hh4 dX11_init_15 (by decide) gw_44 gw_45 gw_3 rfl (kc2 := 3) (ks2 := 36) ⟨rfl, rfl⟩ ⟨Nat.le_of_ble_eq_true rfl, Nat.le_of_ble_eq_true rfl⟩ ?_
  refine gx_dup dX11_init_18 rfl ?_
  refine gx_bE e (fun q5 hq5 e => ?_)
  refine gx_callI (n := 0) (st := [.ref (gi_sz h3)]) (As := []) (b := (gi_sz h3)) dX11_init_19 (z_X4_init hq5) rfl ⟨rfl, gw_cw_X4_init, gw_3, gp_X4_init, ⟨Nat.le_of_ble_eq_true rfl, Nat.le_of_ble_eq_true rfl⟩⟩ gw_46 gw_47 rfl rfl ⟨Nat.le_of_ble_eq_true rfl, Nat.le_of_ble_eq_true rfl⟩ (Nat.le_of_ble_eq_true rfl) (gy_k0 (kc2 := 72) (ks2 := 1084) ⟨rfl, rfl⟩ ?_) gy_kn
  refine gx_nE e (fun t6 ht6 e => ?_)
  rw [ht6]
  refine gx_astore_n (ls2 := [(1, .ref t6), (0, .ref v0)]) dX11_init_22 rfl (Nat.le_of_ble_eq_true rfl) rfl ?_
  refine gy_bipush dX11_init_23 gcb_8 ?_
  refine gx_bE e (fun _ gh7 e => ?_)
  refine gx_nE e (fun h7 hh7 e => ?_)
  refine gy_newa1 (N := 8) gh7 hh7 dX11_init_25 gw_66 (by decide +kernel) (by decide +kernel) (by decide) rfl (kc2 := 73) (ks2 := 1092) ⟨rfl, rfl⟩ ⟨Nat.le_of_ble_eq_true rfl, Nat.le_of_ble_eq_true rfl⟩ ?_
  refine gx_nE e (fun t8 ht8 e => ?_)
  rw [ht8]
  refine gx_astore_n (ls2 := [(2, .ref t8), (1, .ref t6), (0, .ref v0)]) dX11_init_27 rfl (Nat.le_of_ble_eq_true rfl) rfl ?_
  refine gy_bipush dX11_init_28 gcb_8 ?_
  refine gx_bE e (fun _ gh9 e => ?_)
  refine gx_nE e (fun h9 hh9 e => ?_)
  refine gy_newa1 (N := 8) gh9 hh9 dX11_init_30 gw_66 (by decide +kernel) (by decide +kernel) (by decide) rfl (kc2 := 74) (ks2 := 1100) ⟨rfl, rfl⟩ ⟨Nat.le_of_ble_eq_true rfl, Nat.le_of_ble_eq_true rfl⟩ ?_
  refine gx_nE e (fun t10 ht10 e => ?_)
  rw [ht10]
  refine gx_astore_n (ls2 := [(3, .ref t10), (2, .ref t8), (1, .ref t6), (0, .ref v0)]) dX11_init_32 rfl (Nat.le_of_ble_eq_true rfl) rfl ?_
  refine gy_bipush dX11_init_33 gcb_13 ?_
  refine gx_bE e (fun _ gh11 e => ?_)
  refine gx_nE e (fun h11 hh11 e => ?_)
  refine gy_newa1 (N := 13) gh11 hh11 dX11_init_35 gw_66 (by decide +kernel) (by decide +kernel) (by decide) rfl (kc2 := 75) (ks2 := 1113) ⟨rfl, rfl⟩ ⟨Nat.le_of_ble_eq_true rfl, Nat.le_of_ble_eq_true rfl⟩ ?_
  refine gx_nE e (fun t12 ht12 e => ?_)
  rw [ht12]
  refine gx_astore (ls2 := [(4, .ref t12), (3, .ref t10), (2, .ref t8), (1, .ref t6), (0, .ref v0)]) dX11_init_37 (Nat.le_of_ble_eq_true rfl) rfl ?_
  refine gx_aload dX11_init_39 0 rfl ?_
  refine gy_bipush dX11_init_41 gcb_8 ?_
  refine gx_bE e (fun q13 hq13 e => ?_)
  refine gx_callS (n := 2) (st := []) (As := [.ref t12, .int (gI (8 : Int))]) dX11_init_43 (z_J7_fill_53178 hq13) rfl ⟨rfl, gw_cw_J7_fill_53178, gw_5, gp_J7_fill_53178, ⟨Nat.le_of_ble_eq_true rfl, Nat.le_of_ble_eq_true rfl⟩⟩ gw_98 gw_99 ⟨Nat.le_of_ble_eq_true rfl, Nat.le_of_ble_eq_true rfl⟩ (Nat.le_of_ble_eq_true rfl) (gy_k0 (kc2 := 75) (ks2 := 1113) ⟨rfl, rfl⟩ ?_) gy_kn
  refine gx_bE e (fun _ gh14 e => ?_)
  refine gx_nE e (fun h14 hh14 e => ?_)
  refine gy_new (ci := 2) gh14 hh14 dX11_init_46 (by decide) gw_101 gw_102 gw_6 rfl (kc2 := 76) (ks2 := 1127) ⟨rfl, rfl⟩ ⟨Nat.le_of_ble_eq_true rfl, Nat.le_of_ble_eq_true rfl⟩ ?_
  refine gx_dup dX11_init_49 rfl ?_
  refine gx_aload_n dX11_init_50 rfl 3 rfl ?_
  refine gx_bE e (fun q15 hq15 e => ?_)
  refine gx_callI (n := 1) (st := [.ref (gi_sz q13)]) (As := [.ref t6]) (b := (gi_sz q13)) dX11_init_51 (z_X3_init hq15) rfl ⟨rfl, gw_cw_X3_init, gw_6, gp_X3_init, ⟨Nat.le_of_ble_eq_true rfl, Nat.le_of_ble_eq_true rfl⟩⟩ gw_103 gw_104 rfl rfl ⟨Nat.le_of_ble_eq_true rfl, Nat.le_of_ble_eq_true rfl⟩ (Nat.le_of_ble_eq_true rfl) (gy_k0 (kc2 := 84) (ks2 := 1579) ⟨rfl, rfl⟩ ?_) gy_kn
  refine gx_nE e (fun t16 ht16 e => ?_)
  rw [ht16]
  refine gx_astore (ls2 := [(5, .ref t16), (4, .ref t12), (3, .ref t10), (2, .ref t8), (1, .ref t6), (0, .ref v0)]) dX11_init_54 (Nat.le_of_ble_eq_true rfl) rfl ?_
  refine gx_bE e (fun _ gh17 e => ?_)
  refine gx_nE e (fun h17 hh17 e => ?_)
  refine gy_new (ci := 0) gh17 hh17 dX11_init_56 (by decide) gw_151 gw_152 gw_7 rfl (kc2 := 85) (ks2 := 1589) ⟨rfl, rfl⟩ ⟨Nat.le_of_ble_eq_true rfl, Nat.le_of_ble_eq_true rfl⟩ ?_
  refine gx_dup dX11_init_59 rfl ?_
  refine gx_aload dX11_init_60 0 rfl ?_
  refine gy_iconst dX11_init_62 ?_
  refine gx_bE e (fun q18 hq18 e => ?_)
  refine gx_callI (n := 2) (st := [.ref (gi_sz q15)]) (As := [.ref t16, .int (gI (1 : Int))]) (b := (gi_sz q15)) dX11_init_63 (z_X0_init hq18) rfl ⟨rfl, gw_cw_X0_init, gw_7, gp_X0_init, ⟨Nat.le_of_ble_eq_true rfl, Nat.le_of_ble_eq_true rfl⟩⟩ gw_153 gw_154 rfl rfl ⟨Nat.le_of_ble_eq_true rfl, Nat.le_of_ble_eq_true rfl⟩ (Nat.le_of_ble_eq_true rfl) (gy_k0 (kc2 := 90) (ks2 := 16459) ⟨rfl, rfl⟩ ?_) gy_kn
  refine gx_nE e (fun t19 ht19 e => ?_)
  rw [ht19]
  refine gx_astore (ls2 := [(6, .ref t19), (5, .ref t16), (4, .ref t12), (3, .ref t10), (2, .ref t8), (1, .ref t6), (0, .ref v0)]) dX11_init_66 (Nat.le_of_ble_eq_true rfl) rfl ?_
  refine gx_bE e (fun _ gh20 e => ?_)
  refine gx_nE e (fun h20 hh20 e => ?_)
  refine gy_new (ci := 0) gh20 hh20 dX11_init_68 (by decide) gw_151 gw_152 gw_7 rfl (kc2 := 91) (ks2 := 16469) ⟨rfl, rfl⟩ ⟨Nat.le_of_ble_eq_true rfl, Nat.le_of_ble_eq_true rfl⟩ ?_
  refine gx_dup dX11_init_71 rfl ?_
  refine gx_aload dX11_init_72 1 rfl ?_
  refine gy_iconst dX11_init_74 ?_
  refine gx_bE e (fun q21 hq21 e => ?_)
  refine gx_callI (n := 2) (st := [.ref (gi_sz q18)]) (As := [.ref t16, .int (gI (0 : Int))]) (b := (gi_sz q18)) dX11_init_75 (z_X0_init hq21) rfl ⟨rfl, gw_cw_X0_init, gw_7, gp_X0_init, ⟨Nat.le_of_ble_eq_true rfl, Nat.le_of_ble_eq_true rfl⟩⟩ gw_153 gw_154 rfl rfl ⟨Nat.le_of_ble_eq_true rfl, Nat.le_of_ble_eq_true rfl⟩ (Nat.le_of_ble_eq_true rfl) (gy_k0 (kc2 := 96) (ks2 := 31339) ⟨rfl, rfl⟩ ?_) gy_kn
  refine gx_nE e (fun t22 ht22 e => ?_)
  rw [ht22]
  refine gx_astore (ls2 := [(7, .ref t22), (6, .ref t19), (5, .ref t16), (4, .ref t12), (3, .ref t10), (2, .ref t8), (1, .ref t6), (0, .ref v0)]) dX11_init_78 (Nat.le_of_ble_eq_true rfl) rfl ?_
  refine gy_sipush dX11_init_80 gcs_2704 ?_
  refine gx_bE e (fun _ gh23 e => ?_)
  refine gx_nE e (fun h23 hh23 e => ?_)
  refine gy_newa1 (N := 2704) gh23 hh23 dX11_init_83 gw_66 (by decide +kernel) (by decide +kernel) (by decide) rfl (kc2 := 97) (ks2 := 34043) ⟨rfl, rfl⟩ ⟨Nat.le_of_ble_eq_true rfl, Nat.le_of_ble_eq_true rfl⟩ ?_
  refine gx_nE e (fun t24 ht24 e => ?_)
  rw [ht24]
  refine gx_astore (ls2 := [(8, .ref t24), (7, .ref t22), (6, .ref t19), (5, .ref t16), (4, .ref t12), (3, .ref t10), (2, .ref t8), (1, .ref t6), (0, .ref v0)]) dX11_init_85 (Nat.le_of_ble_eq_true rfl) rfl ?_
  refine gy_sipush dX11_init_87 gcs_25350 ?_
  refine gx_bE e (fun _ gh25 e => ?_)
  refine gx_nE e (fun h25 hh25 e => ?_)
  refine gy_newa1 (N := 25350) gh25 hh25 dX11_init_90 gw_66 (by decide +kernel) (by decide +kernel) (by decide) rfl (kc2 := 98) (ks2 := 59393) ⟨rfl, rfl⟩ ⟨Nat.le_of_ble_eq_true rfl, Nat.le_of_ble_eq_true rfl⟩ ?_
  refine gx_nE e (fun t26 ht26 e => ?_)
  rw [ht26]
  refine gx_astore (ls2 := [(9, .ref t26), (8, .ref t24), (7, .ref t22), (6, .ref t19), (5, .ref t16), (4, .ref t12), (3, .ref t10), (2, .ref t8), (1, .ref t6), (0, .ref v0)]) dX11_init_92 (Nat.le_of_ble_eq_true rfl) rfl ?_
  refine gx_aload_n dX11_init_94 rfl 9 rfl ?_
  refine gx_aload_n dX11_init_95 rfl 8 rfl ?_
  refine gx_bE e (fun h27 hh27 e => ?_)
  refine gy_qR hh27 dX11_init_96 gf_RX11_35_9_1 (by decide) gkN_9_1 gkR_9_1 (Or.inl rfl) ?_
  refine gx_aload_n dX11_init_99 rfl 9 rfl ?_
  refine gx_bE e (fun _ gh28 e => ?_)
  refine gx_nE e (fun h28 hh28 e => ?_)
  refine gy_new (ci := 3) gh28 hh28 dX11_init_100 (by decide) gw_44 gw_45 gw_3 rfl (kc2 := 99) (ks2 := 59403) ⟨rfl, rfl⟩ ⟨Nat.le_of_ble_eq_true rfl, Nat.le_of_ble_eq_true rfl⟩ ?_
  refine gx_dup dX11_init_103 rfl ?_
  refine gx_bE e (fun q29 hq29 e => ?_)
  refine gx_callI (n := 0) (st := [.ref (gi_sz h27), .ref v0]) (As := []) (b := (gi_sz h27)) dX11_init_104 (z_X4_init hq29) rfl ⟨rfl, gw_cw_X4_init, gw_3, gp_X4_init, ⟨Nat.le_of_ble_eq_true rfl, Nat.le_of_ble_eq_true rfl⟩⟩ gw_46 gw_47 rfl rfl ⟨Nat.le_of_ble_eq_true rfl, Nat.le_of_ble_eq_true rfl⟩ (Nat.le_of_ble_eq_true rfl) (gy_k0 (kc2 := 168) (ks2 := 60451) ⟨rfl, rfl⟩ ?_) gy_kn
  refine gx_bE e (fun h30 hh30 e => ?_)
  refine gy_qR hh30 dX11_init_107 gf_RX11_39_9_2 (by decide) gkN_9_2 gkR_9_2 (Or.inl rfl) ?_
  refine gx_aload_n dX11_init_110 rfl 9 rfl ?_
  refine gx_aload_n dX11_init_111 rfl 7 rfl ?_
  refine gx_bE e (fun h31 hh31 e => ?_)
  refine gy_qR hh31 dX11_init_112 gf_RX11_42_9_4 (by decide) gkN_9_4 gkR_9_4 (Or.inr ⟨rfl, rfl, rfl⟩) ?_
  refine gx_aload_n dX11_init_115 rfl 9 rfl ?_
  refine gx_aload_n dX11_init_116 rfl 6 rfl ?_
  refine gx_bE e (fun h32 hh32 e => ?_)
  refine gy_qR hh32 dX11_init_117 gf_RX11_46_9_5 (by decide) gkN_9_5 gkR_9_5 (Or.inr ⟨rfl, rfl, rfl⟩) ?_
  refine gx_aload_n dX11_init_120 rfl 9 rfl ?_
  refine gx_aload dX11_init_121 5 rfl ?_
  refine gx_bE e (fun h33 hh33 e => ?_)
  refine gy_qR hh33 dX11_init_123 gf_RX11_49_9_6 (by decide) gkN_9_6 gkR_9_6 (Or.inr ⟨rfl, rfl, rfl⟩) ?_
  refine gx_aload_n dX11_init_126 rfl 9 rfl ?_
  refine gx_aload dX11_init_127 4 rfl ?_
  refine gx_bE e (fun h34 hh34 e => ?_)
  refine gy_qR hh34 dX11_init_129 gf_RX11_52_9_8 (by decide) gkN_9_8 gkR_9_8 (Or.inr ⟨rfl, rfl, rfl⟩) ?_
  refine gx_aload_n dX11_init_132 rfl 9 rfl ?_
  refine gx_aload dX11_init_133 3 rfl ?_
  refine gx_bE e (fun h35 hh35 e => ?_)
  refine gy_qR hh35 dX11_init_135 gf_RX11_56_9_9 (by decide) gkN_9_9 gkR_9_9 (Or.inr ⟨rfl, rfl, rfl⟩) ?_
  refine gx_aload_n dX11_init_138 rfl 9 rfl ?_
  refine gx_aload dX11_init_139 2 rfl ?_
  refine gx_bE e (fun h36 hh36 e => ?_)
  refine gy_qR hh36 dX11_init_141 gf_RX11_60_9_10 (by decide) gkN_9_10 gkR_9_10 (Or.inr ⟨rfl, rfl, rfl⟩) ?_
  refine gx_aload_n dX11_init_144 rfl 9 rfl ?_
  refine gx_bE e (fun _ gh37 e => ?_)
  refine gx_nE e (fun h37 hh37 e => ?_)
  refine gy_new (ci := 4) gh37 hh37 dX11_init_145 (by decide) gw_189 gw_190 gw_9 rfl (kc2 := 169) (ks2 := 60458) ⟨rfl, rfl⟩ ⟨Nat.le_of_ble_eq_true rfl, Nat.le_of_ble_eq_true rfl⟩ ?_
  refine gx_dup dX11_init_148 rfl ?_
  refine gx_aload dX11_init_149 4 rfl ?_
  refine gx_aload dX11_init_151 5 rfl ?_
  refine gx_bE e (fun q38 hq38 e => ?_)
  refine gx_callI (n := 2) (st := [.ref (gi_sz h36), .ref v0]) (As := [.ref t16, .ref t12]) (b := (gi_sz h36)) dX11_init_153 (z_X5_init hq38) rfl ⟨rfl, gw_cw_X5_init, gw_9, gp_X5_init, ⟨Nat.le_of_ble_eq_true rfl, Nat.le_of_ble_eq_true rfl⟩⟩ gw_191 gw_192 rfl rfl ⟨Nat.le_of_ble_eq_true rfl, Nat.le_of_ble_eq_true rfl⟩ (Nat.le_of_ble_eq_true rfl) (gy_k0 (kc2 := 171) (ks2 := 62259) ⟨rfl, rfl⟩ ?_) gy_kn
  refine gx_bE e (fun h39 hh39 e => ?_)
  refine gy_qR hh39 dX11_init_156 gf_RX11_68_9_11 (by decide) gkN_9_11 gkR_9_11 (Or.inr ⟨rfl, rfl, rfl⟩) ?_
  refine gx_aload_n dX11_init_159 rfl 9 rfl ?_
  refine gx_bE e (fun _ gh40 e => ?_)
  refine gx_nE e (fun h40 hh40 e => ?_)
  refine gy_new (ci := 8) gh40 hh40 dX11_init_160 (by decide) gw_220 gw_221 gw_10 rfl (kc2 := 172) (ks2 := 62272) ⟨rfl, rfl⟩ ⟨Nat.le_of_ble_eq_true rfl, Nat.le_of_ble_eq_true rfl⟩ ?_
  refine gx_dup dX11_init_163 rfl ?_
  refine gx_aload dX11_init_164 3 rfl ?_
  refine gy_iconst dX11_init_166 ?_
  refine gx_aload_n dX11_init_167 rfl 7 rfl ?_
  refine gx_aload_n dX11_init_168 rfl 6 rfl ?_
  refine gx_aload dX11_init_169 5 rfl ?_
  refine gx_bE e (fun q41 hq41 e => ?_)
  refine gx_callI (n := 5) (st := [.ref (gi_sz h39), .ref v0]) (As := [.ref t19, .int (gI (1 : Int)), .ref t8, .ref t10, .ref t12]) (b := (gi_sz h39)) dX11_init_171 (z_X9_init hq41) rfl ⟨rfl, gw_cw_X9_init, gw_10, gp_X9_init, ⟨Nat.le_of_ble_eq_true rfl, Nat.le_of_ble_eq_true rfl⟩⟩ gw_222 gw_223 rfl rfl ⟨Nat.le_of_ble_eq_true rfl, Nat.le_of_ble_eq_true rfl⟩ (Nat.le_of_ble_eq_true rfl) (gy_k0 (kc2 := 174) (ks2 := 62874) ⟨rfl, rfl⟩ ?_) gy_kn
  refine gx_bE e (fun h42 hh42 e => ?_)
  refine gy_qR hh42 dX11_init_174 gf_RX11_77_9_12 (by decide) gkN_9_12 gkR_9_12 (Or.inr ⟨rfl, rfl, rfl⟩) ?_
  refine gx_aload_n dX11_init_177 rfl 9 rfl ?_
  refine gx_bE e (fun _ gh43 e => ?_)
  refine gx_nE e (fun h43 hh43 e => ?_)
  refine gy_new (ci := 8) gh43 hh43 dX11_init_178 (by decide) gw_220 gw_221 gw_10 rfl (kc2 := 175) (ks2 := 62887) ⟨rfl, rfl⟩ ⟨Nat.le_of_ble_eq_true rfl, Nat.le_of_ble_eq_true rfl⟩ ?_
  refine gx_dup dX11_init_181 rfl ?_
  refine gx_aload dX11_init_182 3 rfl ?_
  refine gy_iconst dX11_init_184 ?_
  refine gx_aload_n dX11_init_185 rfl 7 rfl ?_
  refine gx_aload_n dX11_init_186 rfl 6 rfl ?_
  refine gx_aload dX11_init_187 5 rfl ?_
  refine gx_bE e (fun q44 hq44 e => ?_)
  refine gx_callI (n := 5) (st := [.ref (gi_sz h42), .ref v0]) (As := [.ref t19, .int (gI (0 : Int)), .ref t8, .ref t10, .ref t12]) (b := (gi_sz h42)) dX11_init_189 (z_X9_init hq44) rfl ⟨rfl, gw_cw_X9_init, gw_10, gp_X9_init, ⟨Nat.le_of_ble_eq_true rfl, Nat.le_of_ble_eq_true rfl⟩⟩ gw_222 gw_223 rfl rfl ⟨Nat.le_of_ble_eq_true rfl, Nat.le_of_ble_eq_true rfl⟩ (Nat.le_of_ble_eq_true rfl) (gy_k0 (kc2 := 177) (ks2 := 63489) ⟨rfl, rfl⟩ ?_) gy_kn
  refine gx_bE e (fun h45 hh45 e => ?_)
  refine gy_qR hh45 dX11_init_192 gf_RX11_80_9_13 (by decide) gkN_9_13 gkR_9_13 (Or.inr ⟨rfl, rfl, rfl⟩) ?_
  refine gx_aload_n dX11_init_195 rfl 9 rfl ?_
  refine gx_bE e (fun _ gh46 e => ?_)
  refine gx_nE e (fun h46 hh46 e => ?_)
  refine gy_new (ci := 8) gh46 hh46 dX11_init_196 (by decide) gw_220 gw_221 gw_10 rfl (kc2 := 178) (ks2 := 63502) ⟨rfl, rfl⟩ ⟨Nat.le_of_ble_eq_true rfl, Nat.le_of_ble_eq_true rfl⟩ ?_
  refine gx_dup dX11_init_199 rfl ?_
  refine gx_aload dX11_init_200 2 rfl ?_
  refine gy_iconst dX11_init_202 ?_
  refine gx_aload_n dX11_init_203 rfl 7 rfl ?_
  refine gx_aload_n dX11_init_204 rfl 6 rfl ?_
  refine gx_aload dX11_init_205 5 rfl ?_
  refine gx_bE e (fun q47 hq47 e => ?_)
  refine gx_callI (n := 5) (st := [.ref (gi_sz h45), .ref v0]) (As := [.ref t22, .int (gI (0 : Int)), .ref t8, .ref t10, .ref t12]) (b := (gi_sz h45)) dX11_init_207 (z_X9_init hq47) rfl ⟨rfl, gw_cw_X9_init, gw_10, gp_X9_init, ⟨Nat.le_of_ble_eq_true rfl, Nat.le_of_ble_eq_true rfl⟩⟩ gw_222 gw_223 rfl rfl ⟨Nat.le_of_ble_eq_true rfl, Nat.le_of_ble_eq_true rfl⟩ (Nat.le_of_ble_eq_true rfl) (gy_k0 (kc2 := 180) (ks2 := 64104) ⟨rfl, rfl⟩ ?_) gy_kn
  refine gx_bE e (fun h48 hh48 e => ?_)
  refine gy_qR hh48 dX11_init_210 gf_RX11_83_9_14 (by decide) gkN_9_14 gkR_9_14 (Or.inr ⟨rfl, rfl, rfl⟩) ?_
  refine gx_aload_n dX11_init_213 rfl 9 rfl ?_
  refine gx_bE e (fun _ gh49 e => ?_)
  refine gx_nE e (fun h49 hh49 e => ?_)
  refine gy_new (ci := 1) gh49 hh49 dX11_init_214 (by decide) gw_264 gw_265 gw_12 rfl (kc2 := 181) (ks2 := 64109) ⟨rfl, rfl⟩ ⟨Nat.le_of_ble_eq_true rfl, Nat.le_of_ble_eq_true rfl⟩ ?_
  refine gx_dup dX11_init_217 rfl ?_
  refine gx_aload dX11_init_218 4 rfl ?_
  refine gx_aload dX11_init_220 5 rfl ?_
  refine gx_aload dX11_init_222 1 rfl ?_
  refine gx_aload dX11_init_224 0 rfl ?_
  refine gx_bE e (fun q50 hq50 e => ?_)
  refine gx_callI (n := 4) (st := [.ref (gi_sz h48), .ref v0]) (As := [.ref t16, .ref t12, .ref t24, .ref t26]) (b := (gi_sz h48)) dX11_init_226 (z_X2_init hq50) rfl ⟨rfl, gw_cw_X2_init, gw_12, gp_X2_init, ⟨Nat.le_of_ble_eq_true rfl, Nat.le_of_ble_eq_true rfl⟩⟩ gw_266 gw_267 rfl rfl ⟨Nat.le_of_ble_eq_true rfl, Nat.le_of_ble_eq_true rfl⟩ (Nat.le_of_ble_eq_true rfl) (gy_k0 (kc2 := 182) (ks2 := 64125) ⟨rfl, rfl⟩ ?_) gy_kn
  refine gx_bE e (fun h51 hh51 e => ?_)
  refine gy_qR hh51 dX11_init_229 gf_RX11_91_9_15 (by decide) gkN_9_15 gkR_9_15 (Or.inr ⟨rfl, rfl, rfl⟩) ?_
  refine gx_aload_n dX11_init_232 rfl 9 rfl ?_
  refine gx_bE e (fun _ gh52 e => ?_)
  refine gx_nE e (fun h52 hh52 e => ?_)
  refine gy_new (ci := 5) gh52 hh52 dX11_init_233 (by decide) gw_289 gw_290 gw_13 rfl (kc2 := 183) (ks2 := 64130) ⟨rfl, rfl⟩ ⟨Nat.le_of_ble_eq_true rfl, Nat.le_of_ble_eq_true rfl⟩ ?_
  refine gx_dup dX11_init_236 rfl ?_
  refine gx_aload dX11_init_237 4 rfl ?_
  refine gx_aload dX11_init_239 5 rfl ?_
  refine gx_aload dX11_init_241 1 rfl ?_
  refine gx_aload dX11_init_243 0 rfl ?_
  refine gx_bE e (fun q53 hq53 e => ?_)
  refine gx_callI (n := 4) (st := [.ref (gi_sz h51), .ref v0]) (As := [.ref t16, .ref t12, .ref t24, .ref t26]) (b := (gi_sz h51)) dX11_init_245 (z_X6_init hq53) rfl ⟨rfl, gw_cw_X6_init, gw_13, gp_X6_init, ⟨Nat.le_of_ble_eq_true rfl, Nat.le_of_ble_eq_true rfl⟩⟩ gw_291 gw_292 rfl rfl ⟨Nat.le_of_ble_eq_true rfl, Nat.le_of_ble_eq_true rfl⟩ (Nat.le_of_ble_eq_true rfl) (gy_k0 (kc2 := 184) (ks2 := 64146) ⟨rfl, rfl⟩ ?_) gy_kn
  refine gx_bE e (fun h54 hh54 e => ?_)
  refine gy_qR hh54 dX11_init_248 gf_RX11_98_9_16 (by decide) gkN_9_16 gkR_9_16 (Or.inr ⟨rfl, rfl, rfl⟩) ?_
  cases e
  exact gx_vret dX11_init_251 rfl ⟨Nat.le_of_ble_eq_true rfl, Nat.le_of_ble_eq_true rfl⟩ (fun z => z)
/-! X12_init  -/
set_option maxRecDepth 100000 in
def f_X12_init (v0 : Nat) (h : gi_H) : Option (gi_H) :=
  Option.bind (gi_mk h) fun _ => gx_nm (gi_nw h (1, 48)) fun h1 => Option.bind (gi_pR h1 v0 10 0 (gi_sz h)) fun h2 => Option.bind (gi_mk h2) fun _ => gx_nm (gi_nw h2 (1, 48)) fun h3 => Option.bind (gi_pR h3 v0 10 1 (gi_sz h2)) fun h4 => Option.bind (gi_mk h4) fun _ => gx_nm (gi_nw h4 (1, 240)) fun h5 => Option.bind (gi_pR h5 v0 10 2 (gi_sz h4)) fun h6 => Option.bind (gi_mk h6) fun _ => gx_nm (gi_nw h6 (1, 2)) fun h7 => Option.bind (gi_pR h7 v0 10 3 (gi_sz h6)) fun h8 => Option.bind (gi_mk h8) fun _ => gx_nm (gi_nw h8 (1, 2)) fun h9 => Option.bind (gi_pR h9 v0 10 4 (gi_sz h8)) fun h10 => Option.bind (gi_mk h10) fun _ => gx_nm (gi_nw h10 (1, 48)) fun h11 => Option.bind (gi_pR h11 v0 10 5 (gi_sz h10)) fun h12 => Option.bind (gi_mk h12) fun _ => gx_nm (gi_nw h12 (1, 48)) fun h13 => Option.bind (gi_pR h13 v0 10 6 (gi_sz h12)) fun h14 => Option.bind (gi_mk h14) fun _ => gx_nm (gi_nw h14 (1, 1152)) fun h15 => Option.bind (gi_pR h15 v0 10 7 (gi_sz h14)) fun h16 => Option.bind (gi_mk h16) fun _ => gx_nm (gi_nw h16 (1, 2)) fun h17 => Option.bind (gi_pR h17 v0 10 8 (gi_sz h16)) fun h18 => Option.bind (gi_mk h18) fun _ => gx_nm (gi_nw h18 (1, 8)) fun h19 => Option.bind (gi_pR h19 v0 10 10 (gi_sz h18)) fun h20 => Option.bind (gi_mk h20) fun _ => gx_nm (gi_nw h20 (1, 8)) fun h21 => Option.bind (gi_pR h21 v0 10 11 (gi_sz h20)) fun h22 => Option.bind (gi_mk h22) fun _ => gx_nm (gi_nw h22 (1, 24)) fun h23 => Option.bind (gi_pR h23 v0 10 12 (gi_sz h22)) fun h24 => Option.bind (gi_mk h24) fun _ => gx_nm (gi_nw h24 (1, 32)) fun h25 => Option.bind (gi_pR h25 v0 10 14 (gi_sz h24)) fun h26 => Option.bind (gi_mk h26) fun _ => gx_nm (gi_nw h26 (1, 12)) fun h27 => Option.bind (gi_pR h27 v0 10 16 (gi_sz h26)) fun h28 => Option.bind (gi_mk h28) fun _ => gx_nm (gi_nw h28 (1, 16)) fun h29 => Option.bind (gi_pR h29 v0 10 19 (gi_sz h28)) fun h30 => Option.bind (gi_mk h30) fun _ => gx_nm (gi_nw h30 (1, 16)) fun h31 => Option.bind (gi_pR h31 v0 10 20 (gi_sz h30)) fun h32 => Option.bind (gi_mk h32) fun _ => gx_nm (gi_nw h32 (1, 16)) fun h33 => Option.bind (gi_pR h33 v0 10 21 (gi_sz h32)) fun h34 => Option.bind (gi_mk h34) fun _ => gx_nm (gi_nw h34 (2, 16)) fun h35 => Option.bind (gi_pR h35 v0 10 22 (gi_sz h34)) fun h36 => Option.bind (gi_mk h36) fun _ => gx_nm (gi_nw h36 (1, 16)) fun h37 => Option.bind (gi_pR h37 v0 10 23 (gi_sz h36)) fun h38 => Option.bind (gi_mk h38) fun _ => gx_nm (gi_nw h38 (1, 26)) fun h39 => Option.bind (gi_pR h39 v0 10 24 (gi_sz h38)) fun h40 => Option.bind (gi_mk h40) fun _ => gx_nm (gi_nw h40 (1, 146)) fun h41 => Option.bind (gi_pR h41 v0 10 26 (gi_sz h40)) fun h42 => Option.bind (gi_mk h42) fun _ => gx_nm (gi_nw h42 (1, 11680)) fun h43 => Option.bind (gi_pR h43 v0 10 27 (gi_sz h42)) fun h44 => Option.bind (gi_mk h44) fun _ => gx_nm (gi_nw h44 (1, 1920)) fun h45 => Option.bind (gi_pR h45 v0 10 28 (gi_sz h44)) fun h46 => Option.bind (gi_mk h46) fun _ => gx_nm (gi_nw h46 (1, 11680)) fun h47 => Option.bind (gi_pR h47 v0 10 30 (gi_sz h46)) fun h48 => Option.bind (gi_mk h48) fun _ => gx_nm (gi_nw h48 (1, 1920)) fun h49 => Option.bind (gi_pR h49 v0 10 31 (gi_sz h48)) fun h50 => Option.bind (gi_mk h50) fun _ => gx_nm (gi_nw h50 (1, 1600)) fun h51 => Option.bind (gi_pR h51 v0 10 36 (gi_sz h50)) fun h52 => Option.bind (gi_mk h52) fun _ => gx_nm (gi_nw h52 (1, 1600)) fun h53 => Option.bind (gi_pR h53 v0 10 37 (gi_sz h52)) fun h54 => Option.bind (gi_mk h54) fun _ => gx_nm (gi_nw h54 (1, 300)) fun h55 => Option.bind (gi_pR h55 v0 10 40 (gi_sz h54)) fun h56 => Option.bind (gi_mk h56) fun _ => gx_nm (gi_nw h56 (1, 2704)) fun h57 => Option.bind (gi_pR h57 v0 10 41 (gi_sz h56)) fun h58 => Option.bind (gi_mk h58) fun _ => gx_nm (gi_nw h58 (1, 13)) fun h59 => Option.bind (gi_pR h59 v0 10 42 (gi_sz h58)) fun h60 => Option.bind (gi_mk h60) fun _ => gx_nm (gi_nw h60 (1, 13)) fun h61 => Option.bind (gi_pR h61 v0 10 43 (gi_sz h60)) fun h62 => some h62
set_option maxRecDepth 100000 in
theorem z_X12_init {v0 : Nat} {h : gi_H} {h1 : gi_H} (e : f_X12_init v0 h = some h1) : gx_Cw mX12_init true [.ref v0] (gi_cv h) (.inl none) (gi_cv h1) := by
  refine gx_enter (by decide +kernel) rfl (Nat.le_of_ble_eq_true rfl) ?_
  show gx_Z mX12_init true true 0 0 0 [(0, .ref v0)] [] (gi_cv h) (.inl none) (gi_cv h1)
  refine gx_aload_n dX12_init_0 rfl 0 rfl ?_
  refine gx_obj dX12_init_1 gw_1326 gw_28 gw_29 (Nat.le_of_ble_eq_true rfl) (Nat.le_of_ble_eq_true rfl) ?_
  refine gx_aload_n dX12_init_4 rfl 0 rfl ?_
  refine gy_bipush dX12_init_5 gcb_48 ?_
  refine gx_bE e (fun _ gh1 e => ?_)
  refine gx_nE e (fun h1 hh1 e => ?_)
  refine gy_newa1 (N := 48) gh1 hh1 dX12_init_7 gw_66 (by decide +kernel) (by decide +kernel) (by decide) rfl (kc2 := 1) (ks2 := 48) ⟨rfl, rfl⟩ ⟨Nat.le_of_ble_eq_true rfl, Nat.le_of_ble_eq_true rfl⟩ ?_
  refine gx_bE e (fun h2 hh2 e => ?_)
  refine gy_qR hh2 dX12_init_9 gf_RX12_7_10_0 (by decide) gkN_10_0 gkR_10_0 (Or.inr ⟨rfl, rfl, rfl⟩) ?_
  refine gx_aload_n dX12_init_12 rfl 0 rfl ?_
  refine gy_bipush dX12_init_13 gcb_48 ?_
  refine gx_bE e (fun _ gh3 e => ?_)
  refine gx_nE e (fun h3 hh3 e => ?_)
  refine gy_newa1 (N := 48) gh3 hh3 dX12_init_15 gw_66 (by decide +kernel) (by decide +kernel) (by decide) rfl (kc2 := 2) (ks2 := 96) ⟨rfl, rfl⟩ ⟨Nat.le_of_ble_eq_true rfl, Nat.le_of_ble_eq_true rfl⟩ ?_
  refine gx_bE e (fun h4 hh4 e => ?_)
  refine gy_qR hh4 dX12_init_17 gf_RX12_13_10_1 (by decide) gkN_10_1 gkR_10_1 (Or.inr ⟨rfl, rfl, rfl⟩) ?_
  refine gx_aload_n dX12_init_20 rfl 0 rfl ?_
  refine gy_sipush dX12_init_21 gcs_240 ?_
  refine gx_bE e (fun _ gh5 e => ?_)
  refine gx_nE e (fun h5 hh5 e => ?_)
  refine gy_newa1 (N := 240) gh5 hh5 dX12_init_24 gw_66 (by decide +kernel) (by decide +kernel) (by decide) rfl (kc2 := 3) (ks2 := 336) ⟨rfl, rfl⟩ ⟨Nat.le_of_ble_eq_true rfl, Nat.le_of_ble_eq_true rfl⟩ ?_
  refine gx_bE e (fun h6 hh6 e => ?_)
  refine gy_qR hh6 dX12_init_26 gf_RX12_16_10_2 (by decide) gkN_10_2 gkR_10_2 (Or.inr ⟨rfl, rfl, rfl⟩) ?_
  refine gx_aload_n dX12_init_29 rfl 0 rfl ?_
  refine gy_iconst dX12_init_30 ?_
  refine gx_bE e (fun _ gh7 e => ?_)
  refine gx_nE e (fun h7 hh7 e => ?_)
  refine gy_newa1 (N := 2) gh7 hh7 dX12_init_31 gw_66 (by decide +kernel) (by decide +kernel) (by decide) rfl (kc2 := 4) (ks2 := 338) ⟨rfl, rfl⟩ ⟨Nat.le_of_ble_eq_true rfl, Nat.le_of_ble_eq_true rfl⟩ ?_
  refine gx_bE e (fun h8 hh8 e => ?_)
  refine gy_qR hh8 dX12_init_33 gf_RX12_19_10_3 (by decide) gkN_10_3 gkR_10_3 (Or.inr ⟨rfl, rfl, rfl⟩) ?_
  refine gx_aload_n dX12_init_36 rfl 0 rfl ?_
  refine gy_iconst dX12_init_37 ?_
  refine gx_bE e (fun _ gh9 e => ?_)
  refine gx_nE e (fun h9 hh9 e => ?_)
  refine gy_newa1 (N := 2) gh9 hh9 dX12_init_38 gw_66 (by decide +kernel) (by decide +kernel) (by decide) rfl (kc2 := 5) (ks2 := 340) ⟨rfl, rfl⟩ ⟨Nat.le_of_ble_eq_true rfl, Nat.le_of_ble_eq_true rfl⟩ ?_
  refine gx_bE e (fun h10 hh10 e => ?_)
  refine gy_qR hh10 dX12_init_40 gf_RX12_22_10_4 (by decide) gkN_10_4 gkR_10_4 (Or.inr ⟨rfl, rfl, rfl⟩) ?_
  refine gx_aload_n dX12_init_43 rfl 0 rfl ?_
  refine gy_bipush dX12_init_44 gcb_48 ?_
  refine gx_bE e (fun _ gh11 e => ?_)
  refine gx_nE e (fun h11 hh11 e => ?_)
  refine gy_newa1 (N := 48) gh11 hh11 dX12_init_46 gw_66 (by decide +kernel) (by decide +kernel) (by decide) rfl (kc2 := 6) (ks2 := 388) ⟨rfl, rfl⟩ ⟨Nat.le_of_ble_eq_true rfl, Nat.le_of_ble_eq_true rfl⟩ ?_
  refine gx_bE e (fun h12 hh12 e => ?_)
  refine gy_qR hh12 dX12_init_48 gf_RX12_25_10_5 (by decide) gkN_10_5 gkR_10_5 (Or.inr ⟨rfl, rfl, rfl⟩) ?_
  refine gx_aload_n dX12_init_51 rfl 0 rfl ?_
  refine gy_bipush dX12_init_52 gcb_48 ?_
  refine gx_bE e (fun _ gh13 e => ?_)
  refine gx_nE e (fun h13 hh13 e => ?_)
  refine gy_newa1 (N := 48) gh13 hh13 dX12_init_54 gw_66 (by decide +kernel) (by decide +kernel) (by decide) rfl (kc2 := 7) (ks2 := 436) ⟨rfl, rfl⟩ ⟨Nat.le_of_ble_eq_true rfl, Nat.le_of_ble_eq_true rfl⟩ ?_
  refine gx_bE e (fun h14 hh14 e => ?_)
  refine gy_qR hh14 dX12_init_56 gf_RX12_28_10_6 (by decide) gkN_10_6 gkR_10_6 (Or.inr ⟨rfl, rfl, rfl⟩) ?_
  refine gx_aload_n dX12_init_59 rfl 0 rfl ?_
  refine gy_sipush dX12_init_60 gcs_1152 ?_
  refine gx_bE e (fun _ gh15 e => ?_)
  refine gx_nE e (fun h15 hh15 e => ?_)
  refine gy_newa1 (N := 1152) gh15 hh15 dX12_init_63 gw_66 (by decide +kernel) (by decide +kernel) (by decide) rfl (kc2 := 8) (ks2 := 1588) ⟨rfl, rfl⟩ ⟨Nat.le_of_ble_eq_true rfl, Nat.le_of_ble_eq_true rfl⟩ ?_
  refine gx_bE e (fun h16 hh16 e => ?_)
  refine gy_qR hh16 dX12_init_65 gf_RX12_31_10_7 (by decide) gkN_10_7 gkR_10_7 (Or.inr ⟨rfl, rfl, rfl⟩) ?_
  refine gx_aload_n dX12_init_68 rfl 0 rfl ?_
  refine gy_iconst dX12_init_69 ?_
  refine gx_bE e (fun _ gh17 e => ?_)
  refine gx_nE e (fun h17 hh17 e => ?_)
  refine gy_newa1 (N := 2) gh17 hh17 dX12_init_70 gw_66 (by decide +kernel) (by decide +kernel) (by decide) rfl (kc2 := 9) (ks2 := 1590) ⟨rfl, rfl⟩ ⟨Nat.le_of_ble_eq_true rfl, Nat.le_of_ble_eq_true rfl⟩ ?_
  refine gx_bE e (fun h18 hh18 e => ?_)
  refine gy_qR hh18 dX12_init_72 gf_RX12_34_10_8 (by decide) gkN_10_8 gkR_10_8 (Or.inr ⟨rfl, rfl, rfl⟩) ?_
  refine gx_aload_n dX12_init_75 rfl 0 rfl ?_
  refine gy_bipush dX12_init_76 gcb_8 ?_
  refine gx_bE e (fun _ gh19 e => ?_)
  refine gx_nE e (fun h19 hh19 e => ?_)
  refine gy_newa1 (N := 8) gh19 hh19 dX12_init_78 gw_66 (by decide +kernel) (by decide +kernel) (by decide) rfl (kc2 := 10) (ks2 := 1598) ⟨rfl, rfl⟩ ⟨Nat.le_of_ble_eq_true rfl, Nat.le_of_ble_eq_true rfl⟩ ?_
  refine gx_bE e (fun h20 hh20 e => ?_)
  refine gy_qR hh20 dX12_init_80 gf_RX12_37_10_10 (by decide) gkN_10_10 gkR_10_10 (Or.inr ⟨rfl, rfl, rfl⟩) ?_
  refine gx_aload_n dX12_init_83 rfl 0 rfl ?_
  refine gy_bipush dX12_init_84 gcb_8 ?_
  refine gx_bE e (fun _ gh21 e => ?_)
  refine gx_nE e (fun h21 hh21 e => ?_)
  refine gy_newa1 (N := 8) gh21 hh21 dX12_init_86 gw_66 (by decide +kernel) (by decide +kernel) (by decide) rfl (kc2 := 11) (ks2 := 1606) ⟨rfl, rfl⟩ ⟨Nat.le_of_ble_eq_true rfl, Nat.le_of_ble_eq_true rfl⟩ ?_
  refine gx_bE e (fun h22 hh22 e => ?_)
  refine gy_qR hh22 dX12_init_88 gf_RX12_40_10_11 (by decide) gkN_10_11 gkR_10_11 (Or.inr ⟨rfl, rfl, rfl⟩) ?_
  refine gx_aload_n dX12_init_91 rfl 0 rfl ?_
  refine gy_bipush dX12_init_92 gcb_24 ?_
  refine gx_bE e (fun _ gh23 e => ?_)
  refine gx_nE e (fun h23 hh23 e => ?_)
  refine gy_newa1 (N := 24) gh23 hh23 dX12_init_94 gw_66 (by decide +kernel) (by decide +kernel) (by decide) rfl (kc2 := 12) (ks2 := 1630) ⟨rfl, rfl⟩ ⟨Nat.le_of_ble_eq_true rfl, Nat.le_of_ble_eq_true rfl⟩ ?_
  refine gx_bE e (fun h24 hh24 e => ?_)
  refine gy_qR hh24 dX12_init_96 gf_RX12_43_10_12 (by decide) gkN_10_12 gkR_10_12 (Or.inr ⟨rfl, rfl, rfl⟩) ?_
  refine gx_aload_n dX12_init_99 rfl 0 rfl ?_
  refine gy_bipush dX12_init_100 gcb_32 ?_
  refine gx_bE e (fun _ gh25 e => ?_)
  refine gx_nE e (fun h25 hh25 e => ?_)
  refine gy_newa1 (N := 32) gh25 hh25 dX12_init_102 gw_66 (by decide +kernel) (by decide +kernel) (by decide) rfl (kc2 := 13) (ks2 := 1662) ⟨rfl, rfl⟩ ⟨Nat.le_of_ble_eq_true rfl, Nat.le_of_ble_eq_true rfl⟩ ?_
  refine gx_bE e (fun h26 hh26 e => ?_)
  refine gy_qR hh26 dX12_init_104 gf_RX12_46_10_14 (by decide) gkN_10_14 gkR_10_14 (Or.inr ⟨rfl, rfl, rfl⟩) ?_
  refine gx_aload_n dX12_init_107 rfl 0 rfl ?_
  refine gy_bipush dX12_init_108 gcb_12 ?_
  refine gx_bE e (fun _ gh27 e => ?_)
  refine gx_nE e (fun h27 hh27 e => ?_)
  refine gy_newa1 (N := 12) gh27 hh27 dX12_init_110 gw_66 (by decide +kernel) (by decide +kernel) (by decide) rfl (kc2 := 14) (ks2 := 1674) ⟨rfl, rfl⟩ ⟨Nat.le_of_ble_eq_true rfl, Nat.le_of_ble_eq_true rfl⟩ ?_
  refine gx_bE e (fun h28 hh28 e => ?_)
  refine gy_qR hh28 dX12_init_112 gf_RX12_49_10_16 (by decide) gkN_10_16 gkR_10_16 (Or.inr ⟨rfl, rfl, rfl⟩) ?_
  refine gx_aload_n dX12_init_115 rfl 0 rfl ?_
  refine gy_bipush dX12_init_116 gcb_16 ?_
  refine gx_bE e (fun _ gh29 e => ?_)
  refine gx_nE e (fun h29 hh29 e => ?_)
  refine gy_newa1 (N := 16) gh29 hh29 dX12_init_118 gw_66 (by decide +kernel) (by decide +kernel) (by decide) rfl (kc2 := 15) (ks2 := 1690) ⟨rfl, rfl⟩ ⟨Nat.le_of_ble_eq_true rfl, Nat.le_of_ble_eq_true rfl⟩ ?_
  refine gx_bE e (fun h30 hh30 e => ?_)
  refine gy_qR hh30 dX12_init_120 gf_RX12_52_10_19 (by decide) gkN_10_19 gkR_10_19 (Or.inr ⟨rfl, rfl, rfl⟩) ?_
  refine gx_aload_n dX12_init_123 rfl 0 rfl ?_
  refine gy_bipush dX12_init_124 gcb_16 ?_
  refine gx_bE e (fun _ gh31 e => ?_)
  refine gx_nE e (fun h31 hh31 e => ?_)
  refine gy_newa1 (N := 16) gh31 hh31 dX12_init_126 gw_66 (by decide +kernel) (by decide +kernel) (by decide) rfl (kc2 := 16) (ks2 := 1706) ⟨rfl, rfl⟩ ⟨Nat.le_of_ble_eq_true rfl, Nat.le_of_ble_eq_true rfl⟩ ?_
  refine gx_bE e (fun h32 hh32 e => ?_)
  refine gy_qR hh32 dX12_init_128 gf_RX12_55_10_20 (by decide) gkN_10_20 gkR_10_20 (Or.inr ⟨rfl, rfl, rfl⟩) ?_
  refine gx_aload_n dX12_init_131 rfl 0 rfl ?_
  refine gy_bipush dX12_init_132 gcb_16 ?_
  refine gx_bE e (fun _ gh33 e => ?_)
  refine gx_nE e (fun h33 hh33 e => ?_)
  refine gy_newa1 (N := 16) gh33 hh33 dX12_init_134 gw_66 (by decide +kernel) (by decide +kernel) (by decide) rfl (kc2 := 17) (ks2 := 1722) ⟨rfl, rfl⟩ ⟨Nat.le_of_ble_eq_true rfl, Nat.le_of_ble_eq_true rfl⟩ ?_
  refine gx_bE e (fun h34 hh34 e => ?_)
  refine gy_qR hh34 dX12_init_136 gf_RX12_58_10_21 (by decide) gkN_10_21 gkR_10_21 (Or.inr ⟨rfl, rfl, rfl⟩) ?_
  refine gx_aload_n dX12_init_139 rfl 0 rfl ?_
  refine gy_bipush dX12_init_140 gcb_16 ?_
  refine gx_bE e (fun _ gh35 e => ?_)
  refine gx_nE e (fun h35 hh35 e => ?_)
  refine gy_newa2 (N := 16) gh35 hh35 dX12_init_142 gw_150 (by decide +kernel) (by decide +kernel) (by decide) rfl (kc2 := 18) (ks2 := 1738) ⟨rfl, rfl⟩ ⟨Nat.le_of_ble_eq_true rfl, Nat.le_of_ble_eq_true rfl⟩ ?_
  refine gx_bE e (fun h36 hh36 e => ?_)
  refine gy_qR hh36 dX12_init_144 gf_RX12_61_10_22 (by decide) gkN_10_22 gkR_10_22 (Or.inr ⟨rfl, rfl, rfl⟩) ?_
  refine gx_aload_n dX12_init_147 rfl 0 rfl ?_
  refine gy_bipush dX12_init_148 gcb_16 ?_
  refine gx_bE e (fun _ gh37 e => ?_)
  refine gx_nE e (fun h37 hh37 e => ?_)
  refine gy_newa1 (N := 16) gh37 hh37 dX12_init_150 gw_66 (by decide +kernel) (by decide +kernel) (by decide) rfl (kc2 := 19) (ks2 := 1754) ⟨rfl, rfl⟩ ⟨Nat.le_of_ble_eq_true rfl, Nat.le_of_ble_eq_true rfl⟩ ?_
  refine gx_bE e (fun h38 hh38 e => ?_)
  refine gy_qR hh38 dX12_init_152 gf_RX12_65_10_23 (by decide) gkN_10_23 gkR_10_23 (Or.inr ⟨rfl, rfl, rfl⟩) ?_
  refine gx_aload_n dX12_init_155 rfl 0 rfl ?_
  refine gy_bipush dX12_init_156 gcb_26 ?_
  refine gx_bE e (fun _ gh39 e => ?_)
  refine gx_nE e (fun h39 hh39 e => ?_)
  refine gy_newa1 (N := 26) gh39 hh39 dX12_init_158 gw_66 (by decide +kernel) (by decide +kernel) (by decide) rfl (kc2 := 20) (ks2 := 1780) ⟨rfl, rfl⟩ ⟨Nat.le_of_ble_eq_true rfl, Nat.le_of_ble_eq_true rfl⟩ ?_
  refine gx_bE e (fun h40 hh40 e => ?_)
  refine gy_qR hh40 dX12_init_160 gf_RX12_68_10_24 (by decide) gkN_10_24 gkR_10_24 (Or.inr ⟨rfl, rfl, rfl⟩) ?_
  refine gx_aload_n dX12_init_163 rfl 0 rfl ?_
  refine gy_sipush dX12_init_164 gcs_146 ?_
  refine gx_bE e (fun _ gh41 e => ?_)
  refine gx_nE e (fun h41 hh41 e => ?_)
  refine gy_newa1 (N := 146) gh41 hh41 dX12_init_167 gw_66 (by decide +kernel) (by decide +kernel) (by decide) rfl (kc2 := 21) (ks2 := 1926) ⟨rfl, rfl⟩ ⟨Nat.le_of_ble_eq_true rfl, Nat.le_of_ble_eq_true rfl⟩ ?_
  refine gx_bE e (fun h42 hh42 e => ?_)
  refine gy_qR hh42 dX12_init_169 gf_RX12_71_10_26 (by decide) gkN_10_26 gkR_10_26 (Or.inr ⟨rfl, rfl, rfl⟩) ?_
  refine gx_aload_n dX12_init_172 rfl 0 rfl ?_
  refine gy_sipush dX12_init_173 gcs_11680 ?_
  refine gx_bE e (fun _ gh43 e => ?_)
  refine gx_nE e (fun h43 hh43 e => ?_)
  refine gy_newa1 (N := 11680) gh43 hh43 dX12_init_176 gw_66 (by decide +kernel) (by decide +kernel) (by decide) rfl (kc2 := 22) (ks2 := 13606) ⟨rfl, rfl⟩ ⟨Nat.le_of_ble_eq_true rfl, Nat.le_of_ble_eq_true rfl⟩ ?_
  refine gx_bE e (fun h44 hh44 e => ?_)
  refine gy_qR hh44 dX12_init_178 gf_RX12_74_10_27 (by decide) gkN_10_27 gkR_10_27 (Or.inr ⟨rfl, rfl, rfl⟩) ?_
  refine gx_aload_n dX12_init_181 rfl 0 rfl ?_
  refine gy_sipush dX12_init_182 gcs_1920 ?_
  refine gx_bE e (fun _ gh45 e => ?_)
  refine gx_nE e (fun h45 hh45 e => ?_)
  refine gy_newa1 (N := 1920) gh45 hh45 dX12_init_185 gw_66 (by decide +kernel) (by decide +kernel) (by decide) rfl (kc2 := 23) (ks2 := 15526) ⟨rfl, rfl⟩ ⟨Nat.le_of_ble_eq_true rfl, Nat.le_of_ble_eq_true rfl⟩ ?_
  refine gx_bE e (fun h46 hh46 e => ?_)
  refine gy_qR hh46 dX12_init_187 gf_RX12_77_10_28 (by decide) gkN_10_28 gkR_10_28 (Or.inr ⟨rfl, rfl, rfl⟩) ?_
  refine gx_aload_n dX12_init_190 rfl 0 rfl ?_
  refine gy_sipush dX12_init_191 gcs_11680 ?_
  refine gx_bE e (fun _ gh47 e => ?_)
  refine gx_nE e (fun h47 hh47 e => ?_)
  refine gy_newa1 (N := 11680) gh47 hh47 dX12_init_194 gw_66 (by decide +kernel) (by decide +kernel) (by decide) rfl (kc2 := 24) (ks2 := 27206) ⟨rfl, rfl⟩ ⟨Nat.le_of_ble_eq_true rfl, Nat.le_of_ble_eq_true rfl⟩ ?_
  refine gx_bE e (fun h48 hh48 e => ?_)
  refine gy_qR hh48 dX12_init_196 gf_RX12_80_10_30 (by decide) gkN_10_30 gkR_10_30 (Or.inr ⟨rfl, rfl, rfl⟩) ?_
  refine gx_aload_n dX12_init_199 rfl 0 rfl ?_
  refine gy_sipush dX12_init_200 gcs_1920 ?_
  refine gx_bE e (fun _ gh49 e => ?_)
  refine gx_nE e (fun h49 hh49 e => ?_)
  refine gy_newa1 (N := 1920) gh49 hh49 dX12_init_203 gw_66 (by decide +kernel) (by decide +kernel) (by decide) rfl (kc2 := 25) (ks2 := 29126) ⟨rfl, rfl⟩ ⟨Nat.le_of_ble_eq_true rfl, Nat.le_of_ble_eq_true rfl⟩ ?_
  refine gx_bE e (fun h50 hh50 e => ?_)
  refine gy_qR hh50 dX12_init_205 gf_RX12_83_10_31 (by decide) gkN_10_31 gkR_10_31 (Or.inr ⟨rfl, rfl, rfl⟩) ?_
  refine gx_aload_n dX12_init_208 rfl 0 rfl ?_
  refine gy_sipush dX12_init_209 gcs_1600 ?_
  refine gx_bE e (fun _ gh51 e => ?_)
  refine gx_nE e (fun h51 hh51 e => ?_)
  refine gy_newa1 (N := 1600) gh51 hh51 dX12_init_212 gw_66 (by decide +kernel) (by decide +kernel) (by decide) rfl (kc2 := 26) (ks2 := 30726) ⟨rfl, rfl⟩ ⟨Nat.le_of_ble_eq_true rfl, Nat.le_of_ble_eq_true rfl⟩ ?_
  refine gx_bE e (fun h52 hh52 e => ?_)
  refine gy_qR hh52 dX12_init_214 gf_RX12_86_10_36 (by decide) gkN_10_36 gkR_10_36 (Or.inr ⟨rfl, rfl, rfl⟩) ?_
  refine gx_aload_n dX12_init_217 rfl 0 rfl ?_
  refine gy_sipush dX12_init_218 gcs_1600 ?_
  refine gx_bE e (fun _ gh53 e => ?_)
  refine gx_nE e (fun h53 hh53 e => ?_)
  refine gy_newa1 (N := 1600) gh53 hh53 dX12_init_221 gw_66 (by decide +kernel) (by decide +kernel) (by decide) rfl (kc2 := 27) (ks2 := 32326) ⟨rfl, rfl⟩ ⟨Nat.le_of_ble_eq_true rfl, Nat.le_of_ble_eq_true rfl⟩ ?_
  refine gx_bE e (fun h54 hh54 e => ?_)
  refine gy_qR hh54 dX12_init_223 gf_RX12_89_10_37 (by decide) gkN_10_37 gkR_10_37 (Or.inr ⟨rfl, rfl, rfl⟩) ?_
  refine gx_aload_n dX12_init_226 rfl 0 rfl ?_
  refine gy_sipush dX12_init_227 gcs_300 ?_
  refine gx_bE e (fun _ gh55 e => ?_)
  refine gx_nE e (fun h55 hh55 e => ?_)
  refine gy_newa1 (N := 300) gh55 hh55 dX12_init_230 gw_66 (by decide +kernel) (by decide +kernel) (by decide) rfl (kc2 := 28) (ks2 := 32626) ⟨rfl, rfl⟩ ⟨Nat.le_of_ble_eq_true rfl, Nat.le_of_ble_eq_true rfl⟩ ?_
  refine gx_bE e (fun h56 hh56 e => ?_)
  refine gy_qR hh56 dX12_init_232 gf_RX12_92_10_40 (by decide) gkN_10_40 gkR_10_40 (Or.inr ⟨rfl, rfl, rfl⟩) ?_
  refine gx_aload_n dX12_init_235 rfl 0 rfl ?_
  refine gy_sipush dX12_init_236 gcs_2704 ?_
  refine gx_bE e (fun _ gh57 e => ?_)
  refine gx_nE e (fun h57 hh57 e => ?_)
  refine gy_newa1 (N := 2704) gh57 hh57 dX12_init_239 gw_66 (by decide +kernel) (by decide +kernel) (by decide) rfl (kc2 := 29) (ks2 := 35330) ⟨rfl, rfl⟩ ⟨Nat.le_of_ble_eq_true rfl, Nat.le_of_ble_eq_true rfl⟩ ?_
  refine gx_bE e (fun h58 hh58 e => ?_)
  refine gy_qR hh58 dX12_init_241 gf_RX12_95_10_41 (by decide) gkN_10_41 gkR_10_41 (Or.inr ⟨rfl, rfl, rfl⟩) ?_
  refine gx_aload_n dX12_init_244 rfl 0 rfl ?_
  refine gy_bipush dX12_init_245 gcb_13 ?_
  refine gx_bE e (fun _ gh59 e => ?_)
  refine gx_nE e (fun h59 hh59 e => ?_)
  refine gy_newa1 (N := 13) gh59 hh59 dX12_init_247 gw_66 (by decide +kernel) (by decide +kernel) (by decide) rfl (kc2 := 30) (ks2 := 35343) ⟨rfl, rfl⟩ ⟨Nat.le_of_ble_eq_true rfl, Nat.le_of_ble_eq_true rfl⟩ ?_
  refine gx_bE e (fun h60 hh60 e => ?_)
  refine gy_qR hh60 dX12_init_249 gf_RX12_98_10_42 (by decide) gkN_10_42 gkR_10_42 (Or.inr ⟨rfl, rfl, rfl⟩) ?_
  refine gx_aload_n dX12_init_252 rfl 0 rfl ?_
  refine gy_bipush dX12_init_253 gcb_13 ?_
  refine gx_bE e (fun _ gh61 e => ?_)
  refine gx_nE e (fun h61 hh61 e => ?_)
  refine gy_newa1 (N := 13) gh61 hh61 dX12_init_255 gw_66 (by decide +kernel) (by decide +kernel) (by decide) rfl (kc2 := 31) (ks2 := 35356) ⟨rfl, rfl⟩ ⟨Nat.le_of_ble_eq_true rfl, Nat.le_of_ble_eq_true rfl⟩ ?_
  refine gx_bE e (fun h62 hh62 e => ?_)
  refine gy_qR hh62 dX12_init_257 gf_RX12_101_10_43 (by decide) gkN_10_43 gkR_10_43 (Or.inr ⟨rfl, rfl, rfl⟩) ?_
  cases e
  exact gx_vret dX12_init_260 rfl ⟨Nat.le_of_ble_eq_true rfl, Nat.le_of_ble_eq_true rfl⟩ (fun z => z)
/-! X11_isTerminalLetter  -/
set_option maxRecDepth 100000 in
def b_X11_isTerminalLetter_16    (h : gi_H) : Option (Int) :=
  some (0 : Int)
set_option maxRecDepth 100000 in
theorem zb_X11_isTerminalLetter_16 {al : Bool}  {res : Int}    {h : gi_H} (e : b_X11_isTerminalLetter_16  h = some res) : gx_Z mX11_isTerminalLetter al al 0 0 16 [] [] (gi_cv h) (.inl (some (.int (gI res)))) (gi_cv h) := by
  refine gy_iconst dX11_isTerminalLetter_16 ?_
  cases e
  exact gx_zret (by decide +kernel) dX11_isTerminalLetter_17 rfl ⟨Nat.le_of_ble_eq_true rfl, Nat.le_of_ble_eq_true rfl⟩ (fun z => z)
set_option maxRecDepth 100000 in
def f_X11_isTerminalLetter (v0 : Int) (h : gi_H) : Option (Int) :=
  Option.bind (gi_rg v0) fun _ => if v0 < (97 : Int) then (b_X11_isTerminalLetter_16   h) else (if (104 : Int) < v0 then (b_X11_isTerminalLetter_16   h) else (some (1 : Int)))
set_option maxRecDepth 100000 in
theorem z_X11_isTerminalLetter {al : Bool} {v0 : Int} {h : gi_H} {res : Int} (e : f_X11_isTerminalLetter v0 h = some res) : gx_Cw mX11_isTerminalLetter al [.int (gI v0)] (gi_cv h) (.inl (some (.int (gI res)))) (gi_cv h) := by
  refine gx_enter (by decide +kernel) rfl (Nat.le_of_ble_eq_true rfl) ?_
  show gx_Z mX11_isTerminalLetter al al 0 0 0 [(0, .int (gI v0))] [] (gi_cv h) (.inl (some (.int (gI res)))) (gi_cv h)
  refine gx_iload_n dX11_isTerminalLetter_0 rfl 0 rfl ?_
  refine gy_bipush dX11_isTerminalLetter_1 gcb_97 ?_
  refine gx_bE e (fun _ g1 e => ?_)
  refine gx_iE e (fun c2 e => ?_) (fun c2 e => ?_)
  · refine gy_icmp_lt (tgt := 16) (gi_rgS g1) (by decide) dX11_isTerminalLetter_3 (by decide) (fun _ => ?_) (fun z => absurd c2 z)
    refine gx_sub (ls2 := []) [] rfl ?_
    exact zb_X11_isTerminalLetter_16  e
  · refine gy_icmp_lt (tgt := 16) (gi_rgS g1) (by decide) dX11_isTerminalLetter_3 (by decide) (fun z => absurd z c2) (fun _ => ?_)
    refine gx_iload_n dX11_isTerminalLetter_6 rfl 0 rfl ?_
    refine gy_bipush dX11_isTerminalLetter_7 gcb_104 ?_
    refine gx_iE e (fun c3 e => ?_) (fun c3 e => ?_)
    · refine gy_icmp_gt (tgt := 16) (gi_rgS g1) (by decide) dX11_isTerminalLetter_9 (by decide) (fun _ => ?_) (fun z => absurd c3 z)
      refine gx_sub (ls2 := []) [] rfl ?_
      exact zb_X11_isTerminalLetter_16  e
    · refine gy_icmp_gt (tgt := 16) (gi_rgS g1) (by decide) dX11_isTerminalLetter_9 (by decide) (fun z => absurd z c3) (fun _ => ?_)
      refine gy_iconst dX11_isTerminalLetter_12 ?_
      refine gx_goto (tgt := 17) dX11_isTerminalLetter_13 (by decide) ?_
      cases e
      exact gx_zret (by decide +kernel) dX11_isTerminalLetter_17 rfl ⟨Nat.le_of_ble_eq_true rfl, Nat.le_of_ble_eq_true rfl⟩ (fun z => z)
/-! X11_isNonterminalLetter  -/
set_option maxRecDepth 100000 in
def b_X11_isNonterminalLetter_16    (h : gi_H) : Option (Int) :=
  some (0 : Int)
set_option maxRecDepth 100000 in
theorem zb_X11_isNonterminalLetter_16 {al : Bool}  {res : Int}    {h : gi_H} (e : b_X11_isNonterminalLetter_16  h = some res) : gx_Z mX11_isNonterminalLetter al al 0 0 16 [] [] (gi_cv h) (.inl (some (.int (gI res)))) (gi_cv h) := by
  refine gy_iconst dX11_isNonterminalLetter_16 ?_
  cases e
  exact gx_zret (by decide +kernel) dX11_isNonterminalLetter_17 rfl ⟨Nat.le_of_ble_eq_true rfl, Nat.le_of_ble_eq_true rfl⟩ (fun z => z)
set_option maxRecDepth 100000 in
def f_X11_isNonterminalLetter (v0 : Int) (h : gi_H) : Option (Int) :=
  Option.bind (gi_rg v0) fun _ => if v0 < (65 : Int) then (b_X11_isNonterminalLetter_16   h) else (if (72 : Int) < v0 then (b_X11_isNonterminalLetter_16   h) else (some (1 : Int)))
set_option maxRecDepth 100000 in
theorem z_X11_isNonterminalLetter {al : Bool} {v0 : Int} {h : gi_H} {res : Int} (e : f_X11_isNonterminalLetter v0 h = some res) : gx_Cw mX11_isNonterminalLetter al [.int (gI v0)] (gi_cv h) (.inl (some (.int (gI res)))) (gi_cv h) := by
  refine gx_enter (by decide +kernel) rfl (Nat.le_of_ble_eq_true rfl) ?_
  show gx_Z mX11_isNonterminalLetter al al 0 0 0 [(0, .int (gI v0))] [] (gi_cv h) (.inl (some (.int (gI res)))) (gi_cv h)
  refine gx_iload_n dX11_isNonterminalLetter_0 rfl 0 rfl ?_
  refine gy_bipush dX11_isNonterminalLetter_1 gcb_65 ?_
  refine gx_bE e (fun _ g1 e => ?_)
  refine gx_iE e (fun c2 e => ?_) (fun c2 e => ?_)
  · refine gy_icmp_lt (tgt := 16) (gi_rgS g1) (by decide) dX11_isNonterminalLetter_3 (by decide) (fun _ => ?_) (fun z => absurd c2 z)
    refine gx_sub (ls2 := []) [] rfl ?_
    exact zb_X11_isNonterminalLetter_16  e
  · refine gy_icmp_lt (tgt := 16) (gi_rgS g1) (by decide) dX11_isNonterminalLetter_3 (by decide) (fun z => absurd z c2) (fun _ => ?_)
    refine gx_iload_n dX11_isNonterminalLetter_6 rfl 0 rfl ?_
    refine gy_bipush dX11_isNonterminalLetter_7 gcb_72 ?_
    refine gx_iE e (fun c3 e => ?_) (fun c3 e => ?_)
    · refine gy_icmp_gt (tgt := 16) (gi_rgS g1) (by decide) dX11_isNonterminalLetter_9 (by decide) (fun _ => ?_) (fun z => absurd c3 z)
      refine gx_sub (ls2 := []) [] rfl ?_
      exact zb_X11_isNonterminalLetter_16  e
    · refine gy_icmp_gt (tgt := 16) (gi_rgS g1) (by decide) dX11_isNonterminalLetter_9 (by decide) (fun z => absurd z c3) (fun _ => ?_)
      refine gy_iconst dX11_isNonterminalLetter_12 ?_
      refine gx_goto (tgt := 17) dX11_isNonterminalLetter_13 (by decide) ?_
      cases e
      exact gx_zret (by decide +kernel) dX11_isNonterminalLetter_17 rfl ⟨Nat.le_of_ble_eq_true rfl, Nat.le_of_ble_eq_true rfl⟩ (fun z => z)
/-! X11_isRepeat  -/
set_option maxRecDepth 100000 in
def b_X11_isRepeat_18    (h : gi_H) : Option (Int) :=
  some (1 : Int)
set_option maxRecDepth 100000 in
theorem zb_X11_isRepeat_18 {al : Bool}  {res : Int}    {h : gi_H} (e : b_X11_isRepeat_18  h = some res) : gx_Z mX11_isRepeat al al 0 0 18 [] [] (gi_cv h) (.inl (some (.int (gI res)))) (gi_cv h) := by
  refine gy_iconst dX11_isRepeat_18 ?_
  refine gx_goto (tgt := 23) dX11_isRepeat_19 (by decide) ?_
  cases e
  exact gx_zret (by decide +kernel) dX11_isRepeat_23 rfl ⟨Nat.le_of_ble_eq_true rfl, Nat.le_of_ble_eq_true rfl⟩ (fun z => z)
set_option maxRecDepth 100000 in
def f_X11_isRepeat (v0 : Int) (h : gi_H) : Option (Int) :=
  Option.bind (gi_rg v0) fun _ => if v0 = (63 : Int) then (b_X11_isRepeat_18   h) else (if v0 = (42 : Int) then (b_X11_isRepeat_18   h) else (if v0 = (43 : Int) then (b_X11_isRepeat_18   h) else (some (0 : Int))))
set_option maxRecDepth 100000 in
theorem z_X11_isRepeat {al : Bool} {v0 : Int} {h : gi_H} {res : Int} (e : f_X11_isRepeat v0 h = some res) : gx_Cw mX11_isRepeat al [.int (gI v0)] (gi_cv h) (.inl (some (.int (gI res)))) (gi_cv h) := by
  refine gx_enter (by decide +kernel) rfl (Nat.le_of_ble_eq_true rfl) ?_
  show gx_Z mX11_isRepeat al al 0 0 0 [(0, .int (gI v0))] [] (gi_cv h) (.inl (some (.int (gI res)))) (gi_cv h)
  refine gx_iload_n dX11_isRepeat_0 rfl 0 rfl ?_
  refine gy_bipush dX11_isRepeat_1 gcb_63 ?_
  refine gx_bE e (fun _ g1 e => ?_)
  refine gx_iE e (fun c2 e => ?_) (fun c2 e => ?_)
  · refine gy_icmp_eq (tgt := 18) (gi_rgS g1) (by decide) dX11_isRepeat_3 (by decide) (fun _ => ?_) (fun z => absurd c2 z)
    refine gx_sub (ls2 := []) [] rfl ?_
    exact zb_X11_isRepeat_18  e
  · refine gy_icmp_eq (tgt := 18) (gi_rgS g1) (by decide) dX11_isRepeat_3 (by decide) (fun z => absurd z c2) (fun _ => ?_)
    refine gx_iload_n dX11_isRepeat_6 rfl 0 rfl ?_
    refine gy_bipush dX11_isRepeat_7 gcb_42 ?_
    refine gx_iE e (fun c3 e => ?_) (fun c3 e => ?_)
    · refine gy_icmp_eq (tgt := 18) (gi_rgS g1) (by decide) dX11_isRepeat_9 (by decide) (fun _ => ?_) (fun z => absurd c3 z)
      refine gx_sub (ls2 := []) [] rfl ?_
      exact zb_X11_isRepeat_18  e
    · refine gy_icmp_eq (tgt := 18) (gi_rgS g1) (by decide) dX11_isRepeat_9 (by decide) (fun z => absurd z c3) (fun _ => ?_)
      refine gx_iload_n dX11_isRepeat_12 rfl 0 rfl ?_
      refine gy_bipush dX11_isRepeat_13 gcb_43 ?_
      refine gx_iE e (fun c4 e => ?_) (fun c4 e => ?_)
      · refine gy_icmp_ne (tgt := 22) (gi_rgS g1) (by decide) dX11_isRepeat_15 (by decide) (fun z => absurd c4 z) (fun _ => ?_)
        refine gx_sub (ls2 := []) [] rfl ?_
        exact zb_X11_isRepeat_18  e
      · refine gy_icmp_ne (tgt := 22) (gi_rgS g1) (by decide) dX11_isRepeat_15 (by decide) (fun _ => ?_) (fun z => absurd z c4)
        refine gy_iconst dX11_isRepeat_22 ?_
        cases e
        exact gx_zret (by decide +kernel) dX11_isRepeat_23 rfl ⟨Nat.le_of_ble_eq_true rfl, Nat.le_of_ble_eq_true rfl⟩ (fun z => z)
/-! X11_isLetter  -/
set_option maxRecDepth 100000 in
def b_X11_isLetter_51    (h : gi_H) : Option (Int) :=
  some (1 : Int)
set_option maxRecDepth 100000 in
theorem zb_X11_isLetter_51 {al : Bool}  {res : Int}    {h : gi_H} (e : b_X11_isLetter_51  h = some res) : gx_Z mX11_isLetter al al 0 0 51 [] [] (gi_cv h) (.inl (some (.int (gI res)))) (gi_cv h) := by
  refine gy_iconst dX11_isLetter_51 ?_
  refine gx_goto (tgt := 56) dX11_isLetter_52 (by decide) ?_
  cases e
  exact gx_zret (by decide +kernel) dX11_isLetter_56 rfl ⟨Nat.le_of_ble_eq_true rfl, Nat.le_of_ble_eq_true rfl⟩ (fun z => z)
set_option maxRecDepth 100000 in
def f_X11_isLetter (v0 : Int) (h : gi_H) : Option (Int) :=
  Option.bind (f_X11_isTerminalLetter v0 h) fun q1 => Option.bind (gi_rg q1) fun _ => if q1 = 0 then (Option.bind (f_X11_isNonterminalLetter v0 h) fun q4 => Option.bind (gi_rg q4) fun _ => if q4 = 0 then (Option.bind (f_X11_isRepeat v0 h) fun q7 => Option.bind (gi_rg q7) fun _ => if q7 = 0 then (Option.bind (gi_rg v0) fun _ => if v0 = (58 : Int) then (b_X11_isLetter_51   h) else (if v0 = (124 : Int) then (b_X11_isLetter_51   h) else (if v0 = (40 : Int) then (b_X11_isLetter_51   h) else (if v0 = (41 : Int) then (b_X11_isLetter_51   h) else (if v0 = (37 : Int) then (b_X11_isLetter_51   h) else (some (0 : Int))))))) else (b_X11_isLetter_51   h)) else (b_X11_isLetter_51   h)) else (b_X11_isLetter_51   h)
set_option maxRecDepth 100000 in
theorem z_X11_isLetter {al : Bool} {v0 : Int} {h : gi_H} {res : Int} (e : f_X11_isLetter v0 h = some res) : gx_Cw mX11_isLetter al [.int (gI v0)] (gi_cv h) (.inl (some (.int (gI res)))) (gi_cv h) := by
  refine gx_enter (by decide +kernel) rfl (Nat.le_of_ble_eq_true rfl) ?_
  show gx_Z mX11_isLetter al al 0 0 0 [(0, .int (gI v0))] [] (gi_cv h) (.inl (some (.int (gI res)))) (gi_cv h)
  refine gx_iload_n dX11_isLetter_0 rfl 0 rfl ?_
  refine gx_bE e (fun q1 hq1 e => ?_)
  refine gx_callS (n := 1) (st := []) (As := [.int (gI v0)]) dX11_isLetter_1 (z_X11_isTerminalLetter hq1) rfl ⟨rfl, gw_cw_X11_isTerminalLetter, gw_1, gp_X11_isTerminalLetter, ⟨Nat.le_of_ble_eq_true rfl, Nat.le_of_ble_eq_true rfl⟩⟩ gw_845 gw_380 ⟨Nat.le_of_ble_eq_true rfl, Nat.le_of_ble_eq_true rfl⟩ (Nat.le_of_ble_eq_true rfl) (gy_k1 (x := .int (gI q1)) (kc2 := 0) (ks2 := 0) ⟨rfl, rfl⟩ ?_) gy_kn
  refine gx_bE e (fun _ g2 e => ?_)
  refine gx_iE e (fun c3 e => ?_) (fun c3 e => ?_)
  · refine gy_if_ne (tgt := 51) (gi_rgS g2) dX11_isLetter_4 (by decide) (fun z => absurd c3 z) (fun _ => ?_)
    refine gx_iload_n dX11_isLetter_7 rfl 0 rfl ?_
    refine gx_bE e (fun q4 hq4 e => ?_)
    refine gx_callS (n := 1) (st := []) (As := [.int (gI v0)]) dX11_isLetter_8 (z_X11_isNonterminalLetter hq4) rfl ⟨rfl, gw_cw_X11_isNonterminalLetter, gw_1, gp_X11_isNonterminalLetter, ⟨Nat.le_of_ble_eq_true rfl, Nat.le_of_ble_eq_true rfl⟩⟩ gw_846 gw_377 ⟨Nat.le_of_ble_eq_true rfl, Nat.le_of_ble_eq_true rfl⟩ (Nat.le_of_ble_eq_true rfl) (gy_k1 (x := .int (gI q4)) (kc2 := 0) (ks2 := 0) ⟨rfl, rfl⟩ ?_) gy_kn
    refine gx_bE e (fun _ g5 e => ?_)
    refine gx_iE e (fun c6 e => ?_) (fun c6 e => ?_)
    · refine gy_if_ne (tgt := 51) (gi_rgS g5) dX11_isLetter_11 (by decide) (fun z => absurd c6 z) (fun _ => ?_)
      refine gx_iload_n dX11_isLetter_14 rfl 0 rfl ?_
      refine gx_bE e (fun q7 hq7 e => ?_)
      refine gx_callS (n := 1) (st := []) (As := [.int (gI v0)]) dX11_isLetter_15 (z_X11_isRepeat hq7) rfl ⟨rfl, gw_cw_X11_isRepeat, gw_1, gp_X11_isRepeat, ⟨Nat.le_of_ble_eq_true rfl, Nat.le_of_ble_eq_true rfl⟩⟩ gw_847 gw_386 ⟨Nat.le_of_ble_eq_true rfl, Nat.le_of_ble_eq_true rfl⟩ (Nat.le_of_ble_eq_true rfl) (gy_k1 (x := .int (gI q7)) (kc2 := 0) (ks2 := 0) ⟨rfl, rfl⟩ ?_) gy_kn
      refine gx_bE e (fun _ g8 e => ?_)
      refine gx_iE e (fun c9 e => ?_) (fun c9 e => ?_)
      · refine gy_if_ne (tgt := 51) (gi_rgS g8) dX11_isLetter_18 (by decide) (fun z => absurd c9 z) (fun _ => ?_)
        refine gx_iload_n dX11_isLetter_21 rfl 0 rfl ?_
        refine gy_bipush dX11_isLetter_22 gcb_58 ?_
        refine gx_bE e (fun _ g10 e => ?_)
        refine gx_iE e (fun c11 e => ?_) (fun c11 e => ?_)
        · refine gy_icmp_eq (tgt := 51) (gi_rgS g10) (by decide) dX11_isLetter_24 (by decide) (fun _ => ?_) (fun z => absurd c11 z)
          refine gx_sub (ls2 := []) [] rfl ?_
          exact zb_X11_isLetter_51  e
        · refine gy_icmp_eq (tgt := 51) (gi_rgS g10) (by decide) dX11_isLetter_24 (by decide) (fun z => absurd z c11) (fun _ => ?_)
          refine gx_iload_n dX11_isLetter_27 rfl 0 rfl ?_
          refine gy_bipush dX11_isLetter_28 gcb_124 ?_
          refine gx_iE e (fun c12 e => ?_) (fun c12 e => ?_)
          · refine gy_icmp_eq (tgt := 51) (gi_rgS g10) (by decide) dX11_isLetter_30 (by decide) (fun _ => ?_) (fun z => absurd c12 z)
            refine gx_sub (ls2 := []) [] rfl ?_
            exact zb_X11_isLetter_51  e
          · refine gy_icmp_eq (tgt := 51) (gi_rgS g10) (by decide) dX11_isLetter_30 (by decide) (fun z => absurd z c12) (fun _ => ?_)
            refine gx_iload_n dX11_isLetter_33 rfl 0 rfl ?_
            refine gy_bipush dX11_isLetter_34 gcb_40 ?_
            refine gx_iE e (fun c13 e => ?_) (fun c13 e => ?_)
            · refine gy_icmp_eq (tgt := 51) (gi_rgS g10) (by decide) dX11_isLetter_36 (by decide) (fun _ => ?_) (fun z => absurd c13 z)
              refine gx_sub (ls2 := []) [] rfl ?_
              exact zb_X11_isLetter_51  e
            · refine gy_icmp_eq (tgt := 51) (gi_rgS g10) (by decide) dX11_isLetter_36 (by decide) (fun z => absurd z c13) (fun _ => ?_)
              refine gx_iload_n dX11_isLetter_39 rfl 0 rfl ?_
              refine gy_bipush dX11_isLetter_40 gcb_41 ?_
              refine gx_iE e (fun c14 e => ?_) (fun c14 e => ?_)
              · refine gy_icmp_eq (tgt := 51) (gi_rgS g10) (by decide) dX11_isLetter_42 (by decide) (fun _ => ?_) (fun z => absurd c14 z)
                refine gx_sub (ls2 := []) [] rfl ?_
                exact zb_X11_isLetter_51  e
              · refine gy_icmp_eq (tgt := 51) (gi_rgS g10) (by decide) dX11_isLetter_42 (by decide) (fun z => absurd z c14) (fun _ => ?_)
                refine gx_iload_n dX11_isLetter_45 rfl 0 rfl ?_
                refine gy_bipush dX11_isLetter_46 gcb_37 ?_
                refine gx_iE e (fun c15 e => ?_) (fun c15 e => ?_)
                · refine gy_icmp_ne (tgt := 55) (gi_rgS g10) (by decide) dX11_isLetter_48 (by decide) (fun z => absurd c15 z) (fun _ => ?_)
                  refine gx_sub (ls2 := []) [] rfl ?_
                  exact zb_X11_isLetter_51  e
                · refine gy_icmp_ne (tgt := 55) (gi_rgS g10) (by decide) dX11_isLetter_48 (by decide) (fun _ => ?_) (fun z => absurd z c15)
                  refine gy_iconst dX11_isLetter_55 ?_
                  cases e
                  exact gx_zret (by decide +kernel) dX11_isLetter_56 rfl ⟨Nat.le_of_ble_eq_true rfl, Nat.le_of_ble_eq_true rfl⟩ (fun z => z)
      · refine gy_if_ne (tgt := 51) (gi_rgS g8) dX11_isLetter_18 (by decide) (fun _ => ?_) (fun z => absurd z c9)
        refine gx_sub (ls2 := []) [] rfl ?_
        exact zb_X11_isLetter_51  e
    · refine gy_if_ne (tgt := 51) (gi_rgS g5) dX11_isLetter_11 (by decide) (fun _ => ?_) (fun z => absurd z c6)
      refine gx_sub (ls2 := []) [] rfl ?_
      exact zb_X11_isLetter_51  e
  · refine gy_if_ne (tgt := 51) (gi_rgS g2) dX11_isLetter_4 (by decide) (fun _ => ?_) (fun z => absurd z c3)
    refine gx_sub (ls2 := []) [] rfl ?_
    exact zb_X11_isLetter_51  e
/-! X8_isFull  -/
set_option maxRecDepth 100000 in
def f_X8_isFull (v0 : Nat) (h : gi_H) : Option (Int) :=
  Option.bind (gi_gI h v0 7 1) fun t1 => Option.bind (gi_gR h v0 7 0) fun t2 => Option.bind (gi_ln h t2) fun t3 => Option.bind (gi_rg t1) fun _ => Option.bind (gi_rg t3) fun _ => if t1 < t3 then (some (0 : Int)) else (some (1 : Int))
set_option maxRecDepth 100000 in
theorem z_X8_isFull {al : Bool} {v0 : Nat} {h : gi_H} {res : Int} (e : f_X8_isFull v0 h = some res) : gx_Cw mX8_isFull al [.ref v0] (gi_cv h) (.inl (some (.int (gI res)))) (gi_cv h) := by
  refine gx_enter (by decide +kernel) rfl (Nat.le_of_ble_eq_true rfl) ?_
  show gx_Z mX8_isFull al al 0 0 0 [(0, .ref v0)] [] (gi_cv h) (.inl (some (.int (gI res)))) (gi_cv h)
  refine gx_aload_n dX8_isFull_0 rfl 0 rfl ?_
  refine gx_bE e (fun t1 ht1 e => ?_)
  refine gy_fI ht1 dX8_isFull_1 gf_RX8_15_7_1 (by decide) gkN_7_1 gkR_7_1 ?_
  refine gx_aload_n dX8_isFull_4 rfl 0 rfl ?_
  refine gx_bE e (fun t2 ht2 e => ?_)
  refine gy_fR ht2 dX8_isFull_5 gf_RX8_9_7_0 (by decide) gkN_7_0 gkR_7_0 ?_
  refine gx_bE e (fun t3 ht3 e => ?_)
  refine gy_al0 ht3 dX8_isFull_8 ?_
  refine gx_bE e (fun _ g4 e => ?_)
  refine gx_bE e (fun _ g5 e => ?_)
  refine gx_iE e (fun c6 e => ?_) (fun c6 e => ?_)
  · refine gy_icmp_lt (tgt := 16) (gi_rgS g4) (gi_rgS g5) dX8_isFull_9 (by decide) (fun _ => ?_) (fun z => absurd c6 z)
    refine gy_iconst dX8_isFull_16 ?_
    cases e
    exact gx_zret (by decide +kernel) dX8_isFull_17 rfl ⟨Nat.le_of_ble_eq_true rfl, Nat.le_of_ble_eq_true rfl⟩ (fun z => z)
  · refine gy_icmp_lt (tgt := 16) (gi_rgS g4) (gi_rgS g5) dX8_isFull_9 (by decide) (fun z => absurd z c6) (fun _ => ?_)
    refine gy_iconst dX8_isFull_12 ?_
    refine gx_goto (tgt := 17) dX8_isFull_13 (by decide) ?_
    cases e
    exact gx_zret (by decide +kernel) dX8_isFull_17 rfl ⟨Nat.le_of_ble_eq_true rfl, Nat.le_of_ble_eq_true rfl⟩ (fun z => z)
/-! X8_append  -/
set_option maxRecDepth 100000 in
def b_X8_append_39  (v0 : Nat)  (h : gi_H) : Option (Int × gi_H) :=
  Option.bind (gi_gI h v0 7 1) fun t4 => some (t4, h)
set_option maxRecDepth 100000 in
theorem zb_X8_append_39 {al : Bool}  {res : Int} {h1 : gi_H}  {v0 : Nat}  {h : gi_H} (e : b_X8_append_39 v0 h = some (res, h1)) : gx_Z mX8_append al al 0 0 39 [(0, .ref v0)] [] (gi_cv h) (.inl (some (.int (gI res)))) (gi_cv h1) := by
  refine gx_aload_n dX8_append_39 rfl 0 rfl ?_
  refine gx_bE e (fun t4 ht4 e => ?_)
  refine gy_fI ht4 dX8_append_40 gf_RX8_15_7_1 (by decide) gkN_7_1 gkR_7_1 ?_
  cases e
  exact gx_iret dX8_append_43 rfl ⟨Nat.le_of_ble_eq_true rfl, Nat.le_of_ble_eq_true rfl⟩ (fun z => z)
set_option maxRecDepth 100000 in
def f_X8_append (v0 : Nat) (v1 : Int) (h : gi_H) : Option (Int × gi_H) :=
  Option.bind (gi_gI h v0 7 1) fun t1 => Option.bind (gi_rg t1) fun _ => if t1 < 0 then (b_X8_append_39  v0 h) else (Option.bind (gi_gI h v0 7 1) fun t5 => Option.bind (gi_gR h v0 7 0) fun t6 => Option.bind (gi_ln h t6) fun t7 => Option.bind (gi_rg t5) fun _ => Option.bind (gi_rg t7) fun _ => if t7 ≤ t5 then (b_X8_append_39  v0 h) else (Option.bind (gi_gR h v0 7 0) fun t11 => Option.bind (gi_gI h v0 7 1) fun t12 => Option.bind (gi_s3 h t11 t12 v1) fun h13 => Option.bind (gi_gI h13 v0 7 1) fun t14 => Option.bind (gi_pI h13 v0 7 1 (t14 + (1 : Int))) fun h15 => b_X8_append_39  v0 h15))
set_option maxRecDepth 100000 in
theorem z_X8_append {al : Bool} {v0 : Nat} {v1 : Int} {h : gi_H} {res : Int} {h1 : gi_H} (e : f_X8_append v0 v1 h = some (res, h1)) : gx_Cw mX8_append al [.ref v0, .int (gI v1)] (gi_cv h) (.inl (some (.int (gI res)))) (gi_cv h1) := by
  refine gx_enter (by decide +kernel) rfl (Nat.le_of_ble_eq_true rfl) ?_
  show gx_Z mX8_append al al 0 0 0 [(0, .ref v0), (1, .int (gI v1))] [] (gi_cv h) (.inl (some (.int (gI res)))) (gi_cv h1)
  refine gx_aload_n dX8_append_0 rfl 0 rfl ?_
  refine gx_bE e (fun t1 ht1 e => ?_)
  refine gy_fI ht1 dX8_append_1 gf_RX8_15_7_1 (by decide) gkN_7_1 gkR_7_1 ?_
  refine gx_bE e (fun _ g2 e => ?_)
  refine gx_iE e (fun c3 e => ?_) (fun c3 e => ?_)
  · refine gy_if_lt (tgt := 39) (gi_rgS g2) dX8_append_4 (by decide) (fun _ => ?_) (fun z => absurd c3 z)
    refine gx_sub (ls2 := [(0, .ref v0)]) [0] rfl ?_
    exact zb_X8_append_39  e
  · refine gy_if_lt (tgt := 39) (gi_rgS g2) dX8_append_4 (by decide) (fun z => absurd z c3) (fun _ => ?_)
    refine gx_aload_n dX8_append_7 rfl 0 rfl ?_
    refine gx_bE e (fun t5 ht5 e => ?_)
    refine gy_fI ht5 dX8_append_8 gf_RX8_15_7_1 (by decide) gkN_7_1 gkR_7_1 ?_
    refine gx_aload_n dX8_append_11 rfl 0 rfl ?_
    refine gx_bE e (fun t6 ht6 e => ?_)
    refine gy_fR ht6 dX8_append_12 gf_RX8_9_7_0 (by decide) gkN_7_0 gkR_7_0 ?_
    refine gx_bE e (fun t7 ht7 e => ?_)
    refine gy_al0 ht7 dX8_append_15 ?_
    refine gx_bE e (fun _ g8 e => ?_)
    refine gx_bE e (fun _ g9 e => ?_)
    refine gx_iE e (fun c10 e => ?_) (fun c10 e => ?_)
    · refine gy_icmp_ge (tgt := 39) (gi_rgS g8) (gi_rgS g9) dX8_append_16 (by decide) (fun _ => ?_) (fun z => absurd c10 z)
      refine gx_sub (ls2 := [(0, .ref v0)]) [0] rfl ?_
      exact zb_X8_append_39  e
    · refine gy_icmp_ge (tgt := 39) (gi_rgS g8) (gi_rgS g9) dX8_append_16 (by decide) (fun z => absurd z c10) (fun _ => ?_)
      refine gx_aload_n dX8_append_19 rfl 0 rfl ?_
      refine gx_bE e (fun t11 ht11 e => ?_)
      refine gy_fR ht11 dX8_append_20 gf_RX8_9_7_0 (by decide) gkN_7_0 gkR_7_0 ?_
      refine gx_aload_n dX8_append_23 rfl 0 rfl ?_
      refine gx_bE e (fun t12 ht12 e => ?_)
      refine gy_fI ht12 dX8_append_24 gf_RX8_15_7_1 (by decide) gkN_7_1 gkR_7_1 ?_
      refine gx_iload_n dX8_append_27 rfl 1 rfl ?_
      refine gx_bE e (fun h13 hh13 e => ?_)
      refine gy_t3 hh13 dX8_append_28 ?_
      refine gx_aload_n dX8_append_29 rfl 0 rfl ?_
      refine gx_dup dX8_append_30 rfl ?_
      refine gx_bE e (fun t14 ht14 e => ?_)
      refine gy_fI ht14 dX8_append_31 gf_RX8_15_7_1 (by decide) gkN_7_1 gkR_7_1 ?_
      refine gy_iconst dX8_append_34 ?_
      refine gy_iadd dX8_append_35 ?_
      refine gx_bE e (fun h15 hh15 e => ?_)
      refine gy_qI hh15 dX8_append_36 gf_RX8_15_7_1 (by decide) gkN_7_1 rfl (Or.inl rfl) ?_
      refine gx_sub (ls2 := [(0, .ref v0)]) [0] rfl ?_
      exact zb_X8_append_39  e
/-! X11_type  -/
set_option maxRecDepth 100000 in
def f_X11_type (v0 : Nat) (v1 : Int) (h : gi_H) : Option ((Int ⊕ String) × gi_H) :=
  Option.bind (f_X11_isLetter v1 h) fun q1 => Option.bind (gi_rg q1) fun _ => if q1 = 0 then (some (.inr gx_IAE, h)) else (Option.bind (gi_gR h v0 9 0) fun t4 => Option.bind (gi_is h t4 7) fun _ => Option.bind (f_X8_isFull t4 h) fun q6 => Option.bind (gi_rg q6) fun _ => if q6 = 0 then (Option.bind (gi_gR h v0 9 0) fun t9 => Option.bind (gi_is h t9 7) fun _ => Option.bind (f_X8_append t9 v1 h) fun q11 => some (.inl q11.1, q11.2)) else (some (.inr gx_ISE, h)))
set_option maxRecDepth 100000 in
theorem z_X11_type {v0 : Nat} {v1 : Int} {h : gi_H} {res : Int ⊕ String} {h1 : gi_H} (e : f_X11_type v0 v1 h = some (res, h1)) : gx_Cw mX11_type false [.ref v0, .int (gI v1)] (gi_cv h) (gx_oI res) (gi_cv h1) := by
  refine gx_enter (by decide +kernel) rfl (Nat.le_of_ble_eq_true rfl) ?_
  show gx_Z mX11_type false false 0 0 0 [(0, .ref v0), (1, .int (gI v1))] [] (gi_cv h) (gx_oI res) (gi_cv h1)
  refine gx_iload_n dX11_type_0 rfl 1 rfl ?_
  refine gx_bE e (fun q1 hq1 e => ?_)
  refine gx_callS (n := 1) (st := []) (As := [.int (gI v1)]) dX11_type_1 (z_X11_isLetter hq1) rfl ⟨rfl, gw_cw_X11_isLetter, gw_1, gp_X11_isLetter, ⟨Nat.le_of_ble_eq_true rfl, Nat.le_of_ble_eq_true rfl⟩⟩ gw_842 gw_843 ⟨Nat.le_of_ble_eq_true rfl, Nat.le_of_ble_eq_true rfl⟩ (Nat.le_of_ble_eq_true rfl) (gy_k1 (x := .int (gI q1)) (kc2 := 0) (ks2 := 0) ⟨rfl, rfl⟩ ?_) gy_kn
  refine gx_bE e (fun _ g2 e => ?_)
  refine gx_iE e (fun c3 e => ?_) (fun c3 e => ?_)
  · refine gy_if_ne (tgt := 17) (gi_rgS g2) dX11_type_4 (by decide) (fun z => absurd c3 z) (fun _ => ?_)
    cases e
    exact gx_throw rfl gt_105_107_109 rfl dX11_type_7 dX11_type_10 dX11_type_11 dX11_type_13 dX11_type_16 (Nat.le_of_ble_eq_true rfl) (Nat.le_of_ble_eq_true rfl) ⟨Nat.le_of_ble_eq_true rfl, Nat.le_of_ble_eq_true rfl⟩
  · refine gy_if_ne (tgt := 17) (gi_rgS g2) dX11_type_4 (by decide) (fun _ => ?_) (fun z => absurd z c3)
    refine gx_aload_n dX11_type_17 rfl 0 rfl ?_
    refine gx_bE e (fun t4 ht4 e => ?_)
    refine gy_fR ht4 dX11_type_18 gf_RX11_12_9_0 (by decide) gkN_9_0 gkR_9_0 ?_
    refine gx_bE e (fun _ hu5 e => ?_)
    refine gx_bE e (fun q6 hq6 e => ?_)
    refine gx_callV (n := 0) (st := []) (As := []) (b := t4) dX11_type_21 (z_X8_isFull hq6) rfl ⟨rfl, gw_cw_X8_isFull, gw_2, gp_X8_isFull, ⟨Nat.le_of_ble_eq_true rfl, Nat.le_of_ble_eq_true rfl⟩⟩ (gi_isS hu5) (by decide) gw_916 gw_917 gw_918 rfl ⟨Nat.le_of_ble_eq_true rfl, Nat.le_of_ble_eq_true rfl⟩ (Nat.le_of_ble_eq_true rfl) (gy_k1 (x := .int (gI q6)) (kc2 := 0) (ks2 := 0) ⟨rfl, rfl⟩ ?_) gy_kn
    refine gx_bE e (fun _ g7 e => ?_)
    refine gx_iE e (fun c8 e => ?_) (fun c8 e => ?_)
    · refine gy_if_eq (tgt := 37) (gi_rgS g7) dX11_type_24 (by decide) (fun _ => ?_) (fun z => absurd c8 z)
      refine gx_aload_n dX11_type_37 rfl 0 rfl ?_
      refine gx_bE e (fun t9 ht9 e => ?_)
      refine gy_fR ht9 dX11_type_38 gf_RX11_12_9_0 (by decide) gkN_9_0 gkR_9_0 ?_
      refine gx_iload_n dX11_type_41 rfl 1 rfl ?_
      refine gx_bE e (fun _ hu10 e => ?_)
      refine gx_bE e (fun q11 hq11 e => ?_)
      refine gx_callV (n := 1) (st := []) (As := [.int (gI v1)]) (b := t9) dX11_type_42 (z_X8_append hq11) rfl ⟨rfl, gw_cw_X8_append, gw_2, gp_X8_append, ⟨Nat.le_of_ble_eq_true rfl, Nat.le_of_ble_eq_true rfl⟩⟩ (gi_isS hu10) (by decide) gw_936 gw_937 gw_938 rfl ⟨Nat.le_of_ble_eq_true rfl, Nat.le_of_ble_eq_true rfl⟩ (Nat.le_of_ble_eq_true rfl) (gy_k1 (x := .int (gI q11.1)) (kc2 := 0) (ks2 := 0) ⟨rfl, rfl⟩ ?_) gy_kn
      cases e
      exact gx_iret dX11_type_45 rfl ⟨Nat.le_of_ble_eq_true rfl, Nat.le_of_ble_eq_true rfl⟩ (fun z => z)
    · refine gy_if_eq (tgt := 37) (gi_rgS g7) dX11_type_24 (by decide) (fun z => absurd z c8) (fun _ => ?_)
      cases e
      exact gx_throw rfl gt_116_118_120 rfl dX11_type_27 dX11_type_30 dX11_type_31 dX11_type_33 dX11_type_36 (Nat.le_of_ble_eq_true rfl) (Nat.le_of_ble_eq_true rfl) ⟨Nat.le_of_ble_eq_true rfl, Nat.le_of_ble_eq_true rfl⟩
/-! L_type  -/
set_option maxRecDepth 100000 in
def f_L_type (v0 : Nat) (v1 : Int) (v2 : Nat) (h : gi_H) : Option (Int × gi_H) :=
  Option.bind (gi_is h v0 9) fun _ => Option.bind (f_X11_type v0 v1 h) fun q2 => gx_sm q2.1 (fun t3 => Option.bind (gi_rg t3) fun _ => Option.bind (gi_s2 q2.2 v2 (0 : Int) t3) fun h5 => some ((0 : Int), h5)) (fun t3 => if t3 = gx_IAE then (some ((1 : Int), q2.2)) else (if t3 = gx_ISE then (some ((2 : Int), q2.2)) else (none)))
set_option maxRecDepth 100000 in
theorem z_L_type {v0 : Nat} {v1 : Int} {v2 : Nat} {h : gi_H} {res : Int} {h1 : gi_H} (e : f_L_type v0 v1 v2 h = some (res, h1)) : gx_Cw mL_type false [.ref v0, .int (gI v1), .ref v2] (gi_cv h) (.inl (some (.int (gI res)))) (gi_cv h1) := by
  refine gx_enter (by decide +kernel) rfl (Nat.le_of_ble_eq_true rfl) ?_
  show gx_Z mL_type false false 0 0 0 [(0, .ref v0), (1, .int (gI v1)), (2, .ref v2)] [] (gi_cv h) (.inl (some (.int (gI res)))) (gi_cv h1)
  refine gx_aload_n dL_type_0 rfl 2 rfl ?_
  refine gy_iconst dL_type_1 ?_
  refine gx_aload_n dL_type_2 rfl 0 rfl ?_
  refine gx_iload_n dL_type_3 rfl 1 rfl ?_
  refine gx_bE e (fun _ hu1 e => ?_)
  refine gx_bE e (fun q2 hq2 e => ?_)
  refine gx_smE e (fun t3 ht3 e => ?_) (fun t3 ht3 e => ?_)
  · have zq2 := z_X11_type hq2
    rw [ht3] at zq2
    refine gx_callV (n := 1) (st := [.int (gI (0 : Int)), .ref v2]) (As := [.int (gI v1)]) (b := v0) dL_type_4 zq2 rfl ⟨rfl, gw_cw_X11_type, gw_1, gp_X11_type, ⟨Nat.le_of_ble_eq_true rfl, Nat.le_of_ble_eq_true rfl⟩⟩ (gi_isS hu1) (by decide) gw_838 gw_839 gw_840 rfl ⟨Nat.le_of_ble_eq_true rfl, Nat.le_of_ble_eq_true rfl⟩ (Nat.le_of_ble_eq_true rfl) (gy_k1 (x := .int (gI t3)) (kc2 := 1) (ks2 := 6) ⟨rfl, rfl⟩ ?_) gy_kn
    refine gx_bE e (fun _ g4 e => ?_)
    refine gy_i2l (gi_rgS g4) dL_type_7 ?_
    refine gx_bE e (fun h5 hh5 e => ?_)
    refine gy_t2 hh5 dL_type_8 ?_
    refine gx_goto (tgt := 18) dL_type_9 (by decide) ?_
    refine gy_iconst dL_type_18 ?_
    cases e
    exact gx_iret dL_type_19 rfl ⟨Nat.le_of_ble_eq_true rfl, Nat.le_of_ble_eq_true rfl⟩ (fun z => z)
  · have zq2 := z_X11_type hq2
    rw [ht3] at zq2
    refine gx_callV (n := 1) (st := [.int (gI (0 : Int)), .ref v2]) (As := [.int (gI v1)]) (b := v0) dL_type_4 zq2 rfl ⟨rfl, gw_cw_X11_type, gw_1, gp_X11_type, ⟨Nat.le_of_ble_eq_true rfl, Nat.le_of_ble_eq_true rfl⟩⟩ (gi_isS hu1) (by decide) gw_838 gw_839 gw_840 rfl ⟨Nat.le_of_ble_eq_true rfl, Nat.le_of_ble_eq_true rfl⟩ (Nat.le_of_ble_eq_true rfl) gy_kN (gy_kE (kc2 := 1) (ks2 := 6) ⟨rfl, rfl⟩ ?_)
    refine gx_iE e (fun c6 e => ?_) (fun c6 e => ?_)
    · rw [c6]
      refine gx_catch (ls2 := [(0, .ref v0), (1, .int (gI v1)), (2, .ref v2)]) [] (x := (0, 9, 12, 13)) rfl (fun z hz => by cases hz) (by decide +kernel) (by decide) gw_836 (by decide +kernel) (Nat.le_of_ble_eq_true rfl) (Or.inl ⟨3, rfl, rfl, dL_type_12⟩) rfl ?_
      refine gy_iconst dL_type_13 ?_
      cases e
      exact gx_iret dL_type_14 rfl ⟨Nat.le_of_ble_eq_true rfl, Nat.le_of_ble_eq_true rfl⟩ (fun z => z)
    refine gx_iE e (fun c7 e => ?_) (fun c7 e => ?_)
    · rw [c7]
      refine gx_catch (ls2 := [(0, .ref v0), (1, .int (gI v1)), (2, .ref v2)]) [(0, 9, 12, 13)] (x := (0, 9, 15, 15)) rfl (by refine List.forall_mem_cons.mpr ⟨⟨by decide, "java/lang/IllegalArgumentException", gw_836, by decide +kernel⟩, ?_⟩;  exact fun z hz => absurd hz List.not_mem_nil) (by decide +kernel) (by decide) gw_837 (by decide +kernel) (Nat.le_of_ble_eq_true rfl) (Or.inl ⟨3, rfl, rfl, dL_type_15⟩) rfl ?_
      refine gy_iconst dL_type_16 ?_
      cases e
      exact gx_iret dL_type_17 rfl ⟨Nat.le_of_ble_eq_true rfl, Nat.le_of_ble_eq_true rfl⟩ (fun z => z)
    cases e
/-! X12_isTerminal  -/
set_option maxRecDepth 100000 in
def b_X12_isTerminal_16    (h : gi_H) : Option (Int) :=
  some (0 : Int)
set_option maxRecDepth 100000 in
theorem zb_X12_isTerminal_16 {al : Bool}  {res : Int}    {h : gi_H} (e : b_X12_isTerminal_16  h = some res) : gx_Z mX12_isTerminal al al 0 0 16 [] [] (gi_cv h) (.inl (some (.int (gI res)))) (gi_cv h) := by
  refine gy_iconst dX12_isTerminal_16 ?_
  cases e
  exact gx_zret (by decide +kernel) dX12_isTerminal_17 rfl ⟨Nat.le_of_ble_eq_true rfl, Nat.le_of_ble_eq_true rfl⟩ (fun z => z)
set_option maxRecDepth 100000 in
def f_X12_isTerminal (v0 : Int) (h : gi_H) : Option (Int) :=
  Option.bind (gi_rg v0) fun _ => if v0 < (97 : Int) then (b_X12_isTerminal_16   h) else (if (104 : Int) < v0 then (b_X12_isTerminal_16   h) else (some (1 : Int)))
set_option maxRecDepth 100000 in
theorem z_X12_isTerminal {al : Bool} {v0 : Int} {h : gi_H} {res : Int} (e : f_X12_isTerminal v0 h = some res) : gx_Cw mX12_isTerminal al [.int (gI v0)] (gi_cv h) (.inl (some (.int (gI res)))) (gi_cv h) := by
  refine gx_enter (by decide +kernel) rfl (Nat.le_of_ble_eq_true rfl) ?_
  show gx_Z mX12_isTerminal al al 0 0 0 [(0, .int (gI v0))] [] (gi_cv h) (.inl (some (.int (gI res)))) (gi_cv h)
  refine gx_iload_n dX12_isTerminal_0 rfl 0 rfl ?_
  refine gy_bipush dX12_isTerminal_1 gcb_97 ?_
  refine gx_bE e (fun _ g1 e => ?_)
  refine gx_iE e (fun c2 e => ?_) (fun c2 e => ?_)
  · refine gy_icmp_lt (tgt := 16) (gi_rgS g1) (by decide) dX12_isTerminal_3 (by decide) (fun _ => ?_) (fun z => absurd c2 z)
    refine gx_sub (ls2 := []) [] rfl ?_
    exact zb_X12_isTerminal_16  e
  · refine gy_icmp_lt (tgt := 16) (gi_rgS g1) (by decide) dX12_isTerminal_3 (by decide) (fun z => absurd z c2) (fun _ => ?_)
    refine gx_iload_n dX12_isTerminal_6 rfl 0 rfl ?_
    refine gy_bipush dX12_isTerminal_7 gcb_104 ?_
    refine gx_iE e (fun c3 e => ?_) (fun c3 e => ?_)
    · refine gy_icmp_gt (tgt := 16) (gi_rgS g1) (by decide) dX12_isTerminal_9 (by decide) (fun _ => ?_) (fun z => absurd c3 z)
      refine gx_sub (ls2 := []) [] rfl ?_
      exact zb_X12_isTerminal_16  e
    · refine gy_icmp_gt (tgt := 16) (gi_rgS g1) (by decide) dX12_isTerminal_9 (by decide) (fun z => absurd z c3) (fun _ => ?_)
      refine gy_iconst dX12_isTerminal_12 ?_
      refine gx_goto (tgt := 17) dX12_isTerminal_13 (by decide) ?_
      cases e
      exact gx_zret (by decide +kernel) dX12_isTerminal_17 rfl ⟨Nat.le_of_ble_eq_true rfl, Nat.le_of_ble_eq_true rfl⟩ (fun z => z)
/-! X12_isName  -/
set_option maxRecDepth 100000 in
def b_X12_isName_16    (h : gi_H) : Option (Int) :=
  some (0 : Int)
set_option maxRecDepth 100000 in
theorem zb_X12_isName_16 {al : Bool}  {res : Int}    {h : gi_H} (e : b_X12_isName_16  h = some res) : gx_Z mX12_isName al al 0 0 16 [] [] (gi_cv h) (.inl (some (.int (gI res)))) (gi_cv h) := by
  refine gy_iconst dX12_isName_16 ?_
  cases e
  exact gx_zret (by decide +kernel) dX12_isName_17 rfl ⟨Nat.le_of_ble_eq_true rfl, Nat.le_of_ble_eq_true rfl⟩ (fun z => z)
set_option maxRecDepth 100000 in
def f_X12_isName (v0 : Int) (h : gi_H) : Option (Int) :=
  Option.bind (gi_rg v0) fun _ => if v0 < (65 : Int) then (b_X12_isName_16   h) else (if (72 : Int) < v0 then (b_X12_isName_16   h) else (some (1 : Int)))
set_option maxRecDepth 100000 in
theorem z_X12_isName {al : Bool} {v0 : Int} {h : gi_H} {res : Int} (e : f_X12_isName v0 h = some res) : gx_Cw mX12_isName al [.int (gI v0)] (gi_cv h) (.inl (some (.int (gI res)))) (gi_cv h) := by
  refine gx_enter (by decide +kernel) rfl (Nat.le_of_ble_eq_true rfl) ?_
  show gx_Z mX12_isName al al 0 0 0 [(0, .int (gI v0))] [] (gi_cv h) (.inl (some (.int (gI res)))) (gi_cv h)
  refine gx_iload_n dX12_isName_0 rfl 0 rfl ?_
  refine gy_bipush dX12_isName_1 gcb_65 ?_
  refine gx_bE e (fun _ g1 e => ?_)
  refine gx_iE e (fun c2 e => ?_) (fun c2 e => ?_)
  · refine gy_icmp_lt (tgt := 16) (gi_rgS g1) (by decide) dX12_isName_3 (by decide) (fun _ => ?_) (fun z => absurd c2 z)
    refine gx_sub (ls2 := []) [] rfl ?_
    exact zb_X12_isName_16  e
  · refine gy_icmp_lt (tgt := 16) (gi_rgS g1) (by decide) dX12_isName_3 (by decide) (fun z => absurd z c2) (fun _ => ?_)
    refine gx_iload_n dX12_isName_6 rfl 0 rfl ?_
    refine gy_bipush dX12_isName_7 gcb_72 ?_
    refine gx_iE e (fun c3 e => ?_) (fun c3 e => ?_)
    · refine gy_icmp_gt (tgt := 16) (gi_rgS g1) (by decide) dX12_isName_9 (by decide) (fun _ => ?_) (fun z => absurd c3 z)
      refine gx_sub (ls2 := []) [] rfl ?_
      exact zb_X12_isName_16  e
    · refine gy_icmp_gt (tgt := 16) (gi_rgS g1) (by decide) dX12_isName_9 (by decide) (fun z => absurd z c3) (fun _ => ?_)
      refine gy_iconst dX12_isName_12 ?_
      refine gx_goto (tgt := 17) dX12_isName_13 (by decide) ?_
      cases e
      exact gx_zret (by decide +kernel) dX12_isName_17 rfl ⟨Nat.le_of_ble_eq_true rfl, Nat.le_of_ble_eq_true rfl⟩ (fun z => z)
/-! X12_isTail  -/
set_option maxRecDepth 100000 in
def b_X12_isTail_18    (h : gi_H) : Option (Int) :=
  some (1 : Int)
set_option maxRecDepth 100000 in
theorem zb_X12_isTail_18 {al : Bool}  {res : Int}    {h : gi_H} (e : b_X12_isTail_18  h = some res) : gx_Z mX12_isTail al al 0 0 18 [] [] (gi_cv h) (.inl (some (.int (gI res)))) (gi_cv h) := by
  refine gy_iconst dX12_isTail_18 ?_
  refine gx_goto (tgt := 23) dX12_isTail_19 (by decide) ?_
  cases e
  exact gx_zret (by decide +kernel) dX12_isTail_23 rfl ⟨Nat.le_of_ble_eq_true rfl, Nat.le_of_ble_eq_true rfl⟩ (fun z => z)
set_option maxRecDepth 100000 in
def f_X12_isTail (v0 : Int) (h : gi_H) : Option (Int) :=
  Option.bind (gi_rg v0) fun _ => if v0 = (63 : Int) then (b_X12_isTail_18   h) else (if v0 = (42 : Int) then (b_X12_isTail_18   h) else (if v0 = (43 : Int) then (b_X12_isTail_18   h) else (some (0 : Int))))
set_option maxRecDepth 100000 in
theorem z_X12_isTail {al : Bool} {v0 : Int} {h : gi_H} {res : Int} (e : f_X12_isTail v0 h = some res) : gx_Cw mX12_isTail al [.int (gI v0)] (gi_cv h) (.inl (some (.int (gI res)))) (gi_cv h) := by
  refine gx_enter (by decide +kernel) rfl (Nat.le_of_ble_eq_true rfl) ?_
  show gx_Z mX12_isTail al al 0 0 0 [(0, .int (gI v0))] [] (gi_cv h) (.inl (some (.int (gI res)))) (gi_cv h)
  refine gx_iload_n dX12_isTail_0 rfl 0 rfl ?_
  refine gy_bipush dX12_isTail_1 gcb_63 ?_
  refine gx_bE e (fun _ g1 e => ?_)
  refine gx_iE e (fun c2 e => ?_) (fun c2 e => ?_)
  · refine gy_icmp_eq (tgt := 18) (gi_rgS g1) (by decide) dX12_isTail_3 (by decide) (fun _ => ?_) (fun z => absurd c2 z)
    refine gx_sub (ls2 := []) [] rfl ?_
    exact zb_X12_isTail_18  e
  · refine gy_icmp_eq (tgt := 18) (gi_rgS g1) (by decide) dX12_isTail_3 (by decide) (fun z => absurd z c2) (fun _ => ?_)
    refine gx_iload_n dX12_isTail_6 rfl 0 rfl ?_
    refine gy_bipush dX12_isTail_7 gcb_42 ?_
    refine gx_iE e (fun c3 e => ?_) (fun c3 e => ?_)
    · refine gy_icmp_eq (tgt := 18) (gi_rgS g1) (by decide) dX12_isTail_9 (by decide) (fun _ => ?_) (fun z => absurd c3 z)
      refine gx_sub (ls2 := []) [] rfl ?_
      exact zb_X12_isTail_18  e
    · refine gy_icmp_eq (tgt := 18) (gi_rgS g1) (by decide) dX12_isTail_9 (by decide) (fun z => absurd z c3) (fun _ => ?_)
      refine gx_iload_n dX12_isTail_12 rfl 0 rfl ?_
      refine gy_bipush dX12_isTail_13 gcb_43 ?_
      refine gx_iE e (fun c4 e => ?_) (fun c4 e => ?_)
      · refine gy_icmp_ne (tgt := 22) (gi_rgS g1) (by decide) dX12_isTail_15 (by decide) (fun z => absurd c4 z) (fun _ => ?_)
        refine gx_sub (ls2 := []) [] rfl ?_
        exact zb_X12_isTail_18  e
      · refine gy_icmp_ne (tgt := 22) (gi_rgS g1) (by decide) dX12_isTail_15 (by decide) (fun _ => ?_) (fun z => absurd z c4)
        refine gy_iconst dX12_isTail_22 ?_
        cases e
        exact gx_zret (by decide +kernel) dX12_isTail_23 rfl ⟨Nat.le_of_ble_eq_true rfl, Nat.le_of_ble_eq_true rfl⟩ (fun z => z)
/-! X12_goes  -/
set_option maxRecDepth 100000 in
def b_X12_goes_26  (v0 : Nat) (s0 : Nat) (s1 : Int) (h : gi_H) : Option (Int × gi_H) :=
  Option.bind (gi_pI h s0 10 44 s1) fun h3 => Option.bind (gi_gI h3 v0 10 44) fun t4 => Option.bind (gi_rg t4) fun _ => if t4 = 0 then (some ((1 : Int), h3)) else (some ((0 : Int), h3))
set_option maxRecDepth 100000 in
theorem zb_X12_goes_26 {al : Bool}  {res : Int} {h1 : gi_H}  {v0 : Nat} {s0 : Nat} {s1 : Int} {h : gi_H} (e : b_X12_goes_26 v0 s0 s1 h = some (res, h1)) : gx_Z mX12_goes al al 0 0 26 [(0, .ref v0)] [.int (gI s1), .ref s0] (gi_cv h) (.inl (some (.int (gI res)))) (gi_cv h1) := by
  refine gx_bE e (fun h3 hh3 e => ?_)
  refine gy_qI hh3 dX12_goes_26 gf_RX12_104_10_44 (by decide) gkN_10_44 rfl (Or.inl rfl) ?_
  refine gx_aload_n dX12_goes_29 rfl 0 rfl ?_
  refine gx_bE e (fun t4 ht4 e => ?_)
  refine gy_fI ht4 dX12_goes_30 gf_RX12_104_10_44 (by decide) gkN_10_44 gkR_10_44 ?_
  refine gx_bE e (fun _ g5 e => ?_)
  refine gx_iE e (fun c6 e => ?_) (fun c6 e => ?_)
  · refine gy_if_ne (tgt := 40) (gi_rgS g5) dX12_goes_33 (by decide) (fun z => absurd c6 z) (fun _ => ?_)
    refine gy_iconst dX12_goes_36 ?_
    refine gx_goto (tgt := 41) dX12_goes_37 (by decide) ?_
    cases e
    exact gx_zret (by decide +kernel) dX12_goes_41 rfl ⟨Nat.le_of_ble_eq_true rfl, Nat.le_of_ble_eq_true rfl⟩ (fun z => z)
  · refine gy_if_ne (tgt := 40) (gi_rgS g5) dX12_goes_33 (by decide) (fun _ => ?_) (fun z => absurd z c6)
    refine gy_iconst dX12_goes_40 ?_
    cases e
    exact gx_zret (by decide +kernel) dX12_goes_41 rfl ⟨Nat.le_of_ble_eq_true rfl, Nat.le_of_ble_eq_true rfl⟩ (fun z => z)
set_option maxRecDepth 100000 in
def f_X12_goes (v0 : Nat) (v1 : Int) (v2 : Int) (v3 : Int) (h : gi_H) : Option (Int × gi_H) :=
  Option.bind (gi_rg v1) fun _ => if v1 = 0 then (b_X12_goes_26  v0 v0 (1 : Int) h) else (Option.bind (gi_rg v2) fun _ => if v2 = 0 then (b_X12_goes_26  v0 v0 (2 : Int) h) else (Option.bind (gi_rg v3) fun _ => if v3 = 0 then (b_X12_goes_26  v0 v0 (3 : Int) h) else (b_X12_goes_26  v0 v0 (0 : Int) h)))
set_option maxRecDepth 100000 in
theorem z_X12_goes {al : Bool} {v0 : Nat} {v1 : Int} {v2 : Int} {v3 : Int} {h : gi_H} {res : Int} {h1 : gi_H} (e : f_X12_goes v0 v1 v2 v3 h = some (res, h1)) : gx_Cw mX12_goes al [.ref v0, .int (gI v1), .int (gI v2), .int (gI v3)] (gi_cv h) (.inl (some (.int (gI res)))) (gi_cv h1) := by
  refine gx_enter (by decide +kernel) rfl (Nat.le_of_ble_eq_true rfl) ?_
  show gx_Z mX12_goes al al 0 0 0 [(0, .ref v0), (1, .int (gI v1)), (2, .int (gI v2)), (3, .int (gI v3))] [] (gi_cv h) (.inl (some (.int (gI res)))) (gi_cv h1)
  refine gx_aload_n dX12_goes_0 rfl 0 rfl ?_
  refine gx_iload_n dX12_goes_1 rfl 1 rfl ?_
  refine gx_bE e (fun _ g1 e => ?_)
  refine gx_iE e (fun c2 e => ?_) (fun c2 e => ?_)
  · refine gy_if_ne (tgt := 9) (gi_rgS g1) dX12_goes_2 (by decide) (fun z => absurd c2 z) (fun _ => ?_)
    refine gy_iconst dX12_goes_5 ?_
    refine gx_goto (tgt := 26) dX12_goes_6 (by decide) ?_
    refine gx_sub (ls2 := [(0, .ref v0)]) [0] rfl ?_
    exact zb_X12_goes_26  e
  · refine gy_if_ne (tgt := 9) (gi_rgS g1) dX12_goes_2 (by decide) (fun _ => ?_) (fun z => absurd z c2)
    refine gx_iload_n dX12_goes_9 rfl 2 rfl ?_
    refine gx_bE e (fun _ g7 e => ?_)
    refine gx_iE e (fun c8 e => ?_) (fun c8 e => ?_)
    · refine gy_if_ne (tgt := 17) (gi_rgS g7) dX12_goes_10 (by decide) (fun z => absurd c8 z) (fun _ => ?_)
      refine gy_iconst dX12_goes_13 ?_
      refine gx_goto (tgt := 26) dX12_goes_14 (by decide) ?_
      refine gx_sub (ls2 := [(0, .ref v0)]) [0] rfl ?_
      exact zb_X12_goes_26  e
    · refine gy_if_ne (tgt := 17) (gi_rgS g7) dX12_goes_10 (by decide) (fun _ => ?_) (fun z => absurd z c8)
      refine gx_iload_n dX12_goes_17 rfl 3 rfl ?_
      refine gx_bE e (fun _ g9 e => ?_)
      refine gx_iE e (fun c10 e => ?_) (fun c10 e => ?_)
      · refine gy_if_ne (tgt := 25) (gi_rgS g9) dX12_goes_18 (by decide) (fun z => absurd c10 z) (fun _ => ?_)
        refine gy_iconst dX12_goes_21 ?_
        refine gx_goto (tgt := 26) dX12_goes_22 (by decide) ?_
        refine gx_sub (ls2 := [(0, .ref v0)]) [0] rfl ?_
        exact zb_X12_goes_26  e
      · refine gy_if_ne (tgt := 25) (gi_rgS g9) dX12_goes_18 (by decide) (fun _ => ?_) (fun z => absurd z c10)
        refine gy_iconst dX12_goes_25 ?_
        refine gx_sub (ls2 := [(0, .ref v0)]) [0] rfl ?_
        exact zb_X12_goes_26  e
/-! X12_type  -/
set_option maxRecDepth 100000 in
def b_X12_type_73  (v0 : Nat) (v1 : Int) (s0 : Nat) (s1 : Int) (s2 : Int) (h : gi_H) : Option (Int × gi_H) :=
  Option.bind (gi_is h s0 10) fun _ => Option.bind (f_X12_goes s0 s1 s2 (1 : Int) h) fun q16 => Option.bind (gi_rg q16.1) fun _ => if q16.1 = 0 then (some ((0 : Int), q16.2)) else (Option.bind (gi_gR q16.2 v0 10 12) fun t19 => Option.bind (gi_gI q16.2 v0 10 13) fun t20 => Option.bind (gi_s1 q16.2 t19 t20 v1) fun h21 => Option.bind (gi_gI h21 v0 10 13) fun t22 => Option.bind (gi_pI h21 v0 10 13 (t22 + (1 : Int))) fun h23 => Option.bind (gi_gI h23 v0 10 13) fun t24 => some (t24, h23))
set_option maxRecDepth 100000 in
theorem zb_X12_type_73 {al : Bool}  {res : Int} {h1 : gi_H}  {v0 : Nat} {v1 : Int} {s0 : Nat} {s1 : Int} {s2 : Int} {h : gi_H} (e : b_X12_type_73 v0 v1 s0 s1 s2 h = some (res, h1)) : gx_Z mX12_type al al 0 0 73 [(0, .ref v0), (1, .int (gI v1))] [.int (gI s2), .int (gI s1), .ref s0] (gi_cv h) (.inl (some (.int (gI res)))) (gi_cv h1) := by
  refine gy_iconst dX12_type_73 ?_
  refine gx_bE e (fun _ hu15 e => ?_)
  refine gx_bE e (fun q16 hq16 e => ?_)
  refine gx_callV (n := 3) (st := []) (As := [.int (gI s1), .int (gI s2), .int (gI (1 : Int))]) (b := s0) dX12_type_74 (z_X12_goes hq16) rfl ⟨rfl, gw_cw_X12_goes, gw_14, gp_X12_goes, ⟨Nat.le_of_ble_eq_true rfl, Nat.le_of_ble_eq_true rfl⟩⟩ (gi_isS hu15) (by decide) gw_1480 gw_1482 gs_58 rfl ⟨Nat.le_of_ble_eq_true rfl, Nat.le_of_ble_eq_true rfl⟩ (Nat.le_of_ble_eq_true rfl) (gy_k1 (x := .int (gI q16.1)) (kc2 := 0) (ks2 := 0) ⟨rfl, rfl⟩ ?_) gy_kn
  refine gx_bE e (fun _ g17 e => ?_)
  refine gx_iE e (fun c18 e => ?_) (fun c18 e => ?_)
  · refine gy_if_ne (tgt := 82) (gi_rgS g17) dX12_type_77 (by decide) (fun z => absurd c18 z) (fun _ => ?_)
    refine gy_iconst dX12_type_80 ?_
    cases e
    exact gx_iret dX12_type_81 rfl ⟨Nat.le_of_ble_eq_true rfl, Nat.le_of_ble_eq_true rfl⟩ (fun z => z)
  · refine gy_if_ne (tgt := 82) (gi_rgS g17) dX12_type_77 (by decide) (fun _ => ?_) (fun z => absurd z c18)
    refine gx_aload_n dX12_type_82 rfl 0 rfl ?_
    refine gx_bE e (fun t19 ht19 e => ?_)
    refine gy_fR ht19 dX12_type_83 gf_RX12_43_10_12 (by decide) gkN_10_12 gkR_10_12 ?_
    refine gx_aload_n dX12_type_86 rfl 0 rfl ?_
    refine gx_bE e (fun t20 ht20 e => ?_)
    refine gy_fI ht20 dX12_type_87 gf_RX12_128_10_13 (by decide) gkN_10_13 gkR_10_13 ?_
    refine gx_iload_n dX12_type_90 rfl 1 rfl ?_
    refine gx_bE e (fun h21 hh21 e => ?_)
    refine gy_t1 hh21 dX12_type_91 ?_
    refine gx_aload_n dX12_type_92 rfl 0 rfl ?_
    refine gx_dup dX12_type_93 rfl ?_
    refine gx_bE e (fun t22 ht22 e => ?_)
    refine gy_fI ht22 dX12_type_94 gf_RX12_128_10_13 (by decide) gkN_10_13 gkR_10_13 ?_
    refine gy_iconst dX12_type_97 ?_
    refine gy_iadd dX12_type_98 ?_
    refine gx_bE e (fun h23 hh23 e => ?_)
    refine gy_qI hh23 dX12_type_99 gf_RX12_128_10_13 (by decide) gkN_10_13 rfl (Or.inl rfl) ?_
    refine gx_aload_n dX12_type_102 rfl 0 rfl ?_
    refine gx_bE e (fun t24 ht24 e => ?_)
    refine gy_fI ht24 dX12_type_103 gf_RX12_128_10_13 (by decide) gkN_10_13 gkR_10_13 ?_
    cases e
    exact gx_iret dX12_type_106 rfl ⟨Nat.le_of_ble_eq_true rfl, Nat.le_of_ble_eq_true rfl⟩ (fun z => z)
set_option maxRecDepth 100000 in
def b_X12_type_56  (v0 : Nat) (v1 : Int) (s0 : Int) (h : gi_H) : Option (Int × gi_H) :=
  Option.bind (gi_gI h v0 10 13) fun t12 => Option.bind (gi_rg t12) fun _ => if (24 : Int) ≤ t12 then (b_X12_type_73  v0 v1 v0 s0 (0 : Int) h) else (b_X12_type_73  v0 v1 v0 s0 (1 : Int) h)
set_option maxRecDepth 100000 in
theorem zb_X12_type_56 {al : Bool}  {res : Int} {h1 : gi_H}  {v0 : Nat} {v1 : Int} {s0 : Int} {h : gi_H} (e : b_X12_type_56 v0 v1 s0 h = some (res, h1)) : gx_Z mX12_type al al 0 0 56 [(0, .ref v0), (1, .int (gI v1))] [.int (gI s0)] (gi_cv h) (.inl (some (.int (gI res)))) (gi_cv h1) := by
  refine gx_istore_n (ls2 := [(2, .int (gI s0)), (0, .ref v0), (1, .int (gI v1))]) dX12_type_56 rfl (Nat.le_of_ble_eq_true rfl) rfl ?_
  refine gx_aload_n dX12_type_57 rfl 1 rfl ?_
  refine gx_iload_n dX12_type_58 rfl 0 rfl ?_
  refine gx_aload_n dX12_type_59 rfl 1 rfl ?_
  refine gx_bE e (fun t12 ht12 e => ?_)
  refine gy_fI ht12 dX12_type_60 gf_RX12_128_10_13 (by decide) gkN_10_13 gkR_10_13 ?_
  refine gy_bipush dX12_type_63 gcb_24 ?_
  refine gx_bE e (fun _ g13 e => ?_)
  refine gx_iE e (fun c14 e => ?_) (fun c14 e => ?_)
  · refine gy_icmp_ge (tgt := 72) (gi_rgS g13) (by decide) dX12_type_65 (by decide) (fun _ => ?_) (fun z => absurd c14 z)
    refine gy_iconst dX12_type_72 ?_
    refine gx_sub (ls2 := [(0, .ref v0), (1, .int (gI v1))]) [1, 2] rfl ?_
    exact zb_X12_type_73  e
  · refine gy_icmp_ge (tgt := 72) (gi_rgS g13) (by decide) dX12_type_65 (by decide) (fun z => absurd z c14) (fun _ => ?_)
    refine gy_iconst dX12_type_68 ?_
    refine gx_goto (tgt := 73) dX12_type_69 (by decide) ?_
    refine gx_sub (ls2 := [(0, .ref v0), (1, .int (gI v1))]) [1, 2] rfl ?_
    exact zb_X12_type_73  e
set_option maxRecDepth 100000 in
def b_X12_type_51  (v0 : Nat) (v1 : Int)  (h : gi_H) : Option (Int × gi_H) :=
  b_X12_type_56  v0 v1 (1 : Int) h
set_option maxRecDepth 100000 in
theorem zb_X12_type_51 {al : Bool}  {res : Int} {h1 : gi_H}  {v0 : Nat} {v1 : Int}  {h : gi_H} (e : b_X12_type_51 v0 v1 h = some (res, h1)) : gx_Z mX12_type al al 0 0 51 [(0, .ref v0), (1, .int (gI v1))] [] (gi_cv h) (.inl (some (.int (gI res)))) (gi_cv h1) := by
  refine gy_iconst dX12_type_51 ?_
  refine gx_goto (tgt := 56) dX12_type_52 (by decide) ?_
  exact zb_X12_type_56  e
set_option maxRecDepth 100000 in
def f_X12_type (v0 : Nat) (v1 : Int) (h : gi_H) : Option (Int × gi_H) :=
  Option.bind (f_X12_isTerminal v1 h) fun q1 => Option.bind (gi_rg q1) fun _ => if q1 = 0 then (Option.bind (f_X12_isName v1 h) fun q4 => Option.bind (gi_rg q4) fun _ => if q4 = 0 then (Option.bind (f_X12_isTail v1 h) fun q7 => Option.bind (gi_rg q7) fun _ => if q7 = 0 then (Option.bind (gi_rg v1) fun _ => if v1 = (58 : Int) then (b_X12_type_51  v0 v1 h) else (if v1 = (124 : Int) then (b_X12_type_51  v0 v1 h) else (if v1 = (40 : Int) then (b_X12_type_51  v0 v1 h) else (if v1 = (41 : Int) then (b_X12_type_51  v0 v1 h) else (if v1 = (37 : Int) then (b_X12_type_51  v0 v1 h) else (b_X12_type_56  v0 v1 (0 : Int) h)))))) else (b_X12_type_51  v0 v1 h)) else (b_X12_type_51  v0 v1 h)) else (b_X12_type_51  v0 v1 h)
set_option maxRecDepth 100000 in
theorem z_X12_type {al : Bool} {v0 : Nat} {v1 : Int} {h : gi_H} {res : Int} {h1 : gi_H} (e : f_X12_type v0 v1 h = some (res, h1)) : gx_Cw mX12_type al [.ref v0, .int (gI v1)] (gi_cv h) (.inl (some (.int (gI res)))) (gi_cv h1) := by
  refine gx_enter (by decide +kernel) rfl (Nat.le_of_ble_eq_true rfl) ?_
  show gx_Z mX12_type al al 0 0 0 [(0, .ref v0), (1, .int (gI v1))] [] (gi_cv h) (.inl (some (.int (gI res)))) (gi_cv h1)
  refine gx_iload_n dX12_type_0 rfl 1 rfl ?_
  refine gx_bE e (fun q1 hq1 e => ?_)
  refine gx_callS (n := 1) (st := []) (As := [.int (gI v1)]) dX12_type_1 (z_X12_isTerminal hq1) rfl ⟨rfl, gw_cw_X12_isTerminal, gw_14, gp_X12_isTerminal, ⟨Nat.le_of_ble_eq_true rfl, Nat.le_of_ble_eq_true rfl⟩⟩ gw_1471 gw_1472 ⟨Nat.le_of_ble_eq_true rfl, Nat.le_of_ble_eq_true rfl⟩ (Nat.le_of_ble_eq_true rfl) (gy_k1 (x := .int (gI q1)) (kc2 := 0) (ks2 := 0) ⟨rfl, rfl⟩ ?_) gy_kn
  refine gx_bE e (fun _ g2 e => ?_)
  refine gx_iE e (fun c3 e => ?_) (fun c3 e => ?_)
  · refine gy_if_ne (tgt := 51) (gi_rgS g2) dX12_type_4 (by decide) (fun z => absurd c3 z) (fun _ => ?_)
    refine gx_iload_n dX12_type_7 rfl 1 rfl ?_
    refine gx_bE e (fun q4 hq4 e => ?_)
    refine gx_callS (n := 1) (st := []) (As := [.int (gI v1)]) dX12_type_8 (z_X12_isName hq4) rfl ⟨rfl, gw_cw_X12_isName, gw_14, gp_X12_isName, ⟨Nat.le_of_ble_eq_true rfl, Nat.le_of_ble_eq_true rfl⟩⟩ gw_1474 gw_1475 ⟨Nat.le_of_ble_eq_true rfl, Nat.le_of_ble_eq_true rfl⟩ (Nat.le_of_ble_eq_true rfl) (gy_k1 (x := .int (gI q4)) (kc2 := 0) (ks2 := 0) ⟨rfl, rfl⟩ ?_) gy_kn
    refine gx_bE e (fun _ g5 e => ?_)
    refine gx_iE e (fun c6 e => ?_) (fun c6 e => ?_)
    · refine gy_if_ne (tgt := 51) (gi_rgS g5) dX12_type_11 (by decide) (fun z => absurd c6 z) (fun _ => ?_)
      refine gx_iload_n dX12_type_14 rfl 1 rfl ?_
      refine gx_bE e (fun q7 hq7 e => ?_)
      refine gx_callS (n := 1) (st := []) (As := [.int (gI v1)]) dX12_type_15 (z_X12_isTail hq7) rfl ⟨rfl, gw_cw_X12_isTail, gw_14, gp_X12_isTail, ⟨Nat.le_of_ble_eq_true rfl, Nat.le_of_ble_eq_true rfl⟩⟩ gw_1477 gw_1478 ⟨Nat.le_of_ble_eq_true rfl, Nat.le_of_ble_eq_true rfl⟩ (Nat.le_of_ble_eq_true rfl) (gy_k1 (x := .int (gI q7)) (kc2 := 0) (ks2 := 0) ⟨rfl, rfl⟩ ?_) gy_kn
      refine gx_bE e (fun _ g8 e => ?_)
      refine gx_iE e (fun c9 e => ?_) (fun c9 e => ?_)
      · refine gy_if_ne (tgt := 51) (gi_rgS g8) dX12_type_18 (by decide) (fun z => absurd c9 z) (fun _ => ?_)
        refine gx_iload_n dX12_type_21 rfl 1 rfl ?_
        refine gy_bipush dX12_type_22 gcb_58 ?_
        refine gx_bE e (fun _ g10 e => ?_)
        refine gx_iE e (fun c11 e => ?_) (fun c11 e => ?_)
        · refine gy_icmp_eq (tgt := 51) (gi_rgS g10) (by decide) dX12_type_24 (by decide) (fun _ => ?_) (fun z => absurd c11 z)
          exact zb_X12_type_51  e
        · refine gy_icmp_eq (tgt := 51) (gi_rgS g10) (by decide) dX12_type_24 (by decide) (fun z => absurd z c11) (fun _ => ?_)
          refine gx_iload_n dX12_type_27 rfl 1 rfl ?_
          refine gy_bipush dX12_type_28 gcb_124 ?_
          refine gx_iE e (fun c25 e => ?_) (fun c25 e => ?_)
          · refine gy_icmp_eq (tgt := 51) (gi_rgS g10) (by decide) dX12_type_30 (by decide) (fun _ => ?_) (fun z => absurd c25 z)
            exact zb_X12_type_51  e
          · refine gy_icmp_eq (tgt := 51) (gi_rgS g10) (by decide) dX12_type_30 (by decide) (fun z => absurd z c25) (fun _ => ?_)
            refine gx_iload_n dX12_type_33 rfl 1 rfl ?_
            refine gy_bipush dX12_type_34 gcb_40 ?_
            refine gx_iE e (fun c26 e => ?_) (fun c26 e => ?_)
            · refine gy_icmp_eq (tgt := 51) (gi_rgS g10) (by decide) dX12_type_36 (by decide) (fun _ => ?_) (fun z => absurd c26 z)
              exact zb_X12_type_51  e
            · refine gy_icmp_eq (tgt := 51) (gi_rgS g10) (by decide) dX12_type_36 (by decide) (fun z => absurd z c26) (fun _ => ?_)
              refine gx_iload_n dX12_type_39 rfl 1 rfl ?_
              refine gy_bipush dX12_type_40 gcb_41 ?_
              refine gx_iE e (fun c27 e => ?_) (fun c27 e => ?_)
              · refine gy_icmp_eq (tgt := 51) (gi_rgS g10) (by decide) dX12_type_42 (by decide) (fun _ => ?_) (fun z => absurd c27 z)
                exact zb_X12_type_51  e
              · refine gy_icmp_eq (tgt := 51) (gi_rgS g10) (by decide) dX12_type_42 (by decide) (fun z => absurd z c27) (fun _ => ?_)
                refine gx_iload_n dX12_type_45 rfl 1 rfl ?_
                refine gy_bipush dX12_type_46 gcb_37 ?_
                refine gx_iE e (fun c28 e => ?_) (fun c28 e => ?_)
                · refine gy_icmp_ne (tgt := 55) (gi_rgS g10) (by decide) dX12_type_48 (by decide) (fun z => absurd c28 z) (fun _ => ?_)
                  exact zb_X12_type_51  e
                · refine gy_icmp_ne (tgt := 55) (gi_rgS g10) (by decide) dX12_type_48 (by decide) (fun _ => ?_) (fun z => absurd z c28)
                  refine gy_iconst dX12_type_55 ?_
                  exact zb_X12_type_56  e
      · refine gy_if_ne (tgt := 51) (gi_rgS g8) dX12_type_18 (by decide) (fun _ => ?_) (fun z => absurd z c9)
        exact zb_X12_type_51  e
    · refine gy_if_ne (tgt := 51) (gi_rgS g5) dX12_type_11 (by decide) (fun _ => ?_) (fun z => absurd z c6)
      exact zb_X12_type_51  e
  · refine gy_if_ne (tgt := 51) (gi_rgS g2) dX12_type_4 (by decide) (fun _ => ?_) (fun z => absurd z c3)
    exact zb_X12_type_51  e
/-! X12_thrown  -/
set_option maxRecDepth 100000 in
def f_X12_thrown (v0 : Nat) (h : gi_H) : Option (Int) :=
  Option.bind (gi_gI h v0 10 44) fun t1 => some t1
set_option maxRecDepth 100000 in
theorem z_X12_thrown {al : Bool} {v0 : Nat} {h : gi_H} {res : Int} (e : f_X12_thrown v0 h = some res) : gx_Cw mX12_thrown al [.ref v0] (gi_cv h) (.inl (some (.int (gI res)))) (gi_cv h) := by
  refine gx_enter (by decide +kernel) rfl (Nat.le_of_ble_eq_true rfl) ?_
  show gx_Z mX12_thrown al al 0 0 0 [(0, .ref v0)] [] (gi_cv h) (.inl (some (.int (gI res)))) (gi_cv h)
  refine gx_aload_n dX12_thrown_0 rfl 0 rfl ?_
  refine gx_bE e (fun t1 ht1 e => ?_)
  refine gy_fI ht1 dX12_thrown_1 gf_RX12_104_10_44 (by decide) gkN_10_44 gkR_10_44 ?_
  cases e
  exact gx_iret dX12_thrown_4 rfl ⟨Nat.le_of_ble_eq_true rfl, Nat.le_of_ble_eq_true rfl⟩ (fun z => z)
/-! X8_clear  -/
set_option maxRecDepth 100000 in
def f_X8_clear (v0 : Nat) (h : gi_H) : Option (Int × gi_H) :=
  Option.bind (gi_gI h v0 7 1) fun t1 => Option.bind (gi_pI h v0 7 1 (0 : Int)) fun h2 => some (t1, h2)
set_option maxRecDepth 100000 in
theorem z_X8_clear {al : Bool} {v0 : Nat} {h : gi_H} {res : Int} {h1 : gi_H} (e : f_X8_clear v0 h = some (res, h1)) : gx_Cw mX8_clear al [.ref v0] (gi_cv h) (.inl (some (.int (gI res)))) (gi_cv h1) := by
  refine gx_enter (by decide +kernel) rfl (Nat.le_of_ble_eq_true rfl) ?_
  show gx_Z mX8_clear al al 0 0 0 [(0, .ref v0)] [] (gi_cv h) (.inl (some (.int (gI res)))) (gi_cv h1)
  refine gx_aload_n dX8_clear_0 rfl 0 rfl ?_
  refine gx_bE e (fun t1 ht1 e => ?_)
  refine gy_fI ht1 dX8_clear_1 gf_RX8_15_7_1 (by decide) gkN_7_1 gkR_7_1 ?_
  refine gx_istore_n (ls2 := [(1, .int (gI t1)), (0, .ref v0)]) dX8_clear_4 rfl (Nat.le_of_ble_eq_true rfl) rfl ?_
  refine gx_aload_n dX8_clear_5 rfl 1 rfl ?_
  refine gy_iconst dX8_clear_6 ?_
  refine gx_bE e (fun h2 hh2 e => ?_)
  refine gy_qI hh2 dX8_clear_7 gf_RX8_15_7_1 (by decide) gkN_7_1 rfl (Or.inl rfl) ?_
  refine gx_iload_n dX8_clear_10 rfl 0 rfl ?_
  cases e
  exact gx_iret dX8_clear_11 rfl ⟨Nat.le_of_ble_eq_true rfl, Nat.le_of_ble_eq_true rfl⟩ (fun z => z)
/-! X11_wipe  -/
set_option maxRecDepth 100000 in
def f_X11_wipe (v0 : Nat) (h : gi_H) : Option (Int × gi_H) :=
  Option.bind (gi_gR h v0 9 0) fun t1 => Option.bind (gi_is h t1 7) fun _ => Option.bind (f_X8_clear t1 h) fun q3 => some (q3.1, q3.2)
set_option maxRecDepth 100000 in
theorem z_X11_wipe {al : Bool} {v0 : Nat} {h : gi_H} {res : Int} {h1 : gi_H} (e : f_X11_wipe v0 h = some (res, h1)) : gx_Cw mX11_wipe al [.ref v0] (gi_cv h) (.inl (some (.int (gI res)))) (gi_cv h1) := by
  refine gx_enter (by decide +kernel) rfl (Nat.le_of_ble_eq_true rfl) ?_
  show gx_Z mX11_wipe al al 0 0 0 [(0, .ref v0)] [] (gi_cv h) (.inl (some (.int (gI res)))) (gi_cv h1)
  refine gx_aload_n dX11_wipe_0 rfl 0 rfl ?_
  refine gx_bE e (fun t1 ht1 e => ?_)
  refine gy_fR ht1 dX11_wipe_1 gf_RX11_12_9_0 (by decide) gkN_9_0 gkR_9_0 ?_
  refine gx_bE e (fun _ hu2 e => ?_)
  refine gx_bE e (fun q3 hq3 e => ?_)
  refine gx_callV (n := 0) (st := []) (As := []) (b := t1) dX11_wipe_4 (z_X8_clear hq3) rfl ⟨rfl, gw_cw_X8_clear, gw_2, gp_X8_clear, ⟨Nat.le_of_ble_eq_true rfl, Nat.le_of_ble_eq_true rfl⟩⟩ (gi_isS hu2) (by decide) gw_357 gw_358 gw_359 rfl ⟨Nat.le_of_ble_eq_true rfl, Nat.le_of_ble_eq_true rfl⟩ (Nat.le_of_ble_eq_true rfl) (gy_k1 (x := .int (gI q3.1)) (kc2 := 0) (ks2 := 0) ⟨rfl, rfl⟩ ?_) gy_kn
  cases e
  exact gx_iret dX11_wipe_7 rfl ⟨Nat.le_of_ble_eq_true rfl, Nat.le_of_ble_eq_true rfl⟩ (fun z => z)
/-! X12_wipe  -/
set_option maxRecDepth 100000 in
def f_X12_wipe (v0 : Nat) (h : gi_H) : Option (Int × gi_H) :=
  Option.bind (gi_pI h v0 10 44 (0 : Int)) fun h1 => Option.bind (gi_gI h1 v0 10 13) fun t2 => Option.bind (gi_pI h1 v0 10 13 (0 : Int)) fun h3 => some (t2, h3)
set_option maxRecDepth 100000 in
theorem z_X12_wipe {al : Bool} {v0 : Nat} {h : gi_H} {res : Int} {h1 : gi_H} (e : f_X12_wipe v0 h = some (res, h1)) : gx_Cw mX12_wipe al [.ref v0] (gi_cv h) (.inl (some (.int (gI res)))) (gi_cv h1) := by
  refine gx_enter (by decide +kernel) rfl (Nat.le_of_ble_eq_true rfl) ?_
  show gx_Z mX12_wipe al al 0 0 0 [(0, .ref v0)] [] (gi_cv h) (.inl (some (.int (gI res)))) (gi_cv h1)
  refine gx_aload_n dX12_wipe_0 rfl 0 rfl ?_
  refine gy_iconst dX12_wipe_1 ?_
  refine gx_bE e (fun h1 hh1 e => ?_)
  refine gy_qI hh1 dX12_wipe_2 gf_RX12_104_10_44 (by decide) gkN_10_44 rfl (Or.inl rfl) ?_
  refine gx_aload_n dX12_wipe_5 rfl 0 rfl ?_
  refine gx_bE e (fun t2 ht2 e => ?_)
  refine gy_fI ht2 dX12_wipe_6 gf_RX12_128_10_13 (by decide) gkN_10_13 gkR_10_13 ?_
  refine gx_istore_n (ls2 := [(1, .int (gI t2)), (0, .ref v0)]) dX12_wipe_9 rfl (Nat.le_of_ble_eq_true rfl) rfl ?_
  refine gx_aload_n dX12_wipe_10 rfl 1 rfl ?_
  refine gy_iconst dX12_wipe_11 ?_
  refine gx_bE e (fun h3 hh3 e => ?_)
  refine gy_qI hh3 dX12_wipe_12 gf_RX12_128_10_13 (by decide) gkN_10_13 rfl (Or.inl rfl) ?_
  refine gx_iload_n dX12_wipe_15 rfl 0 rfl ?_
  cases e
  exact gx_iret dX12_wipe_16 rfl ⟨Nat.le_of_ble_eq_true rfl, Nat.le_of_ble_eq_true rfl⟩ (fun z => z)
/-! X8_letter  -/
set_option maxRecDepth 100000 in
def b_X8_letter_22    (h : gi_H) : Option (Int) :=
  Option.bind (gi_ch (32 : Int)) fun _ => some (32 : Int)
set_option maxRecDepth 100000 in
theorem zb_X8_letter_22 {al : Bool}  {res : Int}    {h : gi_H} (e : b_X8_letter_22  h = some res) : gx_Z mX8_letter al al 0 0 22 [] [] (gi_cv h) (.inl (some (.int (gI res)))) (gi_cv h) := by
  refine gy_bipush dX8_letter_22 gcb_32 ?_
  refine gx_bE e (fun _ hu3 e => ?_)
  cases e
  exact gy_cret hu3 dX8_letter_24 rfl ⟨Nat.le_of_ble_eq_true rfl, Nat.le_of_ble_eq_true rfl⟩ (fun z => z)
set_option maxRecDepth 100000 in
def f_X8_letter (v0 : Nat) (v1 : Int) (h : gi_H) : Option (Int) :=
  Option.bind (gi_rg v1) fun _ => if v1 < 0 then (b_X8_letter_22   h) else (Option.bind (gi_gR h v0 7 0) fun t4 => Option.bind (gi_ln h t4) fun t5 => Option.bind (gi_rg t5) fun _ => if t5 ≤ v1 then (b_X8_letter_22   h) else (Option.bind (gi_gR h v0 7 0) fun t8 => Option.bind (gi_aI h 3 t8 v1) fun t9 => Option.bind (gi_ch t9) fun _ => some t9))
set_option maxRecDepth 100000 in
theorem z_X8_letter {al : Bool} {v0 : Nat} {v1 : Int} {h : gi_H} {res : Int} (e : f_X8_letter v0 v1 h = some res) : gx_Cw mX8_letter al [.ref v0, .int (gI v1)] (gi_cv h) (.inl (some (.int (gI res)))) (gi_cv h) := by
  refine gx_enter (by decide +kernel) rfl (Nat.le_of_ble_eq_true rfl) ?_
  show gx_Z mX8_letter al al 0 0 0 [(0, .ref v0), (1, .int (gI v1))] [] (gi_cv h) (.inl (some (.int (gI res)))) (gi_cv h)
  refine gx_iload_n dX8_letter_0 rfl 1 rfl ?_
  refine gx_bE e (fun _ g1 e => ?_)
  refine gx_iE e (fun c2 e => ?_) (fun c2 e => ?_)
  · refine gy_if_lt (tgt := 22) (gi_rgS g1) dX8_letter_1 (by decide) (fun _ => ?_) (fun z => absurd c2 z)
    refine gx_sub (ls2 := []) [] rfl ?_
    exact zb_X8_letter_22  e
  · refine gy_if_lt (tgt := 22) (gi_rgS g1) dX8_letter_1 (by decide) (fun z => absurd z c2) (fun _ => ?_)
    refine gx_iload_n dX8_letter_4 rfl 1 rfl ?_
    refine gx_aload_n dX8_letter_5 rfl 0 rfl ?_
    refine gx_bE e (fun t4 ht4 e => ?_)
    refine gy_fR ht4 dX8_letter_6 gf_RX8_9_7_0 (by decide) gkN_7_0 gkR_7_0 ?_
    refine gx_bE e (fun t5 ht5 e => ?_)
    refine gy_al0 ht5 dX8_letter_9 ?_
    refine gx_bE e (fun _ g6 e => ?_)
    refine gx_iE e (fun c7 e => ?_) (fun c7 e => ?_)
    · refine gy_icmp_ge (tgt := 22) (gi_rgS g1) (gi_rgS g6) dX8_letter_10 (by decide) (fun _ => ?_) (fun z => absurd c7 z)
      refine gx_sub (ls2 := []) [] rfl ?_
      exact zb_X8_letter_22  e
    · refine gy_icmp_ge (tgt := 22) (gi_rgS g1) (gi_rgS g6) dX8_letter_10 (by decide) (fun z => absurd z c7) (fun _ => ?_)
      refine gx_aload_n dX8_letter_13 rfl 0 rfl ?_
      refine gx_bE e (fun t8 ht8 e => ?_)
      refine gy_fR ht8 dX8_letter_14 gf_RX8_9_7_0 (by decide) gkN_7_0 gkR_7_0 ?_
      refine gx_iload_n dX8_letter_17 rfl 1 rfl ?_
      refine gx_bE e (fun t9 ht9 e => ?_)
      refine gy_l3 ht9 dX8_letter_18 ?_
      refine gx_goto (tgt := 24) dX8_letter_19 (by decide) ?_
      refine gx_bE e (fun _ hu10 e => ?_)
      cases e
      exact gy_cret hu10 dX8_letter_24 rfl ⟨Nat.le_of_ble_eq_true rfl, Nat.le_of_ble_eq_true rfl⟩ (fun z => z)
/-! X8_stateInChoice  -/
set_option maxRecDepth 100000 in
def f_X8_stateInChoice (v0 : Int) (v1 : Int) (v2 : Int) (h : gi_H) : Option (Int) :=
  Option.bind (f_X11_isTerminalLetter v1 h) fun q1 => Option.bind (gi_rg q1) fun _ => if q1 = 0 then (Option.bind (f_X11_isNonterminalLetter v1 h) fun q4 => Option.bind (gi_rg q4) fun _ => if q4 = 0 then (Option.bind (gi_rg v1) fun _ => if v1 = (40 : Int) then (some (2 : Int)) else (if v1 = (124 : Int) then (some (2 : Int)) else (if v1 = (41 : Int) then (Option.bind (gi_rg v2) fun _ => if v2 ≤ 0 then (some (5 : Int)) else (some (3 : Int))) else (Option.bind (gi_rg v0) fun _ => if v0 = (3 : Int) then (if v1 = (37 : Int) then (some (4 : Int)) else (Option.bind (f_X11_isRepeat v1 h) fun q16 => Option.bind (gi_rg q16) fun _ => if q16 = 0 then (some (5 : Int)) else (some (2 : Int)))) else (some (5 : Int)))))) else (some (3 : Int))) else (some (3 : Int))
set_option maxRecDepth 100000 in
theorem z_X8_stateInChoice {al : Bool} {v0 : Int} {v1 : Int} {v2 : Int} {h : gi_H} {res : Int} (e : f_X8_stateInChoice v0 v1 v2 h = some res) : gx_Cw mX8_stateInChoice al [.int (gI v0), .int (gI v1), .int (gI v2)] (gi_cv h) (.inl (some (.int (gI res)))) (gi_cv h) := by
  refine gx_enter (by decide +kernel) rfl (Nat.le_of_ble_eq_true rfl) ?_
  show gx_Z mX8_stateInChoice al al 0 0 0 [(0, .int (gI v0)), (1, .int (gI v1)), (2, .int (gI v2))] [] (gi_cv h) (.inl (some (.int (gI res)))) (gi_cv h)
  refine gx_iload_n dX8_stateInChoice_0 rfl 1 rfl ?_
  refine gx_bE e (fun q1 hq1 e => ?_)
  refine gx_callSN (n := 1) (st := []) (As := [.int (gI v1)]) dX8_stateInChoice_1 (z_X11_isTerminalLetter hq1) rfl ⟨rfl, gw_cw_X11_isTerminalLetter, gw_1, gp_X11_isTerminalLetter, ⟨Nat.le_of_ble_eq_true rfl, Nat.le_of_ble_eq_true rfl⟩⟩ (host := "Grammarsmith") (by decide +kernel) gw_380 ⟨Nat.le_of_ble_eq_true rfl, Nat.le_of_ble_eq_true rfl⟩ (Nat.le_of_ble_eq_true rfl) (gy_k1 (x := .int (gI q1)) (kc2 := 0) (ks2 := 0) ⟨rfl, rfl⟩ ?_) gy_kn
  refine gx_bE e (fun _ g2 e => ?_)
  refine gx_iE e (fun c3 e => ?_) (fun c3 e => ?_)
  · refine gy_if_ne (tgt := 14) (gi_rgS g2) dX8_stateInChoice_4 (by decide) (fun z => absurd c3 z) (fun _ => ?_)
    refine gx_iload_n dX8_stateInChoice_7 rfl 1 rfl ?_
    refine gx_bE e (fun q4 hq4 e => ?_)
    refine gx_callSN (n := 1) (st := []) (As := [.int (gI v1)]) dX8_stateInChoice_8 (z_X11_isNonterminalLetter hq4) rfl ⟨rfl, gw_cw_X11_isNonterminalLetter, gw_1, gp_X11_isNonterminalLetter, ⟨Nat.le_of_ble_eq_true rfl, Nat.le_of_ble_eq_true rfl⟩⟩ (host := "Grammarsmith") (by decide +kernel) gw_377 ⟨Nat.le_of_ble_eq_true rfl, Nat.le_of_ble_eq_true rfl⟩ (Nat.le_of_ble_eq_true rfl) (gy_k1 (x := .int (gI q4)) (kc2 := 0) (ks2 := 0) ⟨rfl, rfl⟩ ?_) gy_kn
    refine gx_bE e (fun _ g5 e => ?_)
    refine gx_iE e (fun c6 e => ?_) (fun c6 e => ?_)
    · refine gy_if_eq (tgt := 16) (gi_rgS g5) dX8_stateInChoice_11 (by decide) (fun _ => ?_) (fun z => absurd c6 z)
      refine gx_iload_n dX8_stateInChoice_16 rfl 1 rfl ?_
      refine gy_bipush dX8_stateInChoice_17 gcb_40 ?_
      refine gx_bE e (fun _ g7 e => ?_)
      refine gx_iE e (fun c8 e => ?_) (fun c8 e => ?_)
      · refine gy_icmp_eq (tgt := 28) (gi_rgS g7) (by decide) dX8_stateInChoice_19 (by decide) (fun _ => ?_) (fun z => absurd c8 z)
        refine gy_iconst dX8_stateInChoice_28 ?_
        cases e
        exact gx_iret dX8_stateInChoice_29 rfl ⟨Nat.le_of_ble_eq_true rfl, Nat.le_of_ble_eq_true rfl⟩ (fun z => z)
      · refine gy_icmp_eq (tgt := 28) (gi_rgS g7) (by decide) dX8_stateInChoice_19 (by decide) (fun z => absurd z c8) (fun _ => ?_)
        refine gx_iload_n dX8_stateInChoice_22 rfl 1 rfl ?_
        refine gy_bipush dX8_stateInChoice_23 gcb_124 ?_
        refine gx_iE e (fun c9 e => ?_) (fun c9 e => ?_)
        · refine gy_icmp_ne (tgt := 30) (gi_rgS g7) (by decide) dX8_stateInChoice_25 (by decide) (fun z => absurd c9 z) (fun _ => ?_)
          refine gy_iconst dX8_stateInChoice_28 ?_
          cases e
          exact gx_iret dX8_stateInChoice_29 rfl ⟨Nat.le_of_ble_eq_true rfl, Nat.le_of_ble_eq_true rfl⟩ (fun z => z)
        · refine gy_icmp_ne (tgt := 30) (gi_rgS g7) (by decide) dX8_stateInChoice_25 (by decide) (fun _ => ?_) (fun z => absurd z c9)
          refine gx_iload_n dX8_stateInChoice_30 rfl 1 rfl ?_
          refine gy_bipush dX8_stateInChoice_31 gcb_41 ?_
          refine gx_iE e (fun c10 e => ?_) (fun c10 e => ?_)
          · refine gy_icmp_ne (tgt := 46) (gi_rgS g7) (by decide) dX8_stateInChoice_33 (by decide) (fun z => absurd c10 z) (fun _ => ?_)
            refine gx_iload_n dX8_stateInChoice_36 rfl 2 rfl ?_
            refine gx_bE e (fun _ g11 e => ?_)
            refine gx_iE e (fun c12 e => ?_) (fun c12 e => ?_)
            · refine gy_if_le (tgt := 44) (gi_rgS g11) dX8_stateInChoice_37 (by decide) (fun _ => ?_) (fun z => absurd c12 z)
              refine gy_iconst dX8_stateInChoice_44 ?_
              cases e
              exact gx_iret dX8_stateInChoice_45 rfl ⟨Nat.le_of_ble_eq_true rfl, Nat.le_of_ble_eq_true rfl⟩ (fun z => z)
            · refine gy_if_le (tgt := 44) (gi_rgS g11) dX8_stateInChoice_37 (by decide) (fun z => absurd z c12) (fun _ => ?_)
              refine gy_iconst dX8_stateInChoice_40 ?_
              refine gx_goto (tgt := 45) dX8_stateInChoice_41 (by decide) ?_
              cases e
              exact gx_iret dX8_stateInChoice_45 rfl ⟨Nat.le_of_ble_eq_true rfl, Nat.le_of_ble_eq_true rfl⟩ (fun z => z)
          · refine gy_icmp_ne (tgt := 46) (gi_rgS g7) (by decide) dX8_stateInChoice_33 (by decide) (fun _ => ?_) (fun z => absurd z c10)
            refine gx_iload_n dX8_stateInChoice_46 rfl 0 rfl ?_
            refine gy_iconst dX8_stateInChoice_47 ?_
            refine gx_bE e (fun _ g13 e => ?_)
            refine gx_iE e (fun c14 e => ?_) (fun c14 e => ?_)
            · refine gy_icmp_eq (tgt := 53) (gi_rgS g13) (by decide) dX8_stateInChoice_48 (by decide) (fun _ => ?_) (fun z => absurd c14 z)
              refine gx_iload_n dX8_stateInChoice_53 rfl 1 rfl ?_
              refine gy_bipush dX8_stateInChoice_54 gcb_37 ?_
              refine gx_iE e (fun c15 e => ?_) (fun c15 e => ?_)
              · refine gy_icmp_ne (tgt := 61) (gi_rgS g7) (by decide) dX8_stateInChoice_56 (by decide) (fun z => absurd c15 z) (fun _ => ?_)
                refine gy_iconst dX8_stateInChoice_59 ?_
                cases e
                exact gx_iret dX8_stateInChoice_60 rfl ⟨Nat.le_of_ble_eq_true rfl, Nat.le_of_ble_eq_true rfl⟩ (fun z => z)
              · refine gy_icmp_ne (tgt := 61) (gi_rgS g7) (by decide) dX8_stateInChoice_56 (by decide) (fun _ => ?_) (fun z => absurd z c15)
                refine gx_iload_n dX8_stateInChoice_61 rfl 1 rfl ?_
                refine gx_bE e (fun q16 hq16 e => ?_)
                refine gx_callSN (n := 1) (st := []) (As := [.int (gI v1)]) dX8_stateInChoice_62 (z_X11_isRepeat hq16) rfl ⟨rfl, gw_cw_X11_isRepeat, gw_1, gp_X11_isRepeat, ⟨Nat.le_of_ble_eq_true rfl, Nat.le_of_ble_eq_true rfl⟩⟩ (host := "Grammarsmith") (by decide +kernel) gw_386 ⟨Nat.le_of_ble_eq_true rfl, Nat.le_of_ble_eq_true rfl⟩ (Nat.le_of_ble_eq_true rfl) (gy_k1 (x := .int (gI q16)) (kc2 := 0) (ks2 := 0) ⟨rfl, rfl⟩ ?_) gy_kn
                refine gx_bE e (fun _ g17 e => ?_)
                refine gx_iE e (fun c18 e => ?_) (fun c18 e => ?_)
                · refine gy_if_eq (tgt := 72) (gi_rgS g17) dX8_stateInChoice_65 (by decide) (fun _ => ?_) (fun z => absurd c18 z)
                  refine gy_iconst dX8_stateInChoice_72 ?_
                  cases e
                  exact gx_iret dX8_stateInChoice_73 rfl ⟨Nat.le_of_ble_eq_true rfl, Nat.le_of_ble_eq_true rfl⟩ (fun z => z)
                · refine gy_if_eq (tgt := 72) (gi_rgS g17) dX8_stateInChoice_65 (by decide) (fun z => absurd z c18) (fun _ => ?_)
                  refine gy_iconst dX8_stateInChoice_68 ?_
                  refine gx_goto (tgt := 73) dX8_stateInChoice_69 (by decide) ?_
                  cases e
                  exact gx_iret dX8_stateInChoice_73 rfl ⟨Nat.le_of_ble_eq_true rfl, Nat.le_of_ble_eq_true rfl⟩ (fun z => z)
            · refine gy_icmp_eq (tgt := 53) (gi_rgS g13) (by decide) dX8_stateInChoice_48 (by decide) (fun z => absurd z c14) (fun _ => ?_)
              refine gy_iconst dX8_stateInChoice_51 ?_
              cases e
              exact gx_iret dX8_stateInChoice_52 rfl ⟨Nat.le_of_ble_eq_true rfl, Nat.le_of_ble_eq_true rfl⟩ (fun z => z)
    · refine gy_if_eq (tgt := 16) (gi_rgS g5) dX8_stateInChoice_11 (by decide) (fun z => absurd z c6) (fun _ => ?_)
      refine gy_iconst dX8_stateInChoice_14 ?_
      cases e
      exact gx_iret dX8_stateInChoice_15 rfl ⟨Nat.le_of_ble_eq_true rfl, Nat.le_of_ble_eq_true rfl⟩ (fun z => z)
  · refine gy_if_ne (tgt := 14) (gi_rgS g2) dX8_stateInChoice_4 (by decide) (fun _ => ?_) (fun z => absurd z c3)
    refine gy_iconst dX8_stateInChoice_14 ?_
    cases e
    exact gx_iret dX8_stateInChoice_15 rfl ⟨Nat.le_of_ble_eq_true rfl, Nat.le_of_ble_eq_true rfl⟩ (fun z => z)
/-! X8_stateBehind  -/
set_option maxRecDepth 100000 in
def f_X8_stateBehind (v0 : Int) (v1 : Int) (v2 : Int) (h : gi_H) : Option (Int) :=
  Option.bind (gi_rg v0) fun _ => if v0 = (0 : Int) then (Option.bind (f_X11_isNonterminalLetter v1 h) fun q4 => Option.bind (gi_rg q4) fun _ => if q4 = 0 then (some (5 : Int)) else (some (1 : Int))) else (if v0 = (1 : Int) then (Option.bind (gi_rg v1) fun _ => if v1 = (58 : Int) then (some (2 : Int)) else (some (5 : Int))) else (if v0 = (2 : Int) then (Option.bind (f_X8_stateInChoice v0 v1 v2 h) fun q11 => some q11) else (if v0 = (3 : Int) then (Option.bind (f_X8_stateInChoice v0 v1 v2 h) fun q13 => some q13) else (if v0 = (4 : Int) then (Option.bind (f_X11_isTerminalLetter v1 h) fun q15 => Option.bind (gi_rg q15) fun _ => if q15 = 0 then (some (5 : Int)) else (some (2 : Int))) else (Option.bind (f_X8_stateInChoice v0 v1 v2 h) fun q18 => some q18)))))
set_option maxRecDepth 100000 in
theorem z_X8_stateBehind {al : Bool} {v0 : Int} {v1 : Int} {v2 : Int} {h : gi_H} {res : Int} (e : f_X8_stateBehind v0 v1 v2 h = some res) : gx_Cw mX8_stateBehind al [.int (gI v0), .int (gI v1), .int (gI v2)] (gi_cv h) (.inl (some (.int (gI res)))) (gi_cv h) := by
  refine gx_enter (by decide +kernel) rfl (Nat.le_of_ble_eq_true rfl) ?_
  show gx_Z mX8_stateBehind al al 0 0 0 [(0, .int (gI v0)), (1, .int (gI v1)), (2, .int (gI v2))] [] (gi_cv h) (.inl (some (.int (gI res)))) (gi_cv h)
  refine gx_iload_n dX8_stateBehind_0 rfl 0 rfl ?_
  refine gx_bE e (fun _ g2 e => ?_)
  refine gx_iE e (fun c3 e => ?_) (fun c3 e => ?_)
  · refine gy_tableIn (tgt := 36) (off := 35) (gi_rgS g2) dX8_stateBehind_1 (by rw [c3]; decide) (by rw [c3]; decide) (by rw [c3]; rfl) (by decide) ?_
    refine gx_iload_n dX8_stateBehind_36 rfl 1 rfl ?_
    refine gx_bE e (fun q4 hq4 e => ?_)
    refine gx_callSN (n := 1) (st := []) (As := [.int (gI v1)]) dX8_stateBehind_37 (z_X11_isNonterminalLetter hq4) rfl ⟨rfl, gw_cw_X11_isNonterminalLetter, gw_1, gp_X11_isNonterminalLetter, ⟨Nat.le_of_ble_eq_true rfl, Nat.le_of_ble_eq_true rfl⟩⟩ (host := "Grammarsmith") (by decide +kernel) gw_377 ⟨Nat.le_of_ble_eq_true rfl, Nat.le_of_ble_eq_true rfl⟩ (Nat.le_of_ble_eq_true rfl) (gy_k1 (x := .int (gI q4)) (kc2 := 0) (ks2 := 0) ⟨rfl, rfl⟩ ?_) gy_kn
    refine gx_bE e (fun _ g5 e => ?_)
    refine gx_iE e (fun c6 e => ?_) (fun c6 e => ?_)
    · refine gy_if_eq (tgt := 47) (gi_rgS g5) dX8_stateBehind_40 (by decide) (fun _ => ?_) (fun z => absurd c6 z)
      refine gy_iconst dX8_stateBehind_47 ?_
      cases e
      exact gx_iret dX8_stateBehind_48 rfl ⟨Nat.le_of_ble_eq_true rfl, Nat.le_of_ble_eq_true rfl⟩ (fun z => z)
    · refine gy_if_eq (tgt := 47) (gi_rgS g5) dX8_stateBehind_40 (by decide) (fun z => absurd z c6) (fun _ => ?_)
      refine gy_iconst dX8_stateBehind_43 ?_
      refine gx_goto (tgt := 48) dX8_stateBehind_44 (by decide) ?_
      cases e
      exact gx_iret dX8_stateBehind_48 rfl ⟨Nat.le_of_ble_eq_true rfl, Nat.le_of_ble_eq_true rfl⟩ (fun z => z)
  refine gx_iE e (fun c7 e => ?_) (fun c7 e => ?_)
  · refine gy_tableIn (tgt := 49) (off := 48) (gi_rgS g2) dX8_stateBehind_1 (by rw [c7]; decide) (by rw [c7]; decide) (by rw [c7]; rfl) (by decide) ?_
    refine gx_iload_n dX8_stateBehind_49 rfl 1 rfl ?_
    refine gy_bipush dX8_stateBehind_50 gcb_58 ?_
    refine gx_bE e (fun _ g8 e => ?_)
    refine gx_iE e (fun c9 e => ?_) (fun c9 e => ?_)
    · refine gy_icmp_ne (tgt := 59) (gi_rgS g8) (by decide) dX8_stateBehind_52 (by decide) (fun z => absurd c9 z) (fun _ => ?_)
      refine gy_iconst dX8_stateBehind_55 ?_
      refine gx_goto (tgt := 60) dX8_stateBehind_56 (by decide) ?_
      cases e
      exact gx_iret dX8_stateBehind_60 rfl ⟨Nat.le_of_ble_eq_true rfl, Nat.le_of_ble_eq_true rfl⟩ (fun z => z)
    · refine gy_icmp_ne (tgt := 59) (gi_rgS g8) (by decide) dX8_stateBehind_52 (by decide) (fun _ => ?_) (fun z => absurd z c9)
      refine gy_iconst dX8_stateBehind_59 ?_
      cases e
      exact gx_iret dX8_stateBehind_60 rfl ⟨Nat.le_of_ble_eq_true rfl, Nat.le_of_ble_eq_true rfl⟩ (fun z => z)
  refine gx_iE e (fun c10 e => ?_) (fun c10 e => ?_)
  · refine gy_tableIn (tgt := 74) (off := 73) (gi_rgS g2) dX8_stateBehind_1 (by rw [c10]; decide) (by rw [c10]; decide) (by rw [c10]; rfl) (by decide) ?_
    refine gx_iload_n dX8_stateBehind_74 rfl 0 rfl ?_
    refine gx_iload_n dX8_stateBehind_75 rfl 1 rfl ?_
    refine gx_iload_n dX8_stateBehind_76 rfl 2 rfl ?_
    refine gx_bE e (fun q11 hq11 e => ?_)
    refine gx_callS (n := 3) (st := []) (As := [.int (gI v0), .int (gI v1), .int (gI v2)]) dX8_stateBehind_77 (z_X8_stateInChoice hq11) rfl ⟨rfl, gw_cw_X8_stateInChoice, gw_2, gp_X8_stateInChoice, ⟨Nat.le_of_ble_eq_true rfl, Nat.le_of_ble_eq_true rfl⟩⟩ gw_382 gw_383 ⟨Nat.le_of_ble_eq_true rfl, Nat.le_of_ble_eq_true rfl⟩ (Nat.le_of_ble_eq_true rfl) (gy_k1 (x := .int (gI q11)) (kc2 := 0) (ks2 := 0) ⟨rfl, rfl⟩ ?_) gy_kn
    cases e
    exact gx_iret dX8_stateBehind_80 rfl ⟨Nat.le_of_ble_eq_true rfl, Nat.le_of_ble_eq_true rfl⟩ (fun z => z)
  refine gx_iE e (fun c12 e => ?_) (fun c12 e => ?_)
  · refine gy_tableIn (tgt := 74) (off := 73) (gi_rgS g2) dX8_stateBehind_1 (by rw [c12]; decide) (by rw [c12]; decide) (by rw [c12]; rfl) (by decide) ?_
    refine gx_iload_n dX8_stateBehind_74 rfl 0 rfl ?_
    refine gx_iload_n dX8_stateBehind_75 rfl 1 rfl ?_
    refine gx_iload_n dX8_stateBehind_76 rfl 2 rfl ?_
    refine gx_bE e (fun q13 hq13 e => ?_)
    refine gx_callS (n := 3) (st := []) (As := [.int (gI v0), .int (gI v1), .int (gI v2)]) dX8_stateBehind_77 (z_X8_stateInChoice hq13) rfl ⟨rfl, gw_cw_X8_stateInChoice, gw_2, gp_X8_stateInChoice, ⟨Nat.le_of_ble_eq_true rfl, Nat.le_of_ble_eq_true rfl⟩⟩ gw_382 gw_383 ⟨Nat.le_of_ble_eq_true rfl, Nat.le_of_ble_eq_true rfl⟩ (Nat.le_of_ble_eq_true rfl) (gy_k1 (x := .int (gI q13)) (kc2 := 0) (ks2 := 0) ⟨rfl, rfl⟩ ?_) gy_kn
    cases e
    exact gx_iret dX8_stateBehind_80 rfl ⟨Nat.le_of_ble_eq_true rfl, Nat.le_of_ble_eq_true rfl⟩ (fun z => z)
  refine gx_iE e (fun c14 e => ?_) (fun c14 e => ?_)
  · refine gy_tableIn (tgt := 61) (off := 60) (gi_rgS g2) dX8_stateBehind_1 (by rw [c14]; decide) (by rw [c14]; decide) (by rw [c14]; rfl) (by decide) ?_
    refine gx_iload_n dX8_stateBehind_61 rfl 1 rfl ?_
    refine gx_bE e (fun q15 hq15 e => ?_)
    refine gx_callSN (n := 1) (st := []) (As := [.int (gI v1)]) dX8_stateBehind_62 (z_X11_isTerminalLetter hq15) rfl ⟨rfl, gw_cw_X11_isTerminalLetter, gw_1, gp_X11_isTerminalLetter, ⟨Nat.le_of_ble_eq_true rfl, Nat.le_of_ble_eq_true rfl⟩⟩ (host := "Grammarsmith") (by decide +kernel) gw_380 ⟨Nat.le_of_ble_eq_true rfl, Nat.le_of_ble_eq_true rfl⟩ (Nat.le_of_ble_eq_true rfl) (gy_k1 (x := .int (gI q15)) (kc2 := 0) (ks2 := 0) ⟨rfl, rfl⟩ ?_) gy_kn
    refine gx_bE e (fun _ g16 e => ?_)
    refine gx_iE e (fun c17 e => ?_) (fun c17 e => ?_)
    · refine gy_if_eq (tgt := 72) (gi_rgS g16) dX8_stateBehind_65 (by decide) (fun _ => ?_) (fun z => absurd c17 z)
      refine gy_iconst dX8_stateBehind_72 ?_
      cases e
      exact gx_iret dX8_stateBehind_73 rfl ⟨Nat.le_of_ble_eq_true rfl, Nat.le_of_ble_eq_true rfl⟩ (fun z => z)
    · refine gy_if_eq (tgt := 72) (gi_rgS g16) dX8_stateBehind_65 (by decide) (fun z => absurd z c17) (fun _ => ?_)
      refine gy_iconst dX8_stateBehind_68 ?_
      refine gx_goto (tgt := 73) dX8_stateBehind_69 (by decide) ?_
      cases e
      exact gx_iret dX8_stateBehind_73 rfl ⟨Nat.le_of_ble_eq_true rfl, Nat.le_of_ble_eq_true rfl⟩ (fun z => z)
  refine gy_tableOut (tgt := 74) (gi_rgS g2) dX8_stateBehind_1 (by omega) (by decide) ?_
  refine gx_iload_n dX8_stateBehind_74 rfl 0 rfl ?_
  refine gx_iload_n dX8_stateBehind_75 rfl 1 rfl ?_
  refine gx_iload_n dX8_stateBehind_76 rfl 2 rfl ?_
  refine gx_bE e (fun q18 hq18 e => ?_)
  refine gx_callS (n := 3) (st := []) (As := [.int (gI v0), .int (gI v1), .int (gI v2)]) dX8_stateBehind_77 (z_X8_stateInChoice hq18) rfl ⟨rfl, gw_cw_X8_stateInChoice, gw_2, gp_X8_stateInChoice, ⟨Nat.le_of_ble_eq_true rfl, Nat.le_of_ble_eq_true rfl⟩⟩ gw_382 gw_383 ⟨Nat.le_of_ble_eq_true rfl, Nat.le_of_ble_eq_true rfl⟩ (Nat.le_of_ble_eq_true rfl) (gy_k1 (x := .int (gI q18)) (kc2 := 0) (ks2 := 0) ⟨rfl, rfl⟩ ?_) gy_kn
  cases e
  exact gx_iret dX8_stateBehind_80 rfl ⟨Nat.le_of_ble_eq_true rfl, Nat.le_of_ble_eq_true rfl⟩ (fun z => z)
