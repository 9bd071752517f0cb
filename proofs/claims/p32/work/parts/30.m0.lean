/-! X8_init  -/
set_option maxRecDepth 100000 in
def f_X8_init (v0 : Nat) (h : gi_H) : Option (gi_H) :=
  Option.bind (gi_mk h) fun _ => gx_nm (gi_nw h (3, 24)) fun h1 => Option.bind (gi_pR h1 v0 7 0 (gi_sz h)) fun h2 => some h2
set_option maxRecDepth 100000 in
theorem z_X8_init {v0 : Nat} {h : gi_H} {h1 : gi_H} (e : f_X8_init v0 h = some h1) : gx_Cw mX8_init true [.ref v0] (gi_cv h) (.inl none) (gi_cv h1) := by
  refine gx_enter (by decide +kernel) rfl (Nat.le_of_ble_eq_true rfl) ?_
  show gx_Z mX8_init true true 0 0 0 [(0, .ref v0)] [] (gi_cv h) (.inl none) (gi_cv h1)
  refine gx_aload_n dX8_init_0 rfl 0 rfl ?_
  refine gx_obj dX8_init_1 gw_34 gw_27 gw_28 (Nat.le_of_ble_eq_true rfl) (Nat.le_of_ble_eq_true rfl) ?_
  refine gx_aload_n dX8_init_4 rfl 0 rfl ?_
  refine gy_bipush dX8_init_5 gcb_24 ?_
  refine gx_bE e (fun _ gh1 e => ?_)
  refine gx_nE e (fun h1 hh1 e => ?_)
  refine gy_newa3 (N := 24) gh1 hh1 dX8_init_7 gw_42 (by decide +kernel) (by decide +kernel) (by decide) rfl (kc2 := 1) (ks2 := 24) ⟨rfl, rfl⟩ ⟨Nat.le_of_ble_eq_true rfl, Nat.le_of_ble_eq_true rfl⟩ ?_
  refine gx_bE e (fun h2 hh2 e => ?_)
  refine gy_qR hh2 dX8_init_9 gf_RX8_9_7_0 (by decide) gkN_7_0 gkR_7_0 (Or.inr ⟨rfl, rfl, rfl⟩) ?_
  cases e
  exact gx_vret dX8_init_12 rfl ⟨Nat.le_of_ble_eq_true rfl, Nat.le_of_ble_eq_true rfl⟩ (fun z => z)
/-! X7_init  -/
set_option maxRecDepth 100000 in
def f_X7_init (v0 : Nat) (h : gi_H) : Option (gi_H) :=
  Option.bind (gi_mk h) fun _ => gx_nm (gi_nw h (1, 24)) fun h1 => Option.bind (gi_pR h1 v0 6 0 (gi_sz h)) fun h2 => some h2
set_option maxRecDepth 100000 in
theorem z_X7_init {v0 : Nat} {h : gi_H} {h1 : gi_H} (e : f_X7_init v0 h = some h1) : gx_Cw mX7_init true [.ref v0] (gi_cv h) (.inl none) (gi_cv h1) := by
  refine gx_enter (by decide +kernel) rfl (Nat.le_of_ble_eq_true rfl) ?_
  show gx_Z mX7_init true true 0 0 0 [(0, .ref v0)] [] (gi_cv h) (.inl none) (gi_cv h1)
  refine gx_aload_n dX7_init_0 rfl 0 rfl ?_
  refine gx_obj dX7_init_1 gw_57 gw_27 gw_28 (Nat.le_of_ble_eq_true rfl) (Nat.le_of_ble_eq_true rfl) ?_
  refine gx_aload_n dX7_init_4 rfl 0 rfl ?_
  refine gy_bipush dX7_init_5 gcb_24 ?_
  refine gx_bE e (fun _ gh1 e => ?_)
  refine gx_nE e (fun h1 hh1 e => ?_)
  refine gy_newa1 (N := 24) gh1 hh1 dX7_init_7 gw_65 (by decide +kernel) (by decide +kernel) (by decide) rfl (kc2 := 1) (ks2 := 24) ⟨rfl, rfl⟩ ⟨Nat.le_of_ble_eq_true rfl, Nat.le_of_ble_eq_true rfl⟩ ?_
  refine gx_bE e (fun h2 hh2 e => ?_)
  refine gy_qR hh2 dX7_init_9 gf_RX7_9_6_0 (by decide) gkN_6_0 gkR_6_0 (Or.inr ⟨rfl, rfl, rfl⟩) ?_
  cases e
  exact gx_vret dX7_init_12 rfl ⟨Nat.le_of_ble_eq_true rfl, Nat.le_of_ble_eq_true rfl⟩ (fun z => z)
/-! X4_init  -/
set_option maxRecDepth 100000 in
def b_X4_init_69 (n : Nat) (r69 : Nat → Int → gi_H → Option (gi_H)) (v0 : Nat) (v1 : Int)  (h : gi_H) : Option (gi_H) :=
  Option.bind (gi_gR h v0 3 4) fun t17 => Option.bind (gi_ln h t17) fun t18 => Option.bind (gi_rg v1) fun _ => Option.bind (gi_rg t18) fun _ => if t18 ≤ v1 then (some h) else (Option.bind (gi_gR h v0 3 4) fun t22 => Option.bind (gi_mk h) fun _ => gx_nm (gi_nw h (0, 7)) fun h23 => Option.bind (f_X8_init (gi_sz h) h23) fun q24 => Option.bind (gi_s5 q24 t22 v1 (gi_sz h)) fun h25 => gx_nm (v1 + (1 : Int)) fun t26 => r69 v0 t26 h25)
set_option maxRecDepth 100000 in
theorem zb_X4_init_69 {n : Nat} {r69 : Nat → Int → gi_H → Option (gi_H)} {h1 : gi_H} {kc ks k : Nat} (hkc : kc + (k + 1) * 2 ≤ 69) (hks : ks + (k + 1) * 26 ≤ 1048) (hr69 : ∀ (kc ks : Nat) (x0 : Nat) (x1 : Int) (hh : gi_H), kc + k * 2 ≤ 69 → ks + k * 26 ≤ 1048 → r69 x0 x1 hh = some h1 → gx_Z mX4_init true true kc ks 69 [(0, .ref x0), (1, .int (gI x1))] [] (gi_cv hh) (.inl none) (gi_cv h1)) {v0 : Nat} {v1 : Int}  {h : gi_H} (e : b_X4_init_69 n r69 v0 v1 h = some h1) : gx_Z mX4_init true true kc ks 69 [(0, .ref v0), (1, .int (gI v1))] [] (gi_cv h) (.inl none) (gi_cv h1) := by
  have hKc : 69 ≤ (gx_rm mX4_init).cells := Nat.le_of_ble_eq_true rfl
  have hKs : 1048 ≤ (gx_rm mX4_init).slots := Nat.le_of_ble_eq_true rfl
  refine gx_iload_n dX4_init_69 rfl 1 rfl ?_
  refine gx_aload_n dX4_init_70 rfl 0 rfl ?_
  refine gx_bE e (fun t17 ht17 e => ?_)
  refine gy_fR ht17 dX4_init_71 gf_RX4_23_3_4 (by decide) gkN_3_4 gkR_3_4 ?_
  refine gx_bE e (fun t18 ht18 e => ?_)
  refine gy_al0 ht18 dX4_init_74 ?_
  refine gx_bE e (fun _ g19 e => ?_)
  refine gx_bE e (fun _ g20 e => ?_)
  refine gx_iE e (fun c21 e => ?_) (fun c21 e => ?_)
  · refine gy_icmp_ge (tgt := 97) (gi_rgS g19) (gi_rgS g20) dX4_init_75 (by decide) (fun _ => ?_) (fun z => absurd c21 z)
    cases e
    exact gx_vret dX4_init_97 rfl ⟨by show kc ≤ _; omega, by show ks ≤ _; omega⟩ (fun z => z)
  · refine gy_icmp_ge (tgt := 97) (gi_rgS g19) (gi_rgS g20) dX4_init_75 (by decide) (fun z => absurd z c21) (fun _ => ?_)
    refine gx_aload_n dX4_init_78 rfl 0 rfl ?_
    refine gx_bE e (fun t22 ht22 e => ?_)
    refine gy_fR ht22 dX4_init_79 gf_RX4_23_3_4 (by decide) gkN_3_4 gkR_3_4 ?_
    refine gx_iload_n dX4_init_82 rfl 1 rfl ?_
    refine gx_bE e (fun _ gh23 e => ?_)
    refine gx_nE e (fun h23 hh23 e => ?_)
    refine gy_new (ci := 7) gh23 hh23 dX4_init_83 (by decide) gw_49 gw_30 gw_2 rfl (kc2 := (kc + 1)) (ks2 := (ks + 2)) ⟨rfl, rfl⟩ ⟨by show (kc + 1) ≤ _; omega, by show (ks + 2) ≤ _; omega⟩ ?_
    refine gx_dup dX4_init_86 rfl ?_
    refine gx_bE e (fun q24 hq24 e => ?_)
    refine gx_callIN (n := 0) (st := [.ref (gi_sz h), .int (gI v1), .ref t22]) (As := []) (b := (gi_sz h)) dX4_init_87 (z_X8_init hq24) rfl ⟨rfl, gw_cw_X8_init, gw_2, gp_X8_init, ⟨Nat.le_of_ble_eq_true rfl, Nat.le_of_ble_eq_true rfl⟩⟩ (host := "Grammarsmith") (by decide +kernel) gw_32 rfl rfl ⟨by show (kc + 2) ≤ _; omega, by show (ks + 26) ≤ _; omega⟩ (Nat.le_of_ble_eq_true rfl) (gy_k0 (kc2 := (kc + 2)) (ks2 := (ks + 26)) ⟨rfl, rfl⟩ ?_) gy_kn
    refine gx_bE e (fun h25 hh25 e => ?_)
    refine gy_t5 hh25 dX4_init_90 ?_
    refine gx_nE e (fun t26 ht26 e => ?_)
    refine gy_iinc (v := t26) (ls2 := [(1, .int (gI t26)), (0, .ref v0)]) dX4_init_91 1 rfl ht26 (Nat.le_of_ble_eq_true rfl) rfl ?_
    refine gx_goto (tgt := 69) dX4_init_94 (by decide) ?_
    refine gx_sub (ls2 := [(0, .ref v0), (1, .int (gI t26))]) [1, 0] rfl ?_
    exact hr69 _ _ _ _ _ (by show (kc + 2) + _ ≤ _; omega) (by show (ks + 26) + _ ≤ _; omega) e
def l_X4_init_69 (n : Nat)  : Nat → Nat → Int → gi_H → Option (gi_H)
  | 0, _, _, _ => none
  | k + 1, v0, v1, h => b_X4_init_69 n  (l_X4_init_69 n  k) v0 v1 h
theorem zl_X4_init_69 {n : Nat}  {h1 : gi_H}  : ∀ (k kc ks : Nat) (v0 : Nat) (v1 : Int) (h : gi_H), kc + k * 2 ≤ 69 → ks + k * 26 ≤ 1048 → l_X4_init_69 n  k v0 v1 h = some h1 → gx_Z mX4_init true true kc ks 69 [(0, .ref v0), (1, .int (gI v1))] [] (gi_cv h) (.inl none) (gi_cv h1)
  | 0, _, _, _, _, _, _, _, e => gx_0E e
  | k + 1, _, _, _, _, _, hkc, hks, e => zb_X4_init_69 (n := n) hkc hks  (fun kc ks => zl_X4_init_69  k kc ks) e
set_option maxRecDepth 100000 in
def f_X4_init (n : Nat) (v0 : Nat) (h : gi_H) : Option (gi_H) :=
  Option.bind (gi_mk h) fun _ => gx_nm (gi_nw h (1, 24)) fun h1 => Option.bind (gi_pR h1 v0 3 0 (gi_sz h)) fun h2 => Option.bind (gi_mk h2) fun _ => gx_nm (gi_nw h2 (1, 120)) fun h3 => Option.bind (gi_pR h3 v0 3 1 (gi_sz h2)) fun h4 => Option.bind (gi_mk h4) fun _ => gx_nm (gi_nw h4 (1, 24)) fun h5 => Option.bind (gi_pR h5 v0 3 2 (gi_sz h4)) fun h6 => Option.bind (gi_mk h6) fun _ => gx_nm (gi_nw h6 (5, 24)) fun h7 => Option.bind (gi_pR h7 v0 3 4 (gi_sz h6)) fun h8 => Option.bind (gi_mk h8) fun _ => gx_nm (gi_nw h8 (1, 24)) fun h9 => Option.bind (gi_pR h9 v0 3 5 (gi_sz h8)) fun h10 => Option.bind (gi_mk h10) fun _ => gx_nm (gi_nw h10 (0, 7)) fun h11 => Option.bind (f_X8_init (gi_sz h10) h11) fun q12 => Option.bind (gi_pR q12 v0 3 8 (gi_sz h10)) fun h13 => Option.bind (gi_mk h13) fun _ => gx_nm (gi_nw h13 (0, 6)) fun h14 => Option.bind (f_X7_init (gi_sz h13) h14) fun q15 => Option.bind (gi_pR q15 v0 3 9 (gi_sz h13)) fun h16 => l_X4_init_69 n  30 v0 (0 : Int) h16
set_option maxRecDepth 100000 in
theorem z_X4_init {n : Nat} {v0 : Nat} {h : gi_H} {h1 : gi_H} (e : f_X4_init n v0 h = some h1) : gx_Cw mX4_init true [.ref v0] (gi_cv h) (.inl none) (gi_cv h1) := by
  refine gx_enter (by decide +kernel) rfl (Nat.le_of_ble_eq_true rfl) ?_
  show gx_Z mX4_init true true 0 0 0 [(0, .ref v0)] [] (gi_cv h) (.inl none) (gi_cv h1)
  refine gx_aload_n dX4_init_0 rfl 0 rfl ?_
  refine gx_obj dX4_init_1 gw_48 gw_27 gw_28 (Nat.le_of_ble_eq_true rfl) (Nat.le_of_ble_eq_true rfl) ?_
  refine gx_aload_n dX4_init_4 rfl 0 rfl ?_
  refine gy_bipush dX4_init_5 gcb_24 ?_
  refine gx_bE e (fun _ gh1 e => ?_)
  refine gx_nE e (fun h1 hh1 e => ?_)
  refine gy_newa1 (N := 24) gh1 hh1 dX4_init_7 gw_65 (by decide +kernel) (by decide +kernel) (by decide) rfl (kc2 := 1) (ks2 := 24) ⟨rfl, rfl⟩ ⟨Nat.le_of_ble_eq_true rfl, Nat.le_of_ble_eq_true rfl⟩ ?_
  refine gx_bE e (fun h2 hh2 e => ?_)
  refine gy_qR hh2 dX4_init_9 gf_RX4_9_3_0 (by decide) gkN_3_0 gkR_3_0 (Or.inr ⟨rfl, rfl, rfl⟩) ?_
  refine gx_aload_n dX4_init_12 rfl 0 rfl ?_
  refine gy_bipush dX4_init_13 gcb_120 ?_
  refine gx_bE e (fun _ gh3 e => ?_)
  refine gx_nE e (fun h3 hh3 e => ?_)
  refine gy_newa1 (N := 120) gh3 hh3 dX4_init_15 gw_65 (by decide +kernel) (by decide +kernel) (by decide) rfl (kc2 := 2) (ks2 := 144) ⟨rfl, rfl⟩ ⟨Nat.le_of_ble_eq_true rfl, Nat.le_of_ble_eq_true rfl⟩ ?_
  refine gx_bE e (fun h4 hh4 e => ?_)
  refine gy_qR hh4 dX4_init_17 gf_RX4_15_3_1 (by decide) gkN_3_1 gkR_3_1 (Or.inr ⟨rfl, rfl, rfl⟩) ?_
  refine gx_aload_n dX4_init_20 rfl 0 rfl ?_
  refine gy_bipush dX4_init_21 gcb_24 ?_
  refine gx_bE e (fun _ gh5 e => ?_)
  refine gx_nE e (fun h5 hh5 e => ?_)
  refine gy_newa1 (N := 24) gh5 hh5 dX4_init_23 gw_65 (by decide +kernel) (by decide +kernel) (by decide) rfl (kc2 := 3) (ks2 := 168) ⟨rfl, rfl⟩ ⟨Nat.le_of_ble_eq_true rfl, Nat.le_of_ble_eq_true rfl⟩ ?_
  refine gx_bE e (fun h6 hh6 e => ?_)
  refine gy_qR hh6 dX4_init_25 gf_RX4_18_3_2 (by decide) gkN_3_2 gkR_3_2 (Or.inr ⟨rfl, rfl, rfl⟩) ?_
  refine gx_aload_n dX4_init_28 rfl 0 rfl ?_
  refine gy_bipush dX4_init_29 gcb_24 ?_
  refine gx_bE e (fun _ gh7 e => ?_)
  refine gx_nE e (fun h7 hh7 e => ?_)
  refine gy_newa5 (N := 24) gh7 hh7 dX4_init_31 gw_49 (by decide +kernel) (by decide +kernel) (by decide) rfl (kc2 := 4) (ks2 := 192) ⟨rfl, rfl⟩ ⟨Nat.le_of_ble_eq_true rfl, Nat.le_of_ble_eq_true rfl⟩ ?_
  refine gx_bE e (fun h8 hh8 e => ?_)
  refine gy_qR hh8 dX4_init_34 gf_RX4_23_3_4 (by decide) gkN_3_4 gkR_3_4 (Or.inr ⟨rfl, rfl, rfl⟩) ?_
  refine gx_aload_n dX4_init_37 rfl 0 rfl ?_
  refine gy_bipush dX4_init_38 gcb_24 ?_
  refine gx_bE e (fun _ gh9 e => ?_)
  refine gx_nE e (fun h9 hh9 e => ?_)
  refine gy_newa1 (N := 24) gh9 hh9 dX4_init_40 gw_65 (by decide +kernel) (by decide +kernel) (by decide) rfl (kc2 := 5) (ks2 := 216) ⟨rfl, rfl⟩ ⟨Nat.le_of_ble_eq_true rfl, Nat.le_of_ble_eq_true rfl⟩ ?_
  refine gx_bE e (fun h10 hh10 e => ?_)
  refine gy_qR hh10 dX4_init_42 gf_RX4_27_3_5 (by decide) gkN_3_5 gkR_3_5 (Or.inr ⟨rfl, rfl, rfl⟩) ?_
  refine gx_aload_n dX4_init_45 rfl 0 rfl ?_
  refine gx_bE e (fun _ gh11 e => ?_)
  refine gx_nE e (fun h11 hh11 e => ?_)
  refine gy_new (ci := 7) gh11 hh11 dX4_init_46 (by decide) gw_49 gw_30 gw_2 rfl (kc2 := 6) (ks2 := 218) ⟨rfl, rfl⟩ ⟨Nat.le_of_ble_eq_true rfl, Nat.le_of_ble_eq_true rfl⟩ ?_
  refine gx_dup dX4_init_49 rfl ?_
  refine gx_bE e (fun q12 hq12 e => ?_)
  refine gx_callIN (n := 0) (st := [.ref (gi_sz h10), .ref v0]) (As := []) (b := (gi_sz h10)) dX4_init_50 (z_X8_init hq12) rfl ⟨rfl, gw_cw_X8_init, gw_2, gp_X8_init, ⟨Nat.le_of_ble_eq_true rfl, Nat.le_of_ble_eq_true rfl⟩⟩ (host := "Grammarsmith") (by decide +kernel) gw_32 rfl rfl ⟨Nat.le_of_ble_eq_true rfl, Nat.le_of_ble_eq_true rfl⟩ (Nat.le_of_ble_eq_true rfl) (gy_k0 (kc2 := 7) (ks2 := 242) ⟨rfl, rfl⟩ ?_) gy_kn
  refine gx_bE e (fun h13 hh13 e => ?_)
  refine gy_qR hh13 dX4_init_53 gf_RX4_31_3_8 (by decide) gkN_3_8 gkR_3_8 (Or.inr ⟨rfl, rfl, rfl⟩) ?_
  refine gx_aload_n dX4_init_56 rfl 0 rfl ?_
  refine gx_bE e (fun _ gh14 e => ?_)
  refine gx_nE e (fun h14 hh14 e => ?_)
  refine gy_new (ci := 6) gh14 hh14 dX4_init_57 (by decide) gw_52 gw_53 gw_4 rfl (kc2 := 8) (ks2 := 244) ⟨rfl, rfl⟩ ⟨Nat.le_of_ble_eq_true rfl, Nat.le_of_ble_eq_true rfl⟩ ?_
  refine gx_dup dX4_init_60 rfl ?_
  refine gx_bE e (fun q15 hq15 e => ?_)
  refine gx_callIN (n := 0) (st := [.ref (gi_sz h13), .ref v0]) (As := []) (b := (gi_sz h13)) dX4_init_61 (z_X7_init hq15) rfl ⟨rfl, gw_cw_X7_init, gw_4, gp_X7_init, ⟨Nat.le_of_ble_eq_true rfl, Nat.le_of_ble_eq_true rfl⟩⟩ (host := "Grammarsmith") (by decide +kernel) gw_55 rfl rfl ⟨Nat.le_of_ble_eq_true rfl, Nat.le_of_ble_eq_true rfl⟩ (Nat.le_of_ble_eq_true rfl) (gy_k0 (kc2 := 9) (ks2 := 268) ⟨rfl, rfl⟩ ?_) gy_kn
  refine gx_bE e (fun h16 hh16 e => ?_)
  refine gy_qR hh16 dX4_init_64 gf_RX4_38_3_9 (by decide) gkN_3_9 gkR_3_9 (Or.inr ⟨rfl, rfl, rfl⟩) ?_
  refine gy_iconst dX4_init_67 ?_
  refine gx_istore_n (ls2 := [(1, .int (gI (0 : Int))), (0, .ref v0)]) dX4_init_68 rfl (Nat.le_of_ble_eq_true rfl) rfl ?_
  refine gx_sub (ls2 := [(0, .ref v0), (1, .int (gI (0 : Int)))]) [1, 0] rfl ?_
  exact zl_X4_init_69  30 9 268 _ _ _ (Nat.le_of_ble_eq_true rfl) (Nat.le_of_ble_eq_true rfl) e
/-! J7_fill_53178  -/
set_option maxRecDepth 100000 in
def b_J7_fill_53178_5 (n : Nat) (r5 : Nat → Int → Int → Int → gi_H → Option (gi_H)) (v0 : Nat) (v1 : Int) (v2 : Int) (v3 : Int)  (h : gi_H) : Option (gi_H) :=
  Option.bind (gi_rg v2) fun _ => Option.bind (gi_rg v3) fun _ => if v3 ≤ v2 then (some h) else (Option.bind (gi_s1 h v0 v2 v1) fun h5 => gx_nm (v2 + (1 : Int)) fun t6 => r5 v0 v1 t6 v3 h5)
set_option maxRecDepth 100000 in
theorem zb_J7_fill_53178_5 {al : Bool} {n : Nat} {r5 : Nat → Int → Int → Int → gi_H → Option (gi_H)} {h1 : gi_H} (hr5 : ∀ (x0 : Nat) (x1 : Int) (x2 : Int) (x3 : Int) (hh : gi_H), r5 x0 x1 x2 x3 hh = some h1 → gx_Z mJ7_fill_53178 al al 0 0 5 [(0, .ref x0), (1, .int (gI x1)), (2, .int (gI x2)), (3, .int (gI x3))] [] (gi_cv hh) (.inl none) (gi_cv h1)) {v0 : Nat} {v1 : Int} {v2 : Int} {v3 : Int}  {h : gi_H} (e : b_J7_fill_53178_5 n r5 v0 v1 v2 v3 h = some h1) : gx_Z mJ7_fill_53178 al al 0 0 5 [(0, .ref v0), (1, .int (gI v1)), (2, .int (gI v2)), (3, .int (gI v3))] [] (gi_cv h) (.inl none) (gi_cv h1) := by
  refine gx_iload_n dJ7_fill_53178_5 rfl 2 rfl ?_
  refine gx_iload_n dJ7_fill_53178_6 rfl 3 rfl ?_
  refine gx_bE e (fun _ g2 e => ?_)
  refine gx_bE e (fun _ g3 e => ?_)
  refine gx_iE e (fun c4 e => ?_) (fun c4 e => ?_)
  · refine gy_icmp_ge (tgt := 20) (gi_rgS g2) (gi_rgS g3) dJ7_fill_53178_7 (by decide) (fun _ => ?_) (fun z => absurd c4 z)
    cases e
    exact gx_vret dJ7_fill_53178_20 rfl ⟨Nat.le_of_ble_eq_true rfl, Nat.le_of_ble_eq_true rfl⟩ (fun z => z)
  · refine gy_icmp_ge (tgt := 20) (gi_rgS g2) (gi_rgS g3) dJ7_fill_53178_7 (by decide) (fun z => absurd z c4) (fun _ => ?_)
    refine gx_aload_n dJ7_fill_53178_10 rfl 0 rfl ?_
    refine gx_iload_n dJ7_fill_53178_11 rfl 2 rfl ?_
    refine gx_iload_n dJ7_fill_53178_12 rfl 1 rfl ?_
    refine gx_bE e (fun h5 hh5 e => ?_)
    refine gy_t1 hh5 dJ7_fill_53178_13 ?_
    refine gx_nE e (fun t6 ht6 e => ?_)
    refine gy_iinc (v := t6) (ls2 := [(2, .int (gI t6)), (0, .ref v0), (1, .int (gI v1)), (3, .int (gI v3))]) dJ7_fill_53178_14 2 rfl ht6 (Nat.le_of_ble_eq_true rfl) rfl ?_
    refine gx_goto (tgt := 5) dJ7_fill_53178_17 (by decide) ?_
    refine gx_sub (ls2 := [(0, .ref v0), (1, .int (gI v1)), (2, .int (gI t6)), (3, .int (gI v3))]) [1, 2, 0, 3] rfl ?_
    exact hr5 _ _ _ _ _ e
def l_J7_fill_53178_5 (n : Nat)  : Nat → Nat → Int → Int → Int → gi_H → Option (gi_H)
  | 0, _, _, _, _, _ => none
  | k + 1, v0, v1, v2, v3, h => b_J7_fill_53178_5 n  (l_J7_fill_53178_5 n  k) v0 v1 v2 v3 h
theorem zl_J7_fill_53178_5 {al : Bool} {n : Nat}  {h1 : gi_H}  : ∀ (k : Nat) (v0 : Nat) (v1 : Int) (v2 : Int) (v3 : Int) (h : gi_H), l_J7_fill_53178_5 n  k v0 v1 v2 v3 h = some h1 → gx_Z mJ7_fill_53178 al al 0 0 5 [(0, .ref v0), (1, .int (gI v1)), (2, .int (gI v2)), (3, .int (gI v3))] [] (gi_cv h) (.inl none) (gi_cv h1)
  | 0, _, _, _, _, _, e => gx_0E e
  | k + 1, _, _, _, _, _, e => zb_J7_fill_53178_5 (n := n)  (zl_J7_fill_53178_5  k) e
set_option maxRecDepth 100000 in
def f_J7_fill_53178 (n : Nat) (v0 : Nat) (v1 : Int) (h : gi_H) : Option (gi_H) :=
  Option.bind (gi_ln h v0) fun t1 => l_J7_fill_53178_5 n  n v0 v1 (0 : Int) t1 h
set_option maxRecDepth 100000 in
theorem z_J7_fill_53178 {al : Bool} {n : Nat} {v0 : Nat} {v1 : Int} {h : gi_H} {h1 : gi_H} (e : f_J7_fill_53178 n v0 v1 h = some h1) : gx_Cw mJ7_fill_53178 al [.ref v0, .int (gI v1)] (gi_cv h) (.inl none) (gi_cv h1) := by
  refine gx_enter (by decide +kernel) rfl (Nat.le_of_ble_eq_true rfl) ?_
  show gx_Z mJ7_fill_53178 al al 0 0 0 [(0, .ref v0), (1, .int (gI v1))] [] (gi_cv h) (.inl none) (gi_cv h1)
  refine gy_iconst dJ7_fill_53178_0 ?_
  refine gx_istore_n (ls2 := [(2, .int (gI (0 : Int))), (0, .ref v0), (1, .int (gI v1))]) dJ7_fill_53178_1 rfl (Nat.le_of_ble_eq_true rfl) rfl ?_
  refine gx_aload_n dJ7_fill_53178_2 rfl 1 rfl ?_
  refine gx_bE e (fun t1 ht1 e => ?_)
  refine gy_al0 ht1 dJ7_fill_53178_3 ?_
  refine gx_istore_n (ls2 := [(3, .int (gI t1)), (2, .int (gI (0 : Int))), (0, .ref v0), (1, .int (gI v1))]) dJ7_fill_53178_4 rfl (Nat.le_of_ble_eq_true rfl) rfl ?_
  refine gx_sub (ls2 := [(0, .ref v0), (1, .int (gI v1)), (2, .int (gI (0 : Int))), (3, .int (gI t1))]) [2, 3, 1, 0] rfl ?_
  exact zl_J7_fill_53178_5  n _ _ _ _ _ e
/-! X3_init  -/
set_option maxRecDepth 100000 in
def f_X3_init (v0 : Nat) (v1 : Nat) (h : gi_H) : Option (gi_H) :=
  Option.bind (gi_mk h) fun _ => gx_nm (gi_nw h (1, 32)) fun h1 => Option.bind (gi_pR h1 v0 2 5 (gi_sz h)) fun h2 => Option.bind (gi_mk h2) fun _ => gx_nm (gi_nw h2 (1, 16)) fun h3 => Option.bind (gi_pR h3 v0 2 6 (gi_sz h2)) fun h4 => Option.bind (gi_mk h4) fun _ => gx_nm (gi_nw h4 (1, 24)) fun h5 => Option.bind (gi_pR h5 v0 2 7 (gi_sz h4)) fun h6 => Option.bind (gi_mk h6) fun _ => gx_nm (gi_nw h6 (1, 32)) fun h7 => Option.bind (gi_pR h7 v0 2 8 (gi_sz h6)) fun h8 => Option.bind (gi_mk h8) fun _ => gx_nm (gi_nw h8 (2, 32)) fun h9 => Option.bind (gi_pR h9 v0 2 9 (gi_sz h8)) fun h10 => Option.bind (gi_mk h10) fun _ => gx_nm (gi_nw h10 (1, 16)) fun h11 => Option.bind (gi_pR h11 v0 2 11 (gi_sz h10)) fun h12 => Option.bind (gi_mk h12) fun _ => gx_nm (gi_nw h12 (1, 150)) fun h13 => Option.bind (gi_pR h13 v0 2 12 (gi_sz h12)) fun h14 => Option.bind (gi_mk h14) fun _ => gx_nm (gi_nw h14 (1, 150)) fun h15 => Option.bind (gi_pR h15 v0 2 13 (gi_sz h14)) fun h16 => Option.bind (gi_pR h16 v0 2 0 v1) fun h17 => some h17
set_option maxRecDepth 100000 in
theorem z_X3_init {v0 : Nat} {v1 : Nat} {h : gi_H} {h1 : gi_H} (e : f_X3_init v0 v1 h = some h1) : gx_Cw mX3_init true [.ref v0, .ref v1] (gi_cv h) (.inl none) (gi_cv h1) := by
  refine gx_enter (by decide +kernel) rfl (Nat.le_of_ble_eq_true rfl) ?_
  show gx_Z mX3_init true true 0 0 0 [(0, .ref v0), (1, .ref v1)] [] (gi_cv h) (.inl none) (gi_cv h1)
  refine gx_aload_n dX3_init_0 rfl 0 rfl ?_
  refine gx_obj dX3_init_1 gw_105 gw_27 gw_28 (Nat.le_of_ble_eq_true rfl) (Nat.le_of_ble_eq_true rfl) ?_
  refine gx_aload_n dX3_init_4 rfl 0 rfl ?_
  refine gy_bipush dX3_init_5 gcb_32 ?_
  refine gx_bE e (fun _ gh1 e => ?_)
  refine gx_nE e (fun h1 hh1 e => ?_)
  refine gy_newa1 (N := 32) gh1 hh1 dX3_init_7 gw_65 (by decide +kernel) (by decide +kernel) (by decide) rfl (kc2 := 1) (ks2 := 32) ⟨rfl, rfl⟩ ⟨Nat.le_of_ble_eq_true rfl, Nat.le_of_ble_eq_true rfl⟩ ?_
  refine gx_bE e (fun h2 hh2 e => ?_)
  refine gy_qR hh2 dX3_init_9 gf_RX3_9_2_5 (by decide) gkN_2_5 gkR_2_5 (Or.inr ⟨rfl, rfl, rfl⟩) ?_
  refine gx_aload_n dX3_init_12 rfl 0 rfl ?_
  refine gy_bipush dX3_init_13 gcb_16 ?_
  refine gx_bE e (fun _ gh3 e => ?_)
  refine gx_nE e (fun h3 hh3 e => ?_)
  refine gy_newa1 (N := 16) gh3 hh3 dX3_init_15 gw_65 (by decide +kernel) (by decide +kernel) (by decide) rfl (kc2 := 2) (ks2 := 48) ⟨rfl, rfl⟩ ⟨Nat.le_of_ble_eq_true rfl, Nat.le_of_ble_eq_true rfl⟩ ?_
  refine gx_bE e (fun h4 hh4 e => ?_)
  refine gy_qR hh4 dX3_init_17 gf_RX3_15_2_6 (by decide) gkN_2_6 gkR_2_6 (Or.inr ⟨rfl, rfl, rfl⟩) ?_
  refine gx_aload_n dX3_init_20 rfl 0 rfl ?_
  refine gy_bipush dX3_init_21 gcb_24 ?_
  refine gx_bE e (fun _ gh5 e => ?_)
  refine gx_nE e (fun h5 hh5 e => ?_)
  refine gy_newa1 (N := 24) gh5 hh5 dX3_init_23 gw_65 (by decide +kernel) (by decide +kernel) (by decide) rfl (kc2 := 3) (ks2 := 72) ⟨rfl, rfl⟩ ⟨Nat.le_of_ble_eq_true rfl, Nat.le_of_ble_eq_true rfl⟩ ?_
  refine gx_bE e (fun h6 hh6 e => ?_)
  refine gy_qR hh6 dX3_init_25 gf_RX3_18_2_7 (by decide) gkN_2_7 gkR_2_7 (Or.inr ⟨rfl, rfl, rfl⟩) ?_
  refine gx_aload_n dX3_init_28 rfl 0 rfl ?_
  refine gy_bipush dX3_init_29 gcb_32 ?_
  refine gx_bE e (fun _ gh7 e => ?_)
  refine gx_nE e (fun h7 hh7 e => ?_)
  refine gy_newa1 (N := 32) gh7 hh7 dX3_init_31 gw_65 (by decide +kernel) (by decide +kernel) (by decide) rfl (kc2 := 4) (ks2 := 104) ⟨rfl, rfl⟩ ⟨Nat.le_of_ble_eq_true rfl, Nat.le_of_ble_eq_true rfl⟩ ?_
  refine gx_bE e (fun h8 hh8 e => ?_)
  refine gy_qR hh8 dX3_init_33 gf_RX3_21_2_8 (by decide) gkN_2_8 gkR_2_8 (Or.inr ⟨rfl, rfl, rfl⟩) ?_
  refine gx_aload_n dX3_init_36 rfl 0 rfl ?_
  refine gy_bipush dX3_init_37 gcb_32 ?_
  refine gx_bE e (fun _ gh9 e => ?_)
  refine gx_nE e (fun h9 hh9 e => ?_)
  refine gy_newa2 (N := 32) gh9 hh9 dX3_init_39 gw_149 (by decide +kernel) (by decide +kernel) (by decide) rfl (kc2 := 5) (ks2 := 136) ⟨rfl, rfl⟩ ⟨Nat.le_of_ble_eq_true rfl, Nat.le_of_ble_eq_true rfl⟩ ?_
  refine gx_bE e (fun h10 hh10 e => ?_)
  refine gy_qR hh10 dX3_init_41 gf_RX3_24_2_9 (by decide) gkN_2_9 gkR_2_9 (Or.inr ⟨rfl, rfl, rfl⟩) ?_
  refine gx_aload_n dX3_init_44 rfl 0 rfl ?_
  refine gy_bipush dX3_init_45 gcb_16 ?_
  refine gx_bE e (fun _ gh11 e => ?_)
  refine gx_nE e (fun h11 hh11 e => ?_)
  refine gy_newa1 (N := 16) gh11 hh11 dX3_init_47 gw_65 (by decide +kernel) (by decide +kernel) (by decide) rfl (kc2 := 6) (ks2 := 152) ⟨rfl, rfl⟩ ⟨Nat.le_of_ble_eq_true rfl, Nat.le_of_ble_eq_true rfl⟩ ?_
  refine gx_bE e (fun h12 hh12 e => ?_)
  refine gy_qR hh12 dX3_init_49 gf_RX3_28_2_11 (by decide) gkN_2_11 gkR_2_11 (Or.inr ⟨rfl, rfl, rfl⟩) ?_
  refine gx_aload_n dX3_init_52 rfl 0 rfl ?_
  refine gy_sipush dX3_init_53 gcs_150 ?_
  refine gx_bE e (fun _ gh13 e => ?_)
  refine gx_nE e (fun h13 hh13 e => ?_)
  refine gy_newa1 (N := 150) gh13 hh13 dX3_init_56 gw_65 (by decide +kernel) (by decide +kernel) (by decide) rfl (kc2 := 7) (ks2 := 302) ⟨rfl, rfl⟩ ⟨Nat.le_of_ble_eq_true rfl, Nat.le_of_ble_eq_true rfl⟩ ?_
  refine gx_bE e (fun h14 hh14 e => ?_)
  refine gy_qR hh14 dX3_init_58 gf_RX3_31_2_12 (by decide) gkN_2_12 gkR_2_12 (Or.inr ⟨rfl, rfl, rfl⟩) ?_
  refine gx_aload_n dX3_init_61 rfl 0 rfl ?_
  refine gy_sipush dX3_init_62 gcs_150 ?_
  refine gx_bE e (fun _ gh15 e => ?_)
  refine gx_nE e (fun h15 hh15 e => ?_)
  refine gy_newa1 (N := 150) gh15 hh15 dX3_init_65 gw_65 (by decide +kernel) (by decide +kernel) (by decide) rfl (kc2 := 8) (ks2 := 452) ⟨rfl, rfl⟩ ⟨Nat.le_of_ble_eq_true rfl, Nat.le_of_ble_eq_true rfl⟩ ?_
  refine gx_bE e (fun h16 hh16 e => ?_)
  refine gy_qR hh16 dX3_init_67 gf_RX3_34_2_13 (by decide) gkN_2_13 gkR_2_13 (Or.inr ⟨rfl, rfl, rfl⟩) ?_
  refine gx_aload_n dX3_init_70 rfl 0 rfl ?_
  refine gx_aload_n dX3_init_71 rfl 1 rfl ?_
  refine gx_bE e (fun h17 hh17 e => ?_)
  refine gy_qR hh17 dX3_init_72 gf_RX3_37_2_0 (by decide) gkN_2_0 gkR_2_0 (Or.inl rfl) ?_
  cases e
  exact gx_vret dX3_init_75 rfl ⟨Nat.le_of_ble_eq_true rfl, Nat.le_of_ble_eq_true rfl⟩ (fun z => z)
/-! X0_init  -/
set_option maxRecDepth 100000 in
def f_X0_init (v0 : Nat) (v1 : Nat) (v2 : Int) (h : gi_H) : Option (gi_H) :=
  Option.bind (gi_mk h) fun _ => gx_nm (gi_nw h (1, 12000)) fun h1 => Option.bind (gi_pR h1 v0 0 5 (gi_sz h)) fun h2 => Option.bind (gi_mk h2) fun _ => gx_nm (gi_nw h2 (1, 2560)) fun h3 => Option.bind (gi_pR h3 v0 0 6 (gi_sz h2)) fun h4 => Option.bind (gi_mk h4) fun _ => gx_nm (gi_nw h4 (1, 80)) fun h5 => Option.bind (gi_pR h5 v0 0 7 (gi_sz h4)) fun h6 => Option.bind (gi_mk h6) fun _ => gx_nm (gi_nw h6 (4, 80)) fun h7 => Option.bind (gi_pR h7 v0 0 8 (gi_sz h6)) fun h8 => Option.bind (gi_mk h8) fun _ => gx_nm (gi_nw h8 (1, 150)) fun h9 => Option.bind (gi_pR h9 v0 0 9 (gi_sz h8)) fun h10 => Option.bind (gi_pR h10 v0 0 0 v1) fun h11 => Option.bind (gi_pZ h11 v0 0 1 v2) fun h12 => some h12
set_option maxRecDepth 100000 in
theorem z_X0_init {v0 : Nat} {v1 : Nat} {v2 : Int} {h : gi_H} {h1 : gi_H} (e : f_X0_init v0 v1 v2 h = some h1) : gx_Cw mX0_init true [.ref v0, .ref v1, .int (gI v2)] (gi_cv h) (.inl none) (gi_cv h1) := by
  refine gx_enter (by decide +kernel) rfl (Nat.le_of_ble_eq_true rfl) ?_
  show gx_Z mX0_init true true 0 0 0 [(0, .ref v0), (1, .ref v1), (2, .int (gI v2))] [] (gi_cv h) (.inl none) (gi_cv h1)
  refine gx_aload_n dX0_init_0 rfl 0 rfl ?_
  refine gx_obj dX0_init_1 gw_155 gw_27 gw_28 (Nat.le_of_ble_eq_true rfl) (Nat.le_of_ble_eq_true rfl) ?_
  refine gx_aload_n dX0_init_4 rfl 0 rfl ?_
  refine gy_sipush dX0_init_5 gcs_12000 ?_
  refine gx_bE e (fun _ gh1 e => ?_)
  refine gx_nE e (fun h1 hh1 e => ?_)
  refine gy_newa1 (N := 12000) gh1 hh1 dX0_init_8 gw_65 (by decide +kernel) (by decide +kernel) (by decide) rfl (kc2 := 1) (ks2 := 12000) ⟨rfl, rfl⟩ ⟨Nat.le_of_ble_eq_true rfl, Nat.le_of_ble_eq_true rfl⟩ ?_
  refine gx_bE e (fun h2 hh2 e => ?_)
  refine gy_qR hh2 dX0_init_10 gf_RX0_9_0_5 (by decide) gkN_0_5 gkR_0_5 (Or.inr ⟨rfl, rfl, rfl⟩) ?_
  refine gx_aload_n dX0_init_13 rfl 0 rfl ?_
  refine gy_sipush dX0_init_14 gcs_2560 ?_
  refine gx_bE e (fun _ gh3 e => ?_)
  refine gx_nE e (fun h3 hh3 e => ?_)
  refine gy_newa1 (N := 2560) gh3 hh3 dX0_init_17 gw_65 (by decide +kernel) (by decide +kernel) (by decide) rfl (kc2 := 2) (ks2 := 14560) ⟨rfl, rfl⟩ ⟨Nat.le_of_ble_eq_true rfl, Nat.le_of_ble_eq_true rfl⟩ ?_
  refine gx_bE e (fun h4 hh4 e => ?_)
  refine gy_qR hh4 dX0_init_19 gf_RX0_15_0_6 (by decide) gkN_0_6 gkR_0_6 (Or.inr ⟨rfl, rfl, rfl⟩) ?_
  refine gx_aload_n dX0_init_22 rfl 0 rfl ?_
  refine gy_bipush dX0_init_23 gcb_80 ?_
  refine gx_bE e (fun _ gh5 e => ?_)
  refine gx_nE e (fun h5 hh5 e => ?_)
  refine gy_newa1 (N := 80) gh5 hh5 dX0_init_25 gw_65 (by decide +kernel) (by decide +kernel) (by decide) rfl (kc2 := 3) (ks2 := 14640) ⟨rfl, rfl⟩ ⟨Nat.le_of_ble_eq_true rfl, Nat.le_of_ble_eq_true rfl⟩ ?_
  refine gx_bE e (fun h6 hh6 e => ?_)
  refine gy_qR hh6 dX0_init_27 gf_RX0_18_0_7 (by decide) gkN_0_7 gkR_0_7 (Or.inr ⟨rfl, rfl, rfl⟩) ?_
  refine gx_aload_n dX0_init_30 rfl 0 rfl ?_
  refine gy_bipush dX0_init_31 gcb_80 ?_
  refine gx_bE e (fun _ gh7 e => ?_)
  refine gx_nE e (fun h7 hh7 e => ?_)
  refine gy_newa4 (N := 80) gh7 hh7 dX0_init_33 gw_187 (by decide +kernel) (by decide +kernel) (by decide) rfl (kc2 := 4) (ks2 := 14720) ⟨rfl, rfl⟩ ⟨Nat.le_of_ble_eq_true rfl, Nat.le_of_ble_eq_true rfl⟩ ?_
  refine gx_bE e (fun h8 hh8 e => ?_)
  refine gy_qR hh8 dX0_init_35 gf_RX0_21_0_8 (by decide) gkN_0_8 gkR_0_8 (Or.inr ⟨rfl, rfl, rfl⟩) ?_
  refine gx_aload_n dX0_init_38 rfl 0 rfl ?_
  refine gy_sipush dX0_init_39 gcs_150 ?_
  refine gx_bE e (fun _ gh9 e => ?_)
  refine gx_nE e (fun h9 hh9 e => ?_)
  refine gy_newa1 (N := 150) gh9 hh9 dX0_init_42 gw_65 (by decide +kernel) (by decide +kernel) (by decide) rfl (kc2 := 5) (ks2 := 14870) ⟨rfl, rfl⟩ ⟨Nat.le_of_ble_eq_true rfl, Nat.le_of_ble_eq_true rfl⟩ ?_
  refine gx_bE e (fun h10 hh10 e => ?_)
  refine gy_qR hh10 dX0_init_44 gf_RX0_25_0_9 (by decide) gkN_0_9 gkR_0_9 (Or.inr ⟨rfl, rfl, rfl⟩) ?_
  refine gx_aload_n dX0_init_47 rfl 0 rfl ?_
  refine gx_aload_n dX0_init_48 rfl 1 rfl ?_
  refine gx_bE e (fun h11 hh11 e => ?_)
  refine gy_qR hh11 dX0_init_49 gf_RX0_28_0_0 (by decide) gkN_0_0 gkR_0_0 (Or.inr ⟨rfl, rfl, rfl⟩) ?_
  refine gx_aload_n dX0_init_52 rfl 0 rfl ?_
  refine gx_iload_n dX0_init_53 rfl 2 rfl ?_
  refine gx_bE e (fun h12 hh12 e => ?_)
  refine gy_qZ hh12 dX0_init_54 gf_RX0_32_0_1 (by decide) gkN_0_1 rfl (Or.inr ⟨rfl, rfl, rfl⟩) ?_
  cases e
  exact gx_vret dX0_init_57 rfl ⟨Nat.le_of_ble_eq_true rfl, Nat.le_of_ble_eq_true rfl⟩ (fun z => z)
/-! X10_init 4 -/
set_option maxRecDepth 100000 in
def f_X10_init_4 (v0 : Nat) (h : gi_H) : Option (gi_H) :=
  some h
set_option maxRecDepth 100000 in
theorem z_X10_init_4 {al : Bool} {v0 : Nat} {h : gi_H} {h1 : gi_H} (e : f_X10_init_4 v0 h = some h1) : gx_Cw mX10_init al [.ref v0] (gi_cv h) (.inl none) (gi_cv h1) := by
  refine gx_enter (by decide +kernel) rfl (Nat.le_of_ble_eq_true rfl) ?_
  show gx_Z mX10_init al al 0 0 0 [(0, .ref v0)] [] (gi_cv h) (.inl none) (gi_cv h1)
  refine gx_aload_n dX10_init_0 rfl 0 rfl ?_
  refine gx_obj dX10_init_1 gw_196 gw_27 gw_28 (Nat.le_of_ble_eq_true rfl) (Nat.le_of_ble_eq_true rfl) ?_
  cases e
  exact gx_vret dX10_init_4 rfl ⟨Nat.le_of_ble_eq_true rfl, Nat.le_of_ble_eq_true rfl⟩ (fun z => z)
/-! X5_init  -/
set_option maxRecDepth 100000 in
def f_X5_init (v0 : Nat) (v1 : Nat) (v2 : Nat) (h : gi_H) : Option (gi_H) :=
  Option.bind (f_X10_init_4 v0 h) fun q1 => Option.bind (gi_mk q1) fun _ => gx_nm (gi_nw q1 (1, 1501)) fun h2 => Option.bind (gi_pR h2 v0 4 3 (gi_sz q1)) fun h3 => Option.bind (gi_mk h3) fun _ => gx_nm (gi_nw h3 (1, 300)) fun h4 => Option.bind (gi_pR h4 v0 4 5 (gi_sz h3)) fun h5 => Option.bind (gi_pR h5 v0 4 1 v1) fun h6 => Option.bind (gi_pR h6 v0 4 2 v2) fun h7 => some h7
set_option maxRecDepth 100000 in
theorem z_X5_init {v0 : Nat} {v1 : Nat} {v2 : Nat} {h : gi_H} {h1 : gi_H} (e : f_X5_init v0 v1 v2 h = some h1) : gx_Cw mX5_init true [.ref v0, .ref v1, .ref v2] (gi_cv h) (.inl none) (gi_cv h1) := by
  refine gx_enter (by decide +kernel) rfl (Nat.le_of_ble_eq_true rfl) ?_
  show gx_Z mX5_init true true 0 0 0 [(0, .ref v0), (1, .ref v1), (2, .ref v2)] [] (gi_cv h) (.inl none) (gi_cv h1)
  refine gx_aload_n dX5_init_0 rfl 0 rfl ?_
  refine gx_bE e (fun q1 hq1 e => ?_)
  refine gx_callIN (n := 0) (st := []) (As := []) (b := v0) dX5_init_1 (z_X10_init_4 hq1) rfl ⟨rfl, gw_cw_X10_init, gw_8, gp_X10_init, ⟨Nat.le_of_ble_eq_true rfl, Nat.le_of_ble_eq_true rfl⟩⟩ (host := "Grammarsmith") (by decide +kernel) gw_194 rfl rfl ⟨Nat.le_of_ble_eq_true rfl, Nat.le_of_ble_eq_true rfl⟩ (Nat.le_of_ble_eq_true rfl) (gy_k0 (kc2 := 0) (ks2 := 0) ⟨rfl, rfl⟩ ?_) gy_kn
  refine gx_aload_n dX5_init_4 rfl 0 rfl ?_
  refine gy_sipush dX5_init_5 gcs_1501 ?_
  refine gx_bE e (fun _ gh2 e => ?_)
  refine gx_nE e (fun h2 hh2 e => ?_)
  refine gy_newa1 (N := 1501) gh2 hh2 dX5_init_8 gw_65 (by decide +kernel) (by decide +kernel) (by decide) rfl (kc2 := 1) (ks2 := 1501) ⟨rfl, rfl⟩ ⟨Nat.le_of_ble_eq_true rfl, Nat.le_of_ble_eq_true rfl⟩ ?_
  refine gx_bE e (fun h3 hh3 e => ?_)
  refine gy_qR hh3 dX5_init_10 gf_RX5_9_4_3 (by decide) gkN_4_3 gkR_4_3 (Or.inr ⟨rfl, rfl, rfl⟩) ?_
  refine gx_aload_n dX5_init_13 rfl 0 rfl ?_
  refine gy_sipush dX5_init_14 gcs_300 ?_
  refine gx_bE e (fun _ gh4 e => ?_)
  refine gx_nE e (fun h4 hh4 e => ?_)
  refine gy_newa1 (N := 300) gh4 hh4 dX5_init_17 gw_65 (by decide +kernel) (by decide +kernel) (by decide) rfl (kc2 := 2) (ks2 := 1801) ⟨rfl, rfl⟩ ⟨Nat.le_of_ble_eq_true rfl, Nat.le_of_ble_eq_true rfl⟩ ?_
  refine gx_bE e (fun h5 hh5 e => ?_)
  refine gy_qR hh5 dX5_init_19 gf_RX5_15_4_5 (by decide) gkN_4_5 gkR_4_5 (Or.inr ⟨rfl, rfl, rfl⟩) ?_
  refine gx_aload_n dX5_init_22 rfl 0 rfl ?_
  refine gx_aload_n dX5_init_23 rfl 1 rfl ?_
  refine gx_bE e (fun h6 hh6 e => ?_)
  refine gy_qR hh6 dX5_init_24 gf_RX5_18_4_1 (by decide) gkN_4_1 gkR_4_1 (Or.inr ⟨rfl, rfl, rfl⟩) ?_
  refine gx_aload_n dX5_init_27 rfl 0 rfl ?_
  refine gx_aload_n dX5_init_28 rfl 2 rfl ?_
  refine gx_bE e (fun h7 hh7 e => ?_)
  refine gy_qR hh7 dX5_init_29 gf_RX5_22_4_2 (by decide) gkN_4_2 gkR_4_2 (Or.inr ⟨rfl, rfl, rfl⟩) ?_
  cases e
  exact gx_vret dX5_init_32 rfl ⟨Nat.le_of_ble_eq_true rfl, Nat.le_of_ble_eq_true rfl⟩ (fun z => z)
/-! X10_init 8 -/
set_option maxRecDepth 100000 in
def f_X10_init_8 (v0 : Nat) (h : gi_H) : Option (gi_H) :=
  some h
set_option maxRecDepth 100000 in
theorem z_X10_init_8 {al : Bool} {v0 : Nat} {h : gi_H} {h1 : gi_H} (e : f_X10_init_8 v0 h = some h1) : gx_Cw mX10_init al [.ref v0] (gi_cv h) (.inl none) (gi_cv h1) := by
  refine gx_enter (by decide +kernel) rfl (Nat.le_of_ble_eq_true rfl) ?_
  show gx_Z mX10_init al al 0 0 0 [(0, .ref v0)] [] (gi_cv h) (.inl none) (gi_cv h1)
  refine gx_aload_n dX10_init_0 rfl 0 rfl ?_
  refine gx_obj dX10_init_1 gw_196 gw_27 gw_28 (Nat.le_of_ble_eq_true rfl) (Nat.le_of_ble_eq_true rfl) ?_
  cases e
  exact gx_vret dX10_init_4 rfl ⟨Nat.le_of_ble_eq_true rfl, Nat.le_of_ble_eq_true rfl⟩ (fun z => z)
/-! X9_init  -/
set_option maxRecDepth 100000 in
def f_X9_init (v0 : Nat) (v1 : Nat) (v2 : Int) (v3 : Nat) (v4 : Nat) (v5 : Nat) (h : gi_H) : Option (gi_H) :=
  Option.bind (f_X10_init_8 v0 h) fun q1 => Option.bind (gi_mk q1) fun _ => gx_nm (gi_nw q1 (1, 301)) fun h2 => Option.bind (gi_pR h2 v0 8 10 (gi_sz q1)) fun h3 => Option.bind (gi_mk h3) fun _ => gx_nm (gi_nw h3 (1, 301)) fun h4 => Option.bind (gi_pR h4 v0 8 11 (gi_sz h3)) fun h5 => Option.bind (gi_pR h5 v0 8 1 v1) fun h6 => Option.bind (gi_pZ h6 v0 8 2 v2) fun h7 => Option.bind (gi_pR h7 v0 8 3 v3) fun h8 => Option.bind (gi_pR h8 v0 8 4 v4) fun h9 => Option.bind (gi_pR h9 v0 8 5 v5) fun h10 => some h10
set_option maxRecDepth 100000 in
theorem z_X9_init {v0 : Nat} {v1 : Nat} {v2 : Int} {v3 : Nat} {v4 : Nat} {v5 : Nat} {h : gi_H} {h1 : gi_H} (e : f_X9_init v0 v1 v2 v3 v4 v5 h = some h1) : gx_Cw mX9_init true [.ref v0, .ref v1, .int (gI v2), .ref v3, .ref v4, .ref v5] (gi_cv h) (.inl none) (gi_cv h1) := by
  refine gx_enter (by decide +kernel) rfl (Nat.le_of_ble_eq_true rfl) ?_
  show gx_Z mX9_init true true 0 0 0 [(0, .ref v0), (1, .ref v1), (2, .int (gI v2)), (3, .ref v3), (4, .ref v4), (5, .ref v5)] [] (gi_cv h) (.inl none) (gi_cv h1)
  refine gx_aload_n dX9_init_0 rfl 0 rfl ?_
  refine gx_bE e (fun q1 hq1 e => ?_)
  refine gx_callIN (n := 0) (st := []) (As := []) (b := v0) dX9_init_1 (z_X10_init_8 hq1) rfl ⟨rfl, gw_cw_X10_init, gw_8, gp_X10_init, ⟨Nat.le_of_ble_eq_true rfl, Nat.le_of_ble_eq_true rfl⟩⟩ (host := "Grammarsmith") (by decide +kernel) gw_194 rfl rfl ⟨Nat.le_of_ble_eq_true rfl, Nat.le_of_ble_eq_true rfl⟩ (Nat.le_of_ble_eq_true rfl) (gy_k0 (kc2 := 0) (ks2 := 0) ⟨rfl, rfl⟩ ?_) gy_kn
  refine gx_aload_n dX9_init_4 rfl 0 rfl ?_
  refine gy_sipush dX9_init_5 gcs_301 ?_
  refine gx_bE e (fun _ gh2 e => ?_)
  refine gx_nE e (fun h2 hh2 e => ?_)
  refine gy_newa1 (N := 301) gh2 hh2 dX9_init_8 gw_65 (by decide +kernel) (by decide +kernel) (by decide) rfl (kc2 := 1) (ks2 := 301) ⟨rfl, rfl⟩ ⟨Nat.le_of_ble_eq_true rfl, Nat.le_of_ble_eq_true rfl⟩ ?_
  refine gx_bE e (fun h3 hh3 e => ?_)
  refine gy_qR hh3 dX9_init_10 gf_RX9_9_8_10 (by decide) gkN_8_10 gkR_8_10 (Or.inr ⟨rfl, rfl, rfl⟩) ?_
  refine gx_aload_n dX9_init_13 rfl 0 rfl ?_
  refine gy_sipush dX9_init_14 gcs_301 ?_
  refine gx_bE e (fun _ gh4 e => ?_)
  refine gx_nE e (fun h4 hh4 e => ?_)
  refine gy_newa1 (N := 301) gh4 hh4 dX9_init_17 gw_65 (by decide +kernel) (by decide +kernel) (by decide) rfl (kc2 := 2) (ks2 := 602) ⟨rfl, rfl⟩ ⟨Nat.le_of_ble_eq_true rfl, Nat.le_of_ble_eq_true rfl⟩ ?_
  refine gx_bE e (fun h5 hh5 e => ?_)
  refine gy_qR hh5 dX9_init_19 gf_RX9_15_8_11 (by decide) gkN_8_11 gkR_8_11 (Or.inr ⟨rfl, rfl, rfl⟩) ?_
  refine gx_aload_n dX9_init_22 rfl 0 rfl ?_
  refine gx_aload_n dX9_init_23 rfl 1 rfl ?_
  refine gx_bE e (fun h6 hh6 e => ?_)
  refine gy_qR hh6 dX9_init_24 gf_RX9_18_8_1 (by decide) gkN_8_1 gkR_8_1 (Or.inr ⟨rfl, rfl, rfl⟩) ?_
  refine gx_aload_n dX9_init_27 rfl 0 rfl ?_
  refine gx_iload_n dX9_init_28 rfl 2 rfl ?_
  refine gx_bE e (fun h7 hh7 e => ?_)
  refine gy_qZ hh7 dX9_init_29 gf_RX9_22_8_2 (by decide) gkN_8_2 rfl (Or.inr ⟨rfl, rfl, rfl⟩) ?_
  refine gx_aload_n dX9_init_32 rfl 0 rfl ?_
  refine gx_aload_n dX9_init_33 rfl 3 rfl ?_
  refine gx_bE e (fun h8 hh8 e => ?_)
  refine gy_qR hh8 dX9_init_34 gf_RX9_26_8_3 (by decide) gkN_8_3 gkR_8_3 (Or.inr ⟨rfl, rfl, rfl⟩) ?_
  refine gx_aload_n dX9_init_37 rfl 0 rfl ?_
  refine gx_aload dX9_init_38 4 rfl ?_
  refine gx_bE e (fun h9 hh9 e => ?_)
  refine gy_qR hh9 dX9_init_40 gf_RX9_29_8_4 (by decide) gkN_8_4 gkR_8_4 (Or.inr ⟨rfl, rfl, rfl⟩) ?_
  refine gx_aload_n dX9_init_43 rfl 0 rfl ?_
  refine gx_aload dX9_init_44 5 rfl ?_
  refine gx_bE e (fun h10 hh10 e => ?_)
  refine gy_qR hh10 dX9_init_46 gf_RX9_32_8_5 (by decide) gkN_8_5 gkR_8_5 (Or.inr ⟨rfl, rfl, rfl⟩) ?_
  cases e
  exact gx_vret dX9_init_49 rfl ⟨Nat.le_of_ble_eq_true rfl, Nat.le_of_ble_eq_true rfl⟩ (fun z => z)
/-! X1_init 1 -/
set_option maxRecDepth 100000 in
def f_X1_init_1 (v0 : Nat) (v1 : Nat) (v2 : Nat) (v3 : Nat) (v4 : Nat) (h : gi_H) : Option (gi_H) :=
  Option.bind (gi_mk h) fun _ => gx_nm (gi_nw h (1, 16)) fun h1 => Option.bind (gi_pR h1 v0 1 4 (gi_sz h)) fun h2 => Option.bind (gi_pR h2 v0 1 0 v1) fun h3 => Option.bind (gi_pR h3 v0 1 1 v2) fun h4 => Option.bind (gi_pR h4 v0 1 2 v3) fun h5 => Option.bind (gi_pR h5 v0 1 3 v4) fun h6 => some h6
set_option maxRecDepth 100000 in
theorem z_X1_init_1 {v0 : Nat} {v1 : Nat} {v2 : Nat} {v3 : Nat} {v4 : Nat} {h : gi_H} {h1 : gi_H} (e : f_X1_init_1 v0 v1 v2 v3 v4 h = some h1) : gx_Cw mX1_init true [.ref v0, .ref v1, .ref v2, .ref v3, .ref v4] (gi_cv h) (.inl none) (gi_cv h1) := by
  refine gx_enter (by decide +kernel) rfl (Nat.le_of_ble_eq_true rfl) ?_
  show gx_Z mX1_init true true 0 0 0 [(0, .ref v0), (1, .ref v1), (2, .ref v2), (3, .ref v3), (4, .ref v4)] [] (gi_cv h) (.inl none) (gi_cv h1)
  refine gx_aload_n dX1_init_0 rfl 0 rfl ?_
  refine gx_obj dX1_init_1 gw_271 gw_27 gw_28 (Nat.le_of_ble_eq_true rfl) (Nat.le_of_ble_eq_true rfl) ?_
  refine gx_aload_n dX1_init_4 rfl 0 rfl ?_
  refine gy_bipush dX1_init_5 gcb_16 ?_
  refine gx_bE e (fun _ gh1 e => ?_)
  refine gx_nE e (fun h1 hh1 e => ?_)
  refine gy_newa1 (N := 16) gh1 hh1 dX1_init_7 gw_65 (by decide +kernel) (by decide +kernel) (by decide) rfl (kc2 := 1) (ks2 := 16) ⟨rfl, rfl⟩ ⟨Nat.le_of_ble_eq_true rfl, Nat.le_of_ble_eq_true rfl⟩ ?_
  refine gx_bE e (fun h2 hh2 e => ?_)
  refine gy_qR hh2 dX1_init_9 gf_RX1_9_1_4 (by decide) gkN_1_4 gkR_1_4 (Or.inr ⟨rfl, rfl, rfl⟩) ?_
  refine gx_aload_n dX1_init_12 rfl 0 rfl ?_
  refine gx_aload_n dX1_init_13 rfl 1 rfl ?_
  refine gx_bE e (fun h3 hh3 e => ?_)
  refine gy_qR hh3 dX1_init_14 gf_RX1_15_1_0 (by decide) gkN_1_0 gkR_1_0 (Or.inr ⟨rfl, rfl, rfl⟩) ?_
  refine gx_aload_n dX1_init_17 rfl 0 rfl ?_
  refine gx_aload_n dX1_init_18 rfl 2 rfl ?_
  refine gx_bE e (fun h4 hh4 e => ?_)
  refine gy_qR hh4 dX1_init_19 gf_RX1_19_1_1 (by decide) gkN_1_1 gkR_1_1 (Or.inr ⟨rfl, rfl, rfl⟩) ?_
  refine gx_aload_n dX1_init_22 rfl 0 rfl ?_
  refine gx_aload_n dX1_init_23 rfl 3 rfl ?_
  refine gx_bE e (fun h5 hh5 e => ?_)
  refine gy_qR hh5 dX1_init_24 gf_RX1_22_1_2 (by decide) gkN_1_2 gkR_1_2 (Or.inr ⟨rfl, rfl, rfl⟩) ?_
  refine gx_aload_n dX1_init_27 rfl 0 rfl ?_
  refine gx_aload dX1_init_28 4 rfl ?_
  refine gx_bE e (fun h6 hh6 e => ?_)
  refine gy_qR hh6 dX1_init_30 gf_RX1_25_1_3 (by decide) gkN_1_3 gkR_1_3 (Or.inr ⟨rfl, rfl, rfl⟩) ?_
  cases e
  exact gx_vret dX1_init_33 rfl ⟨Nat.le_of_ble_eq_true rfl, Nat.le_of_ble_eq_true rfl⟩ (fun z => z)
/-! X2_init  -/
set_option maxRecDepth 100000 in
def f_X2_init (v0 : Nat) (v1 : Nat) (v2 : Nat) (v3 : Nat) (v4 : Nat) (h : gi_H) : Option (gi_H) :=
  Option.bind (f_X1_init_1 v0 v1 v2 v3 v4 h) fun q1 => some q1
set_option maxRecDepth 100000 in
theorem z_X2_init {v0 : Nat} {v1 : Nat} {v2 : Nat} {v3 : Nat} {v4 : Nat} {h : gi_H} {h1 : gi_H} (e : f_X2_init v0 v1 v2 v3 v4 h = some h1) : gx_Cw mX2_init true [.ref v0, .ref v1, .ref v2, .ref v3, .ref v4] (gi_cv h) (.inl none) (gi_cv h1) := by
  refine gx_enter (by decide +kernel) rfl (Nat.le_of_ble_eq_true rfl) ?_
  show gx_Z mX2_init true true 0 0 0 [(0, .ref v0), (1, .ref v1), (2, .ref v2), (3, .ref v3), (4, .ref v4)] [] (gi_cv h) (.inl none) (gi_cv h1)
  refine gx_aload_n dX2_init_0 rfl 0 rfl ?_
  refine gx_aload_n dX2_init_1 rfl 1 rfl ?_
  refine gx_aload_n dX2_init_2 rfl 2 rfl ?_
  refine gx_aload_n dX2_init_3 rfl 3 rfl ?_
  refine gx_aload dX2_init_4 4 rfl ?_
  refine gx_bE e (fun q1 hq1 e => ?_)
  refine gx_callI (n := 4) (st := []) (As := [.ref v1, .ref v2, .ref v3, .ref v4]) (b := v0) dX2_init_6 (z_X1_init_1 hq1) rfl ⟨rfl, gw_cw_X1_init, gw_11, gp_X1_init, ⟨Nat.le_of_ble_eq_true rfl, Nat.le_of_ble_eq_true rfl⟩⟩ gw_268 gw_269 rfl rfl ⟨Nat.le_of_ble_eq_true rfl, Nat.le_of_ble_eq_true rfl⟩ (Nat.le_of_ble_eq_true rfl) (gy_k0 (kc2 := 1) (ks2 := 16) ⟨rfl, rfl⟩ ?_) gy_kn
  cases e
  exact gx_vret dX2_init_9 rfl ⟨Nat.le_of_ble_eq_true rfl, Nat.le_of_ble_eq_true rfl⟩ (fun z => z)
/-! X1_init 5 -/
set_option maxRecDepth 100000 in
def f_X1_init_5 (v0 : Nat) (v1 : Nat) (v2 : Nat) (v3 : Nat) (v4 : Nat) (h : gi_H) : Option (gi_H) :=
  Option.bind (gi_mk h) fun _ => gx_nm (gi_nw h (1, 16)) fun h1 => Option.bind (gi_pR h1 v0 5 4 (gi_sz h)) fun h2 => Option.bind (gi_pR h2 v0 5 0 v1) fun h3 => Option.bind (gi_pR h3 v0 5 1 v2) fun h4 => Option.bind (gi_pR h4 v0 5 2 v3) fun h5 => Option.bind (gi_pR h5 v0 5 3 v4) fun h6 => some h6
set_option maxRecDepth 100000 in
theorem z_X1_init_5 {v0 : Nat} {v1 : Nat} {v2 : Nat} {v3 : Nat} {v4 : Nat} {h : gi_H} {h1 : gi_H} (e : f_X1_init_5 v0 v1 v2 v3 v4 h = some h1) : gx_Cw mX1_init true [.ref v0, .ref v1, .ref v2, .ref v3, .ref v4] (gi_cv h) (.inl none) (gi_cv h1) := by
  refine gx_enter (by decide +kernel) rfl (Nat.le_of_ble_eq_true rfl) ?_
  show gx_Z mX1_init true true 0 0 0 [(0, .ref v0), (1, .ref v1), (2, .ref v2), (3, .ref v3), (4, .ref v4)] [] (gi_cv h) (.inl none) (gi_cv h1)
  refine gx_aload_n dX1_init_0 rfl 0 rfl ?_
  refine gx_obj dX1_init_1 gw_271 gw_27 gw_28 (Nat.le_of_ble_eq_true rfl) (Nat.le_of_ble_eq_true rfl) ?_
  refine gx_aload_n dX1_init_4 rfl 0 rfl ?_
  refine gy_bipush dX1_init_5 gcb_16 ?_
  refine gx_bE e (fun _ gh1 e => ?_)
  refine gx_nE e (fun h1 hh1 e => ?_)
  refine gy_newa1 (N := 16) gh1 hh1 dX1_init_7 gw_65 (by decide +kernel) (by decide +kernel) (by decide) rfl (kc2 := 1) (ks2 := 16) ⟨rfl, rfl⟩ ⟨Nat.le_of_ble_eq_true rfl, Nat.le_of_ble_eq_true rfl⟩ ?_
  refine gx_bE e (fun h2 hh2 e => ?_)
  refine gy_qR hh2 dX1_init_9 gf_RX1_9_5_4 (by decide) gkN_5_4 gkR_5_4 (Or.inr ⟨rfl, rfl, rfl⟩) ?_
  refine gx_aload_n dX1_init_12 rfl 0 rfl ?_
  refine gx_aload_n dX1_init_13 rfl 1 rfl ?_
  refine gx_bE e (fun h3 hh3 e => ?_)
  refine gy_qR hh3 dX1_init_14 gf_RX1_15_5_0 (by decide) gkN_5_0 gkR_5_0 (Or.inr ⟨rfl, rfl, rfl⟩) ?_
  refine gx_aload_n dX1_init_17 rfl 0 rfl ?_
  refine gx_aload_n dX1_init_18 rfl 2 rfl ?_
  refine gx_bE e (fun h4 hh4 e => ?_)
  refine gy_qR hh4 dX1_init_19 gf_RX1_19_5_1 (by decide) gkN_5_1 gkR_5_1 (Or.inr ⟨rfl, rfl, rfl⟩) ?_
  refine gx_aload_n dX1_init_22 rfl 0 rfl ?_
  refine gx_aload_n dX1_init_23 rfl 3 rfl ?_
  refine gx_bE e (fun h5 hh5 e => ?_)
  refine gy_qR hh5 dX1_init_24 gf_RX1_22_5_2 (by decide) gkN_5_2 gkR_5_2 (Or.inr ⟨rfl, rfl, rfl⟩) ?_
  refine gx_aload_n dX1_init_27 rfl 0 rfl ?_
  refine gx_aload dX1_init_28 4 rfl ?_
  refine gx_bE e (fun h6 hh6 e => ?_)
  refine gy_qR hh6 dX1_init_30 gf_RX1_25_5_3 (by decide) gkN_5_3 gkR_5_3 (Or.inr ⟨rfl, rfl, rfl⟩) ?_
  cases e
  exact gx_vret dX1_init_33 rfl ⟨Nat.le_of_ble_eq_true rfl, Nat.le_of_ble_eq_true rfl⟩ (fun z => z)
/-! X6_init  -/
set_option maxRecDepth 100000 in
def f_X6_init (v0 : Nat) (v1 : Nat) (v2 : Nat) (v3 : Nat) (v4 : Nat) (h : gi_H) : Option (gi_H) :=
  Option.bind (f_X1_init_5 v0 v1 v2 v3 v4 h) fun q1 => some q1
set_option maxRecDepth 100000 in
theorem z_X6_init {v0 : Nat} {v1 : Nat} {v2 : Nat} {v3 : Nat} {v4 : Nat} {h : gi_H} {h1 : gi_H} (e : f_X6_init v0 v1 v2 v3 v4 h = some h1) : gx_Cw mX6_init true [.ref v0, .ref v1, .ref v2, .ref v3, .ref v4] (gi_cv h) (.inl none) (gi_cv h1) := by
  refine gx_enter (by decide +kernel) rfl (Nat.le_of_ble_eq_true rfl) ?_
  show gx_Z mX6_init true true 0 0 0 [(0, .ref v0), (1, .ref v1), (2, .ref v2), (3, .ref v3), (4, .ref v4)] [] (gi_cv h) (.inl none) (gi_cv h1)
  refine gx_aload_n dX6_init_0 rfl 0 rfl ?_
  refine gx_aload_n dX6_init_1 rfl 1 rfl ?_
  refine gx_aload_n dX6_init_2 rfl 2 rfl ?_
  refine gx_aload_n dX6_init_3 rfl 3 rfl ?_
  refine gx_aload dX6_init_4 4 rfl ?_
  refine gx_bE e (fun q1 hq1 e => ?_)
  refine gx_callI (n := 4) (st := []) (As := [.ref v1, .ref v2, .ref v3, .ref v4]) (b := v0) dX6_init_6 (z_X1_init_5 hq1) rfl ⟨rfl, gw_cw_X1_init, gw_11, gp_X1_init, ⟨Nat.le_of_ble_eq_true rfl, Nat.le_of_ble_eq_true rfl⟩⟩ gw_293 gw_269 rfl rfl ⟨Nat.le_of_ble_eq_true rfl, Nat.le_of_ble_eq_true rfl⟩ (Nat.le_of_ble_eq_true rfl) (gy_k0 (kc2 := 1) (ks2 := 16) ⟨rfl, rfl⟩ ?_) gy_kn
  cases e
  exact gx_vret dX6_init_9 rfl ⟨Nat.le_of_ble_eq_true rfl, Nat.le_of_ble_eq_true rfl⟩ (fun z => z)
/-! X11_init  -/
set_option maxRecDepth 100000 in
def f_X11_init (n : Nat) (v0 : Nat) (h : gi_H) : Option (gi_H) :=
  Option.bind (gi_mk h) fun _ => gx_nm (gi_nw h (0, 7)) fun h1 => Option.bind (f_X8_init (gi_sz h) h1) fun q2 => Option.bind (gi_pR q2 v0 9 0 (gi_sz h)) fun h3 => Option.bind (gi_mk h3) fun _ => gx_nm (gi_nw h3 (0, 3)) fun h4 => Option.bind (f_X4_init n (gi_sz h3) h4) fun q5 => gx_nm (gi_sz h3) fun t6 => Option.bind (gi_mk q5) fun _ => gx_nm (gi_nw q5 (1, 8)) fun h7 => gx_nm (gi_sz q5) fun t8 => Option.bind (gi_mk h7) fun _ => gx_nm (gi_nw h7 (1, 8)) fun h9 => gx_nm (gi_sz h7) fun t10 => Option.bind (gi_mk h9) fun _ => gx_nm (gi_nw h9 (1, 13)) fun h11 => gx_nm (gi_sz h9) fun t12 => Option.bind (f_J7_fill_53178 n t12 (8 : Int) h11) fun q13 => Option.bind (gi_mk q13) fun _ => gx_nm (gi_nw q13 (0, 2)) fun h14 => Option.bind (f_X3_init (gi_sz q13) t6 h14) fun q15 => gx_nm (gi_sz q13) fun t16 => Option.bind (gi_mk q15) fun _ => gx_nm (gi_nw q15 (0, 0)) fun h17 => Option.bind (f_X0_init (gi_sz q15) t16 (1 : Int) h17) fun q18 => gx_nm (gi_sz q15) fun t19 => Option.bind (gi_mk q18) fun _ => gx_nm (gi_nw q18 (0, 0)) fun h20 => Option.bind (f_X0_init (gi_sz q18) t16 (0 : Int) h20) fun q21 => gx_nm (gi_sz q18) fun t22 => Option.bind (gi_mk q21) fun _ => gx_nm (gi_nw q21 (1, 2704)) fun h23 => gx_nm (gi_sz q21) fun t24 => Option.bind (gi_mk h23) fun _ => gx_nm (gi_nw h23 (1, 25350)) fun h25 => gx_nm (gi_sz h23) fun t26 => Option.bind (gi_pR h25 v0 9 1 t6) fun h27 => Option.bind (gi_mk h27) fun _ => gx_nm (gi_nw h27 (0, 3)) fun h28 => Option.bind (f_X4_init n (gi_sz h27) h28) fun q29 => Option.bind (gi_pR q29 v0 9 2 (gi_sz h27)) fun h30 => Option.bind (gi_pR h30 v0 9 4 t8) fun h31 => Option.bind (gi_pR h31 v0 9 5 t10) fun h32 => Option.bind (gi_pR h32 v0 9 6 t12) fun h33 => Option.bind (gi_pR h33 v0 9 8 t16) fun h34 => Option.bind (gi_pR h34 v0 9 9 t19) fun h35 => Option.bind (gi_pR h35 v0 9 10 t22) fun h36 => Option.bind (gi_mk h36) fun _ => gx_nm (gi_nw h36 (0, 4)) fun h37 => Option.bind (f_X5_init (gi_sz h36) t16 t12 h37) fun q38 => Option.bind (gi_pR q38 v0 9 11 (gi_sz h36)) fun h39 => Option.bind (gi_mk h39) fun _ => gx_nm (gi_nw h39 (0, 8)) fun h40 => Option.bind (f_X9_init (gi_sz h39) t19 (1 : Int) t8 t10 t12 h40) fun q41 => Option.bind (gi_pR q41 v0 9 12 (gi_sz h39)) fun h42 => Option.bind (gi_mk h42) fun _ => gx_nm (gi_nw h42 (0, 8)) fun h43 => Option.bind (f_X9_init (gi_sz h42) t19 (0 : Int) t8 t10 t12 h43) fun q44 => Option.bind (gi_pR q44 v0 9 13 (gi_sz h42)) fun h45 => Option.bind (gi_mk h45) fun _ => gx_nm (gi_nw h45 (0, 8)) fun h46 => Option.bind (f_X9_init (gi_sz h45) t22 (0 : Int) t8 t10 t12 h46) fun q47 => Option.bind (gi_pR q47 v0 9 14 (gi_sz h45)) fun h48 => Option.bind (gi_mk h48) fun _ => gx_nm (gi_nw h48 (0, 1)) fun h49 => Option.bind (f_X2_init (gi_sz h48) t16 t12 t24 t26 h49) fun q50 => Option.bind (gi_pR q50 v0 9 15 (gi_sz h48)) fun h51 => Option.bind (gi_mk h51) fun _ => gx_nm (gi_nw h51 (0, 5)) fun h52 => Option.bind (f_X6_init (gi_sz h51) t16 t12 t24 t26 h52) fun q53 => Option.bind (gi_pR q53 v0 9 16 (gi_sz h51)) fun h54 => some h54
set_option maxRecDepth 100000 in
theorem z_X11_init {n : Nat} {v0 : Nat} {h : gi_H} {h1 : gi_H} (e : f_X11_init n v0 h = some h1) : gx_Cw mX11_init true [.ref v0] (gi_cv h) (.inl none) (gi_cv h1) := by
  refine gx_enter (by decide +kernel) rfl (Nat.le_of_ble_eq_true rfl) ?_
  show gx_Z mX11_init true true 0 0 0 [(0, .ref v0)] [] (gi_cv h) (.inl none) (gi_cv h1)
  refine gx_aload_n dX11_init_0 rfl 0 rfl ?_
  refine gx_obj dX11_init_1 gw_26 gw_27 gw_28 (Nat.le_of_ble_eq_true rfl) (Nat.le_of_ble_eq_true rfl) ?_
  refine gx_aload_n dX11_init_4 rfl 0 rfl ?_
  refine gx_bE e (fun _ gh1 e => ?_)
  refine gx_nE e (fun h1 hh1 e => ?_)
  refine gy_new (ci := 7) gh1 hh1 dX11_init_5 (by decide) gw_29 gw_30 gw_2 rfl (kc2 := 1) (ks2 := 2) ⟨rfl, rfl⟩ ⟨Nat.le_of_ble_eq_true rfl, Nat.le_of_ble_eq_true rfl⟩ ?_
  refine gx_dup dX11_init_8 rfl ?_
  refine gx_bE e (fun q2 hq2 e => ?_)
  refine gx_callIN (n := 0) (st := [.ref (gi_sz h), .ref v0]) (As := []) (b := (gi_sz h)) dX11_init_9 (z_X8_init hq2) rfl ⟨rfl, gw_cw_X8_init, gw_2, gp_X8_init, ⟨Nat.le_of_ble_eq_true rfl, Nat.le_of_ble_eq_true rfl⟩⟩ (host := "Grammarsmith") (by decide +kernel) gw_32 rfl rfl ⟨Nat.le_of_ble_eq_true rfl, Nat.le_of_ble_eq_true rfl⟩ (Nat.le_of_ble_eq_true rfl) (gy_k0 (kc2 := 2) (ks2 := 26) ⟨rfl, rfl⟩ ?_) gy_kn
  refine gx_bE e (fun h3 hh3 e => ?_)
  refine gy_qR hh3 dX11_init_12 gf_RX11_12_9_0 (by decide) gkN_9_0 gkR_9_0 (Or.inr ⟨rfl, rfl, rfl⟩) ?_
  refine gx_bE e (fun _ gh4 e => ?_)
  refine gx_nE e (fun h4 hh4 e => ?_)
  refine gy_new (ci := 3) gh4 hh4 dX11_init_15 (by decide) gw_43 gw_44 gw_3 rfl (kc2 := 3) (ks2 := 36) ⟨rfl, rfl⟩ ⟨Nat.le_of_ble_eq_true rfl, Nat.le_of_ble_eq_true rfl⟩ ?_
  refine gx_dup dX11_init_18 rfl ?_
  refine gx_bE e (fun q5 hq5 e => ?_)
  refine gx_callI (n := 0) (st := [.ref (gi_sz h3)]) (As := []) (b := (gi_sz h3)) dX11_init_19 (z_X4_init hq5) rfl ⟨rfl, gw_cw_X4_init, gw_3, gp_X4_init, ⟨Nat.le_of_ble_eq_true rfl, Nat.le_of_ble_eq_true rfl⟩⟩ gw_45 gw_46 rfl rfl ⟨Nat.le_of_ble_eq_true rfl, Nat.le_of_ble_eq_true rfl⟩ (Nat.le_of_ble_eq_true rfl) (gy_k0 (kc2 := 72) (ks2 := 1084) ⟨rfl, rfl⟩ ?_) gy_kn
  refine gx_nE e (fun t6 ht6 e => ?_)
  rw [ht6]
  refine gx_astore_n (ls2 := [(1, .ref t6), (0, .ref v0)]) dX11_init_22 rfl (Nat.le_of_ble_eq_true rfl) rfl ?_
  refine gy_bipush dX11_init_23 gcb_8 ?_
  refine gx_bE e (fun _ gh7 e => ?_)
  refine gx_nE e (fun h7 hh7 e => ?_)
  refine gy_newa1 (N := 8) gh7 hh7 dX11_init_25 gw_65 (by decide +kernel) (by decide +kernel) (by decide) rfl (kc2 := 73) (ks2 := 1092) ⟨rfl, rfl⟩ ⟨Nat.le_of_ble_eq_true rfl, Nat.le_of_ble_eq_true rfl⟩ ?_
  refine gx_nE e (fun t8 ht8 e => ?_)
  rw [ht8]
  refine gx_astore_n (ls2 := [(2, .ref t8), (1, .ref t6), (0, .ref v0)]) dX11_init_27 rfl (Nat.le_of_ble_eq_true rfl) rfl ?_
  refine gy_bipush dX11_init_28 gcb_8 ?_
  refine gx_bE e (fun _ gh9 e => ?_)
  refine gx_nE e (fun h9 hh9 e => ?_)
  refine gy_newa1 (N := 8) gh9 hh9 dX11_init_30 gw_65 (by decide +kernel) (by decide +kernel) (by decide) rfl (kc2 := 74) (ks2 := 1100) ⟨rfl, rfl⟩ ⟨Nat.le_of_ble_eq_true rfl, Nat.le_of_ble_eq_true rfl⟩ ?_
  refine gx_nE e (fun t10 ht10 e => ?_)
  rw [ht10]
  refine gx_astore_n (ls2 := [(3, .ref t10), (2, .ref t8), (1, .ref t6), (0, .ref v0)]) dX11_init_32 rfl (Nat.le_of_ble_eq_true rfl) rfl ?_
  refine gy_bipush dX11_init_33 gcb_13 ?_
  refine gx_bE e (fun _ gh11 e => ?_)
  refine gx_nE e (fun h11 hh11 e => ?_)
  refine gy_newa1 (N := 13) gh11 hh11 dX11_init_35 gw_65 (by decide +kernel) (by decide +kernel) (by decide) rfl (kc2 := 75) (ks2 := 1113) ⟨rfl, rfl⟩ ⟨Nat.le_of_ble_eq_true rfl, Nat.le_of_ble_eq_true rfl⟩ ?_
  refine gx_nE e (fun t12 ht12 e => ?_)
  rw [ht12]
  refine gx_astore (ls2 := [(4, .ref t12), (3, .ref t10), (2, .ref t8), (1, .ref t6), (0, .ref v0)]) dX11_init_37 (Nat.le_of_ble_eq_true rfl) rfl ?_
  refine gx_aload dX11_init_39 0 rfl ?_
  refine gy_bipush dX11_init_41 gcb_8 ?_
  refine gx_bE e (fun q13 hq13 e => ?_)
  refine gx_callS (n := 2) (st := []) (As := [.ref t12, .int (gI (8 : Int))]) dX11_init_43 (z_J7_fill_53178 hq13) rfl ⟨rfl, gw_cw_J7_fill_53178, gw_5, gp_J7_fill_53178, ⟨Nat.le_of_ble_eq_true rfl, Nat.le_of_ble_eq_true rfl⟩⟩ gw_97 gw_98 ⟨Nat.le_of_ble_eq_true rfl, Nat.le_of_ble_eq_true rfl⟩ (Nat.le_of_ble_eq_true rfl) (gy_k0 (kc2 := 75) (ks2 := 1113) ⟨rfl, rfl⟩ ?_) gy_kn
  refine gx_bE e (fun _ gh14 e => ?_)
  refine gx_nE e (fun h14 hh14 e => ?_)
  refine gy_new (ci := 2) gh14 hh14 dX11_init_46 (by decide) gw_100 gw_101 gw_6 rfl (kc2 := 76) (ks2 := 1127) ⟨rfl, rfl⟩ ⟨Nat.le_of_ble_eq_true rfl, Nat.le_of_ble_eq_true rfl⟩ ?_
  refine gx_dup dX11_init_49 rfl ?_
  refine gx_aload_n dX11_init_50 rfl 3 rfl ?_
  refine gx_bE e (fun q15 hq15 e => ?_)
  refine gx_callI (n := 1) (st := [.ref (gi_sz q13)]) (As := [.ref t6]) (b := (gi_sz q13)) dX11_init_51 (z_X3_init hq15) rfl ⟨rfl, gw_cw_X3_init, gw_6, gp_X3_init, ⟨Nat.le_of_ble_eq_true rfl, Nat.le_of_ble_eq_true rfl⟩⟩ gw_102 gw_103 rfl rfl ⟨Nat.le_of_ble_eq_true rfl, Nat.le_of_ble_eq_true rfl⟩ (Nat.le_of_ble_eq_true rfl) (gy_k0 (kc2 := 84) (ks2 := 1579) ⟨rfl, rfl⟩ ?_) gy_kn
  refine gx_nE e (fun t16 ht16 e => ?_)
  rw [ht16]
  refine gx_astore (ls2 := [(5, .ref t16), (4, .ref t12), (3, .ref t10), (2, .ref t8), (1, .ref t6), (0, .ref v0)]) dX11_init_54 (Nat.le_of_ble_eq_true rfl) rfl ?_
  refine gx_bE e (fun _ gh17 e => ?_)
  refine gx_nE e (fun h17 hh17 e => ?_)
  refine gy_new (ci := 0) gh17 hh17 dX11_init_56 (by decide) gw_150 gw_151 gw_7 rfl (kc2 := 85) (ks2 := 1589) ⟨rfl, rfl⟩ ⟨Nat.le_of_ble_eq_true rfl, Nat.le_of_ble_eq_true rfl⟩ ?_
  refine gx_dup dX11_init_59 rfl ?_
  refine gx_aload dX11_init_60 0 rfl ?_
  refine gy_iconst dX11_init_62 ?_
  refine gx_bE e (fun q18 hq18 e => ?_)
  refine gx_callI (n := 2) (st := [.ref (gi_sz q15)]) (As := [.ref t16, .int (gI (1 : Int))]) (b := (gi_sz q15)) dX11_init_63 (z_X0_init hq18) rfl ⟨rfl, gw_cw_X0_init, gw_7, gp_X0_init, ⟨Nat.le_of_ble_eq_true rfl, Nat.le_of_ble_eq_true rfl⟩⟩ gw_152 gw_153 rfl rfl ⟨Nat.le_of_ble_eq_true rfl, Nat.le_of_ble_eq_true rfl⟩ (Nat.le_of_ble_eq_true rfl) (gy_k0 (kc2 := 90) (ks2 := 16459) ⟨rfl, rfl⟩ ?_) gy_kn
  refine gx_nE e (fun t19 ht19 e => ?_)
  rw [ht19]
  refine gx_astore (ls2 := [(6, .ref t19), (5, .ref t16), (4, .ref t12), (3, .ref t10), (2, .ref t8), (1, .ref t6), (0, .ref v0)]) dX11_init_66 (Nat.le_of_ble_eq_true rfl) rfl ?_
  refine gx_bE e (fun _ gh20 e => ?_)
  refine gx_nE e (fun h20 hh20 e => ?_)
  refine gy_new (ci := 0) gh20 hh20 dX11_init_68 (by decide) gw_150 gw_151 gw_7 rfl (kc2 := 91) (ks2 := 16469) ⟨rfl, rfl⟩ ⟨Nat.le_of_ble_eq_true rfl, Nat.le_of_ble_eq_true rfl⟩ ?_
  refine gx_dup dX11_init_71 rfl ?_
  refine gx_aload dX11_init_72 1 rfl ?_
  refine gy_iconst dX11_init_74 ?_
  refine gx_bE e (fun q21 hq21 e => ?_)
  refine gx_callI (n := 2) (st := [.ref (gi_sz q18)]) (As := [.ref t16, .int (gI (0 : Int))]) (b := (gi_sz q18)) dX11_init_75 (z_X0_init hq21) rfl ⟨rfl, gw_cw_X0_init, gw_7, gp_X0_init, ⟨Nat.le_of_ble_eq_true rfl, Nat.le_of_ble_eq_true rfl⟩⟩ gw_152 gw_153 rfl rfl ⟨Nat.le_of_ble_eq_true rfl, Nat.le_of_ble_eq_true rfl⟩ (Nat.le_of_ble_eq_true rfl) (gy_k0 (kc2 := 96) (ks2 := 31339) ⟨rfl, rfl⟩ ?_) gy_kn
  refine gx_nE e (fun t22 ht22 e => ?_)
  rw [ht22]
  refine gx_astore (ls2 := [(7, .ref t22), (6, .ref t19), (5, .ref t16), (4, .ref t12), (3, .ref t10), (2, .ref t8), (1, .ref t6), (0, .ref v0)]) dX11_init_78 (Nat.le_of_ble_eq_true rfl) rfl ?_
  refine gy_sipush dX11_init_80 gcs_2704 ?_
  refine gx_bE e (fun _ gh23 e => ?_)
  refine gx_nE e (fun h23 hh23 e => ?_)
  refine gy_newa1 (N := 2704) gh23 hh23 dX11_init_83 gw_65 (by decide +kernel) (by decide +kernel) (by decide) rfl (kc2 := 97) (ks2 := 34043) ⟨rfl, rfl⟩ ⟨Nat.le_of_ble_eq_true rfl, Nat.le_of_ble_eq_true rfl⟩ ?_
  refine gx_nE e (fun t24 ht24 e => ?_)
  rw [ht24]
  refine gx_astore (ls2 := [(8, .ref t24), (7, .ref t22), (6, .ref t19), (5, .ref t16), (4, .ref t12), (3, .ref t10), (2, .ref t8), (1, .ref t6), (0, .ref v0)]) dX11_init_85 (Nat.le_of_ble_eq_true rfl) rfl ?_
  refine gy_sipush dX11_init_87 gcs_25350 ?_
  refine gx_bE e (fun _ gh25 e => ?_)
  refine gx_nE e (fun h25 hh25 e => ?_)
  refine gy_newa1 (N := 25350) gh25 hh25 dX11_init_90 gw_65 (by decide +kernel) (by decide +kernel) (by decide) rfl (kc2 := 98) (ks2 := 59393) ⟨rfl, rfl⟩ ⟨Nat.le_of_ble_eq_true rfl, Nat.le_of_ble_eq_true rfl⟩ ?_
  refine gx_nE e (fun t26 ht26 e => ?_)
  rw [ht26]
  refine gx_astore (ls2 := [(9, .ref t26), (8, .ref t24), (7, .ref t22), (6, .ref t19), (5, .ref t16), (4, .ref t12), (3, .ref t10), (2, .ref t8), (1, .ref t6), (0, .ref v0)]) dX11_init_92 (Nat.le_of_ble_eq_true rfl) rfl ?_
  refine gx_aload_n dX11_init_94 rfl 9 rfl ?_
  refine gx_aload_n dX11_init_95 rfl 8 rfl ?_
  refine gx_bE e (fun h27 hh27 e => ?_)
  refine gy_qR hh27 dX11_init_96 gf_RX11_35_9_1 (by decide) gkN_9_1 gkR_9_1 (Or.inl rfl) ?_
  refine gx_aload_n dX11_init_99 rfl 9 rfl ?_
  refine gx_bE e (fun _ gh28 e => ?_)
  refine gx_nE e (fun h28 hh28 e => ?_)
  refine gy_new (ci := 3) gh28 hh28 dX11_init_100 (by decide) gw_43 gw_44 gw_3 rfl (kc2 := 99) (ks2 := 59403) ⟨rfl, rfl⟩ ⟨Nat.le_of_ble_eq_true rfl, Nat.le_of_ble_eq_true rfl⟩ ?_
  refine gx_dup dX11_init_103 rfl ?_
  refine gx_bE e (fun q29 hq29 e => ?_)
  refine gx_callI (n := 0) (st := [.ref (gi_sz h27), .ref v0]) (As := []) (b := (gi_sz h27)) dX11_init_104 (z_X4_init hq29) rfl ⟨rfl, gw_cw_X4_init, gw_3, gp_X4_init, ⟨Nat.le_of_ble_eq_true rfl, Nat.le_of_ble_eq_true rfl⟩⟩ gw_45 gw_46 rfl rfl ⟨Nat.le_of_ble_eq_true rfl, Nat.le_of_ble_eq_true rfl⟩ (Nat.le_of_ble_eq_true rfl) (gy_k0 (kc2 := 168) (ks2 := 60451) ⟨rfl, rfl⟩ ?_) gy_kn
  refine gx_bE e (fun h30 hh30 e => ?_)
  refine gy_qR hh30 dX11_init_107 gf_RX11_39_9_2 (by decide) gkN_9_2 gkR_9_2 (Or.inl rfl) ?_
  refine gx_aload_n dX11_init_110 rfl 9 rfl ?_
  refine gx_aload_n dX11_init_111 rfl 7 rfl ?_
  refine gx_bE e (fun h31 hh31 e => ?_)
  refine gy_qR hh31 dX11_init_112 gf_RX11_42_9_4 (by decide) gkN_9_4 gkR_9_4 (Or.inr ⟨rfl, rfl, rfl⟩) ?_
  refine gx_aload_n dX11_init_115 rfl 9 rfl ?_
  refine gx_aload_n dX11_init_116 rfl 6 rfl ?_
  refine gx_bE e (fun h32 hh32 e => ?_)
  refine gy_qR hh32 dX11_init_117 gf_RX11_46_9_5 (by decide) gkN_9_5 gkR_9_5 (Or.inr ⟨rfl, rfl, rfl⟩) ?_
  refine gx_aload_n dX11_init_120 rfl 9 rfl ?_
  refine gx_aload dX11_init_121 5 rfl ?_
  refine gx_bE e (fun h33 hh33 e => ?_)
  refine gy_qR hh33 dX11_init_123 gf_RX11_49_9_6 (by decide) gkN_9_6 gkR_9_6 (Or.inr ⟨rfl, rfl, rfl⟩) ?_
  refine gx_aload_n dX11_init_126 rfl 9 rfl ?_
  refine gx_aload dX11_init_127 4 rfl ?_
  refine gx_bE e (fun h34 hh34 e => ?_)
  refine gy_qR hh34 dX11_init_129 gf_RX11_52_9_8 (by decide) gkN_9_8 gkR_9_8 (Or.inr ⟨rfl, rfl, rfl⟩) ?_
  refine gx_aload_n dX11_init_132 rfl 9 rfl ?_
  refine gx_aload dX11_init_133 3 rfl ?_
  refine gx_bE e (fun h35 hh35 e => ?_)
  refine gy_qR hh35 dX11_init_135 gf_RX11_56_9_9 (by decide) gkN_9_9 gkR_9_9 (Or.inr ⟨rfl, rfl, rfl⟩) ?_
  refine gx_aload_n dX11_init_138 rfl 9 rfl ?_
  refine gx_aload dX11_init_139 2 rfl ?_
  refine gx_bE e (fun h36 hh36 e => ?_)
  refine gy_qR hh36 dX11_init_141 gf_RX11_60_9_10 (by decide) gkN_9_10 gkR_9_10 (Or.inr ⟨rfl, rfl, rfl⟩) ?_
  refine gx_aload_n dX11_init_144 rfl 9 rfl ?_
  refine gx_bE e (fun _ gh37 e => ?_)
  refine gx_nE e (fun h37 hh37 e => ?_)
  refine gy_new (ci := 4) gh37 hh37 dX11_init_145 (by decide) gw_188 gw_189 gw_9 rfl (kc2 := 169) (ks2 := 60458) ⟨rfl, rfl⟩ ⟨Nat.le_of_ble_eq_true rfl, Nat.le_of_ble_eq_true rfl⟩ ?_
  refine gx_dup dX11_init_148 rfl ?_
  refine gx_aload dX11_init_149 4 rfl ?_
  refine gx_aload dX11_init_151 5 rfl ?_
  refine gx_bE e (fun q38 hq38 e => ?_)
  refine gx_callI (n := 2) (st := [.ref (gi_sz h36), .ref v0]) (As := [.ref t16, .ref t12]) (b := (gi_sz h36)) dX11_init_153 (z_X5_init hq38) rfl ⟨rfl, gw_cw_X5_init, gw_9, gp_X5_init, ⟨Nat.le_of_ble_eq_true rfl, Nat.le_of_ble_eq_true rfl⟩⟩ gw_190 gw_191 rfl rfl ⟨Nat.le_of_ble_eq_true rfl, Nat.le_of_ble_eq_true rfl⟩ (Nat.le_of_ble_eq_true rfl) (gy_k0 (kc2 := 171) (ks2 := 62259) ⟨rfl, rfl⟩ ?_) gy_kn
  refine gx_bE e (fun h39 hh39 e => ?_)
  refine gy_qR hh39 dX11_init_156 gf_RX11_68_9_11 (by decide) gkN_9_11 gkR_9_11 (Or.inr ⟨rfl, rfl, rfl⟩) ?_
  refine gx_aload_n dX11_init_159 rfl 9 rfl ?_
  refine gx_bE e (fun _ gh40 e => ?_)
  refine gx_nE e (fun h40 hh40 e => ?_)
  refine gy_new (ci := 8) gh40 hh40 dX11_init_160 (by decide) gw_219 gw_220 gw_10 rfl (kc2 := 172) (ks2 := 62272) ⟨rfl, rfl⟩ ⟨Nat.le_of_ble_eq_true rfl, Nat.le_of_ble_eq_true rfl⟩ ?_
  refine gx_dup dX11_init_163 rfl ?_
  refine gx_aload dX11_init_164 3 rfl ?_
  refine gy_iconst dX11_init_166 ?_
  refine gx_aload_n dX11_init_167 rfl 7 rfl ?_
  refine gx_aload_n dX11_init_168 rfl 6 rfl ?_
  refine gx_aload dX11_init_169 5 rfl ?_
  refine gx_bE e (fun q41 hq41 e => ?_)
  refine gx_callI (n := 5) (st := [.ref (gi_sz h39), .ref v0]) (As := [.ref t19, .int (gI (1 : Int)), .ref t8, .ref t10, .ref t12]) (b := (gi_sz h39)) dX11_init_171 (z_X9_init hq41) rfl ⟨rfl, gw_cw_X9_init, gw_10, gp_X9_init, ⟨Nat.le_of_ble_eq_true rfl, Nat.le_of_ble_eq_true rfl⟩⟩ gw_221 gw_222 rfl rfl ⟨Nat.le_of_ble_eq_true rfl, Nat.le_of_ble_eq_true rfl⟩ (Nat.le_of_ble_eq_true rfl) (gy_k0 (kc2 := 174) (ks2 := 62874) ⟨rfl, rfl⟩ ?_) gy_kn
  refine gx_bE e (fun h42 hh42 e => ?_)
  refine gy_qR hh42 dX11_init_174 gf_RX11_77_9_12 (by decide) gkN_9_12 gkR_9_12 (Or.inr ⟨rfl, rfl, rfl⟩) ?_
  refine gx_aload_n dX11_init_177 rfl 9 rfl ?_
  refine gx_bE e (fun _ gh43 e => ?_)
  refine gx_nE e (fun h43 hh43 e => ?_)
  refine gy_new (ci := 8) gh43 hh43 dX11_init_178 (by decide) gw_219 gw_220 gw_10 rfl (kc2 := 175) (ks2 := 62887) ⟨rfl, rfl⟩ ⟨Nat.le_of_ble_eq_true rfl, Nat.le_of_ble_eq_true rfl⟩ ?_
  refine gx_dup dX11_init_181 rfl ?_
  refine gx_aload dX11_init_182 3 rfl ?_
  refine gy_iconst dX11_init_184 ?_
  refine gx_aload_n dX11_init_185 rfl 7 rfl ?_
  refine gx_aload_n dX11_init_186 rfl 6 rfl ?_
  refine gx_aload dX11_init_187 5 rfl ?_
  refine gx_bE e (fun q44 hq44 e => ?_)
  refine gx_callI (n := 5) (st := [.ref (gi_sz h42), .ref v0]) (As := [.ref t19, .int (gI (0 : Int)), .ref t8, .ref t10, .ref t12]) (b := (gi_sz h42)) dX11_init_189 (z_X9_init hq44) rfl ⟨rfl, gw_cw_X9_init, gw_10, gp_X9_init, ⟨Nat.le_of_ble_eq_true rfl, Nat.le_of_ble_eq_true rfl⟩⟩ gw_221 gw_222 rfl rfl ⟨Nat.le_of_ble_eq_true rfl, Nat.le_of_ble_eq_true rfl⟩ (Nat.le_of_ble_eq_true rfl) (gy_k0 (kc2 := 177) (ks2 := 63489) ⟨rfl, rfl⟩ ?_) gy_kn
  refine gx_bE e (fun h45 hh45 e => ?_)
  refine gy_qR hh45 dX11_init_192 gf_RX11_80_9_13 (by decide) gkN_9_13 gkR_9_13 (Or.inr ⟨rfl, rfl, rfl⟩) ?_
  refine gx_aload_n dX11_init_195 rfl 9 rfl ?_
  refine gx_bE e (fun _ gh46 e => ?_)
  refine gx_nE e (fun h46 hh46 e => ?_)
  refine gy_new (ci := 8) gh46 hh46 dX11_init_196 (by decide) gw_219 gw_220 gw_10 rfl (kc2 := 178) (ks2 := 63502) ⟨rfl, rfl⟩ ⟨Nat.le_of_ble_eq_true rfl, Nat.le_of_ble_eq_true rfl⟩ ?_
  refine gx_dup dX11_init_199 rfl ?_
  refine gx_aload dX11_init_200 2 rfl ?_
  refine gy_iconst dX11_init_202 ?_
  refine gx_aload_n dX11_init_203 rfl 7 rfl ?_
  refine gx_aload_n dX11_init_204 rfl 6 rfl ?_
  refine gx_aload dX11_init_205 5 rfl ?_
  refine gx_bE e (fun q47 hq47 e => ?_)
  refine gx_callI (n := 5) (st := [.ref (gi_sz h45), .ref v0]) (As := [.ref t22, .int (gI (0 : Int)), .ref t8, .ref t10, .ref t12]) (b := (gi_sz h45)) dX11_init_207 (z_X9_init hq47) rfl ⟨rfl, gw_cw_X9_init, gw_10, gp_X9_init, ⟨Nat.le_of_ble_eq_true rfl, Nat.le_of_ble_eq_true rfl⟩⟩ gw_221 gw_222 rfl rfl ⟨Nat.le_of_ble_eq_true rfl, Nat.le_of_ble_eq_true rfl⟩ (Nat.le_of_ble_eq_true rfl) (gy_k0 (kc2 := 180) (ks2 := 64104) ⟨rfl, rfl⟩ ?_) gy_kn
  refine gx_bE e (fun h48 hh48 e => ?_)
  refine gy_qR hh48 dX11_init_210 gf_RX11_83_9_14 (by decide) gkN_9_14 gkR_9_14 (Or.inr ⟨rfl, rfl, rfl⟩) ?_
  refine gx_aload_n dX11_init_213 rfl 9 rfl ?_
  refine gx_bE e (fun _ gh49 e => ?_)
  refine gx_nE e (fun h49 hh49 e => ?_)
  refine gy_new (ci := 1) gh49 hh49 dX11_init_214 (by decide) gw_263 gw_264 gw_12 rfl (kc2 := 181) (ks2 := 64109) ⟨rfl, rfl⟩ ⟨Nat.le_of_ble_eq_true rfl, Nat.le_of_ble_eq_true rfl⟩ ?_
  refine gx_dup dX11_init_217 rfl ?_
  refine gx_aload dX11_init_218 4 rfl ?_
  refine gx_aload dX11_init_220 5 rfl ?_
  refine gx_aload dX11_init_222 1 rfl ?_
  refine gx_aload dX11_init_224 0 rfl ?_
  refine gx_bE e (fun q50 hq50 e => ?_)
  refine gx_callI (n := 4) (st := [.ref (gi_sz h48), .ref v0]) (As := [.ref t16, .ref t12, .ref t24, .ref t26]) (b := (gi_sz h48)) dX11_init_226 (z_X2_init hq50) rfl ⟨rfl, gw_cw_X2_init, gw_12, gp_X2_init, ⟨Nat.le_of_ble_eq_true rfl, Nat.le_of_ble_eq_true rfl⟩⟩ gw_265 gw_266 rfl rfl ⟨Nat.le_of_ble_eq_true rfl, Nat.le_of_ble_eq_true rfl⟩ (Nat.le_of_ble_eq_true rfl) (gy_k0 (kc2 := 182) (ks2 := 64125) ⟨rfl, rfl⟩ ?_) gy_kn
  refine gx_bE e (fun h51 hh51 e => ?_)
  refine gy_qR hh51 dX11_init_229 gf_RX11_91_9_15 (by decide) gkN_9_15 gkR_9_15 (Or.inr ⟨rfl, rfl, rfl⟩) ?_
  refine gx_aload_n dX11_init_232 rfl 9 rfl ?_
  refine gx_bE e (fun _ gh52 e => ?_)
  refine gx_nE e (fun h52 hh52 e => ?_)
  refine gy_new (ci := 5) gh52 hh52 dX11_init_233 (by decide) gw_288 gw_289 gw_13 rfl (kc2 := 183) (ks2 := 64130) ⟨rfl, rfl⟩ ⟨Nat.le_of_ble_eq_true rfl, Nat.le_of_ble_eq_true rfl⟩ ?_
  refine gx_dup dX11_init_236 rfl ?_
  refine gx_aload dX11_init_237 4 rfl ?_
  refine gx_aload dX11_init_239 5 rfl ?_
  refine gx_aload dX11_init_241 1 rfl ?_
  refine gx_aload dX11_init_243 0 rfl ?_
  refine gx_bE e (fun q53 hq53 e => ?_)
  refine gx_callI (n := 4) (st := [.ref (gi_sz h51), .ref v0]) (As := [.ref t16, .ref t12, .ref t24, .ref t26]) (b := (gi_sz h51)) dX11_init_245 (z_X6_init hq53) rfl ⟨rfl, gw_cw_X6_init, gw_13, gp_X6_init, ⟨Nat.le_of_ble_eq_true rfl, Nat.le_of_ble_eq_true rfl⟩⟩ gw_290 gw_291 rfl rfl ⟨Nat.le_of_ble_eq_true rfl, Nat.le_of_ble_eq_true rfl⟩ (Nat.le_of_ble_eq_true rfl) (gy_k0 (kc2 := 184) (ks2 := 64146) ⟨rfl, rfl⟩ ?_) gy_kn
  refine gx_bE e (fun h54 hh54 e => ?_)
  refine gy_qR hh54 dX11_init_248 gf_RX11_98_9_16 (by decide) gkN_9_16 gkR_9_16 (Or.inr ⟨rfl, rfl, rfl⟩) ?_
  cases e
  exact gx_vret dX11_init_251 rfl ⟨Nat.le_of_ble_eq_true rfl, Nat.le_of_ble_eq_true rfl⟩ (fun z => z)
/-! L_cell  -/
set_option maxRecDepth 100000 in
def b_L_cell_24 (L : Nat) (xs : Nat → Int)   (s0 : Int) (h : gi_H) : Option (Int) :=
  some (gi_and s0 (2147483647 : Int))
set_option maxRecDepth 100000 in
theorem zb_L_cell_24 {al : Bool} {L : Nat} {xs : Nat → Int}  {res : Int}   {s0 : Int} {h : gi_H} (e : b_L_cell_24 L xs s0 h = some res) : gx_Z (mL_cell L xs) al al 0 0 24 [] [.int (gI s0)] (gi_cv h) (.inl (some (.int (gI res)))) (gi_cv h) := by
  refine gy_ldc (n := 2147483647) dL_cell_24 gw_650 (by decide +kernel) ?_
  refine gy_iand dL_cell_26 ?_
  cases e
  exact gx_iret dL_cell_27 rfl ⟨Nat.le_of_ble_eq_true rfl, Nat.le_of_ble_eq_true rfl⟩ (fun z => z)
set_option maxRecDepth 100000 in
def f_L_cell (L : Nat) (xs : Nat → Int) (v1 : Int) (h : gi_H) : Option (Int) :=
  Option.bind (gi_rg v1) fun _ => Option.bind (gi_rg (L : Int)) fun _ => if (L : Int) ≤ v1 then (Option.bind (gi_dg v1 (6131 : Int)) fun _ => b_L_cell_24 L xs  (((51001 : Int) * (v1 % (6131 : Int))) + (3907 : Int)) h) else (Option.bind (gi_sx L xs v1) fun t5 => b_L_cell_24 L xs  t5 h)
set_option maxRecDepth 100000 in
theorem z_L_cell {al : Bool} {L : Nat} {xs : Nat → Int} {v1 : Int} {h : gi_H} {res : Int} (e : f_L_cell L xs v1 h = some res) : gx_CwS (mL_cell L xs) al [.ref 100000, .int (gI v1)] (gi_cv h) (.inl (some (.int (gI res)))) (gi_cv h) := by
  refine gx_enterS (show plainName yL_cell.cls = true by decide +kernel) rfl rfl (Nat.le_of_ble_eq_true rfl) ?_
  show gx_Z (mL_cell L xs) al al 0 0 0 [(0, .ref 100000), (1, .int (gI v1))] [] (gi_cv h) (.inl (some (.int (gI res)))) (gi_cv h)
  refine gx_iload_n dL_cell_0 rfl 1 rfl ?_
  refine gx_aload_n dL_cell_1 rfl 0 rfl ?_
  refine gy_slen (L := L) (xs := xs) rfl dL_cell_2 ?_
  refine gx_bE e (fun _ g1 e => ?_)
  refine gx_bE e (fun _ g2 e => ?_)
  refine gx_iE e (fun c3 e => ?_) (fun c3 e => ?_)
  · refine gy_icmp_ge (tgt := 12) (gi_rgS g1) (gi_rgS g2) dL_cell_3 (by decide) (fun _ => ?_) (fun z => absurd c3 z)
    refine gy_ldc (n := 51001) dL_cell_12 gw_649 (by decide +kernel) ?_
    refine gx_iload_n dL_cell_14 rfl 1 rfl ?_
    refine gy_sipush dL_cell_15 gcs_6131 ?_
    refine gx_bE e (fun _ hu4 e => ?_)
    refine gy_irem hu4 dL_cell_18 ?_
    refine gy_imul dL_cell_19 ?_
    refine gy_sipush dL_cell_20 gcs_3907 ?_
    refine gy_iadd dL_cell_23 ?_
    refine gx_sub (ls2 := []) [] rfl ?_
    exact zb_L_cell_24  e
  · refine gy_icmp_ge (tgt := 12) (gi_rgS g1) (gi_rgS g2) dL_cell_3 (by decide) (fun z => absurd z c3) (fun _ => ?_)
    refine gx_aload_n dL_cell_6 rfl 0 rfl ?_
    refine gx_iload_n dL_cell_7 rfl 1 rfl ?_
    refine gx_bE e (fun t5 ht5 e => ?_)
    refine gy_sld (L := L) (xs := xs) rfl ht5 dL_cell_8 ?_
    refine gx_goto (tgt := 24) dL_cell_9 (by decide) ?_
    refine gx_sub (ls2 := []) [] rfl ?_
    exact zb_L_cell_24  e
/-! L_letter  -/
set_option maxRecDepth 100000 in
def b_L_letter_87  (v0 : Int) (v1 : Int) (s0 : Int) (h : gi_H) : Option (Int) :=
  Option.bind (gi_rg s0) fun _ => if s0 ≤ 0 then (Option.bind (gi_rg v1) fun _ => if (16 : Int) ≤ v1 then (Option.bind (gi_dg v0 (24 : Int)) fun _ => Option.bind (gi_dg (v0 / (24 : Int)) (4 : Int)) fun _ => some ((65 : Int) + ((v0 / (24 : Int)) % (4 : Int)))) else (Option.bind (gi_dg v0 (24 : Int)) fun _ => Option.bind (gi_dg (v0 / (24 : Int)) (3 : Int)) fun _ => some ((97 : Int) + ((v0 / (24 : Int)) % (3 : Int))))) else (some s0)
set_option maxRecDepth 100000 in
theorem zb_L_letter_87 {al : Bool}  {res : Int}  {v0 : Int} {v1 : Int} {s0 : Int} {h : gi_H} (e : b_L_letter_87 v0 v1 s0 h = some res) : gx_Z mL_letter al al 0 0 87 [(0, .int (gI v0)), (1, .int (gI v1))] [.int (gI s0)] (gi_cv h) (.inl (some (.int (gI res)))) (gi_cv h) := by
  refine gx_istore_n (ls2 := [(2, .int (gI s0)), (0, .int (gI v0)), (1, .int (gI v1))]) dL_letter_87 rfl (Nat.le_of_ble_eq_true rfl) rfl ?_
  refine gx_iload_n dL_letter_88 rfl 0 rfl ?_
  refine gx_bE e (fun _ g5 e => ?_)
  refine gx_iE e (fun c6 e => ?_) (fun c6 e => ?_)
  · refine gy_if_le (tgt := 96) (gi_rgS g5) dL_letter_89 (by decide) (fun _ => ?_) (fun z => absurd c6 z)
    refine gx_iload_n dL_letter_96 rfl 2 rfl ?_
    refine gy_bipush dL_letter_97 gcb_16 ?_
    refine gx_bE e (fun _ g7 e => ?_)
    refine gx_iE e (fun c8 e => ?_) (fun c8 e => ?_)
    · refine gy_icmp_ge (tgt := 114) (gi_rgS g7) (by decide) dL_letter_99 (by decide) (fun _ => ?_) (fun z => absurd c8 z)
      refine gy_bipush dL_letter_114 gcb_65 ?_
      refine gx_iload_n dL_letter_116 rfl 1 rfl ?_
      refine gy_bipush dL_letter_117 gcb_24 ?_
      refine gx_bE e (fun _ hu9 e => ?_)
      refine gy_idiv hu9 dL_letter_119 ?_
      refine gy_iconst dL_letter_120 ?_
      refine gx_bE e (fun _ hu10 e => ?_)
      refine gy_irem hu10 dL_letter_121 ?_
      refine gy_iadd dL_letter_122 ?_
      cases e
      exact gx_iret dL_letter_123 rfl ⟨Nat.le_of_ble_eq_true rfl, Nat.le_of_ble_eq_true rfl⟩ (fun z => z)
    · refine gy_icmp_ge (tgt := 114) (gi_rgS g7) (by decide) dL_letter_99 (by decide) (fun z => absurd z c8) (fun _ => ?_)
      refine gy_bipush dL_letter_102 gcb_97 ?_
      refine gx_iload_n dL_letter_104 rfl 1 rfl ?_
      refine gy_bipush dL_letter_105 gcb_24 ?_
      refine gx_bE e (fun _ hu11 e => ?_)
      refine gy_idiv hu11 dL_letter_107 ?_
      refine gy_iconst dL_letter_108 ?_
      refine gx_bE e (fun _ hu12 e => ?_)
      refine gy_irem hu12 dL_letter_109 ?_
      refine gy_iadd dL_letter_110 ?_
      refine gx_goto (tgt := 123) dL_letter_111 (by decide) ?_
      cases e
      exact gx_iret dL_letter_123 rfl ⟨Nat.le_of_ble_eq_true rfl, Nat.le_of_ble_eq_true rfl⟩ (fun z => z)
  · refine gy_if_le (tgt := 96) (gi_rgS g5) dL_letter_89 (by decide) (fun z => absurd z c6) (fun _ => ?_)
    refine gx_iload_n dL_letter_92 rfl 0 rfl ?_
    refine gx_goto (tgt := 123) dL_letter_93 (by decide) ?_
    cases e
    exact gx_iret dL_letter_123 rfl ⟨Nat.le_of_ble_eq_true rfl, Nat.le_of_ble_eq_true rfl⟩ (fun z => z)
set_option maxRecDepth 100000 in
def f_L_letter (v0 : Int) (h : gi_H) : Option (Int) :=
  Option.bind (gi_dg v0 (24 : Int)) fun _ => gx_nm (v0 % (24 : Int)) fun t2 => Option.bind (gi_rg t2) fun _ => if t2 = 0 then (b_L_letter_87  v0 t2 (124 : Int) h) else (if t2 = (1 : Int) then (b_L_letter_87  v0 t2 (40 : Int) h) else (if t2 = (2 : Int) then (b_L_letter_87  v0 t2 (41 : Int) h) else (if t2 = (3 : Int) then (b_L_letter_87  v0 t2 (63 : Int) h) else (if t2 = (4 : Int) then (b_L_letter_87  v0 t2 (42 : Int) h) else (if t2 = (5 : Int) then (b_L_letter_87  v0 t2 (43 : Int) h) else (if t2 = (6 : Int) then (b_L_letter_87  v0 t2 (37 : Int) h) else (if t2 = (7 : Int) then (b_L_letter_87  v0 t2 (58 : Int) h) else (b_L_letter_87  v0 t2 (0 : Int) h))))))))
set_option maxRecDepth 100000 in
theorem z_L_letter {al : Bool} {v0 : Int} {h : gi_H} {res : Int} (e : f_L_letter v0 h = some res) : gx_Cw mL_letter al [.int (gI v0)] (gi_cv h) (.inl (some (.int (gI res)))) (gi_cv h) := by
  refine gx_enter (by decide +kernel) rfl (Nat.le_of_ble_eq_true rfl) ?_
  show gx_Z mL_letter al al 0 0 0 [(0, .int (gI v0))] [] (gi_cv h) (.inl (some (.int (gI res)))) (gi_cv h)
  refine gx_iload_n dL_letter_0 rfl 0 rfl ?_
  refine gy_bipush dL_letter_1 gcb_24 ?_
  refine gx_bE e (fun _ hu1 e => ?_)
  refine gy_irem hu1 dL_letter_3 ?_
  refine gx_nE e (fun t2 ht2 e => ?_)
  rw [ht2]
  refine gx_istore_n (ls2 := [(1, .int (gI t2)), (0, .int (gI v0))]) dL_letter_4 rfl (Nat.le_of_ble_eq_true rfl) rfl ?_
  refine gx_iload_n dL_letter_5 rfl 0 rfl ?_
  refine gx_bE e (fun _ g3 e => ?_)
  refine gx_iE e (fun c4 e => ?_) (fun c4 e => ?_)
  · refine gy_if_ne (tgt := 14) (gi_rgS g3) dL_letter_6 (by decide) (fun z => absurd c4 z) (fun _ => ?_)
    refine gy_bipush dL_letter_9 gcb_124 ?_
    refine gx_goto (tgt := 87) dL_letter_11 (by decide) ?_
    refine gx_sub (ls2 := [(0, .int (gI v0)), (1, .int (gI t2))]) [1, 0] rfl ?_
    exact zb_L_letter_87  e
  · refine gy_if_ne (tgt := 14) (gi_rgS g3) dL_letter_6 (by decide) (fun _ => ?_) (fun z => absurd z c4)
    refine gx_iload_n dL_letter_14 rfl 0 rfl ?_
    refine gy_iconst dL_letter_15 ?_
    refine gx_iE e (fun c13 e => ?_) (fun c13 e => ?_)
    · refine gy_icmp_ne (tgt := 24) (gi_rgS g3) (by decide) dL_letter_16 (by decide) (fun z => absurd c13 z) (fun _ => ?_)
      refine gy_bipush dL_letter_19 gcb_40 ?_
      refine gx_goto (tgt := 87) dL_letter_21 (by decide) ?_
      refine gx_sub (ls2 := [(0, .int (gI v0)), (1, .int (gI t2))]) [1, 0] rfl ?_
      exact zb_L_letter_87  e
    · refine gy_icmp_ne (tgt := 24) (gi_rgS g3) (by decide) dL_letter_16 (by decide) (fun _ => ?_) (fun z => absurd z c13)
      refine gx_iload_n dL_letter_24 rfl 0 rfl ?_
      refine gy_iconst dL_letter_25 ?_
      refine gx_iE e (fun c14 e => ?_) (fun c14 e => ?_)
      · refine gy_icmp_ne (tgt := 34) (gi_rgS g3) (by decide) dL_letter_26 (by decide) (fun z => absurd c14 z) (fun _ => ?_)
        refine gy_bipush dL_letter_29 gcb_41 ?_
        refine gx_goto (tgt := 87) dL_letter_31 (by decide) ?_
        refine gx_sub (ls2 := [(0, .int (gI v0)), (1, .int (gI t2))]) [1, 0] rfl ?_
        exact zb_L_letter_87  e
      · refine gy_icmp_ne (tgt := 34) (gi_rgS g3) (by decide) dL_letter_26 (by decide) (fun _ => ?_) (fun z => absurd z c14)
        refine gx_iload_n dL_letter_34 rfl 0 rfl ?_
        refine gy_iconst dL_letter_35 ?_
        refine gx_iE e (fun c15 e => ?_) (fun c15 e => ?_)
        · refine gy_icmp_ne (tgt := 44) (gi_rgS g3) (by decide) dL_letter_36 (by decide) (fun z => absurd c15 z) (fun _ => ?_)
          refine gy_bipush dL_letter_39 gcb_63 ?_
          refine gx_goto (tgt := 87) dL_letter_41 (by decide) ?_
          refine gx_sub (ls2 := [(0, .int (gI v0)), (1, .int (gI t2))]) [1, 0] rfl ?_
          exact zb_L_letter_87  e
        · refine gy_icmp_ne (tgt := 44) (gi_rgS g3) (by decide) dL_letter_36 (by decide) (fun _ => ?_) (fun z => absurd z c15)
          refine gx_iload_n dL_letter_44 rfl 0 rfl ?_
          refine gy_iconst dL_letter_45 ?_
          refine gx_iE e (fun c16 e => ?_) (fun c16 e => ?_)
          · refine gy_icmp_ne (tgt := 54) (gi_rgS g3) (by decide) dL_letter_46 (by decide) (fun z => absurd c16 z) (fun _ => ?_)
            refine gy_bipush dL_letter_49 gcb_42 ?_
            refine gx_goto (tgt := 87) dL_letter_51 (by decide) ?_
            refine gx_sub (ls2 := [(0, .int (gI v0)), (1, .int (gI t2))]) [1, 0] rfl ?_
            exact zb_L_letter_87  e
          · refine gy_icmp_ne (tgt := 54) (gi_rgS g3) (by decide) dL_letter_46 (by decide) (fun _ => ?_) (fun z => absurd z c16)
            refine gx_iload_n dL_letter_54 rfl 0 rfl ?_
            refine gy_iconst dL_letter_55 ?_
            refine gx_iE e (fun c17 e => ?_) (fun c17 e => ?_)
            · refine gy_icmp_ne (tgt := 64) (gi_rgS g3) (by decide) dL_letter_56 (by decide) (fun z => absurd c17 z) (fun _ => ?_)
              refine gy_bipush dL_letter_59 gcb_43 ?_
              refine gx_goto (tgt := 87) dL_letter_61 (by decide) ?_
              refine gx_sub (ls2 := [(0, .int (gI v0)), (1, .int (gI t2))]) [1, 0] rfl ?_
              exact zb_L_letter_87  e
            · refine gy_icmp_ne (tgt := 64) (gi_rgS g3) (by decide) dL_letter_56 (by decide) (fun _ => ?_) (fun z => absurd z c17)
              refine gx_iload_n dL_letter_64 rfl 0 rfl ?_
              refine gy_bipush dL_letter_65 gcb_6 ?_
              refine gx_iE e (fun c18 e => ?_) (fun c18 e => ?_)
              · refine gy_icmp_ne (tgt := 75) (gi_rgS g3) (by decide) dL_letter_67 (by decide) (fun z => absurd c18 z) (fun _ => ?_)
                refine gy_bipush dL_letter_70 gcb_37 ?_
                refine gx_goto (tgt := 87) dL_letter_72 (by decide) ?_
                refine gx_sub (ls2 := [(0, .int (gI v0)), (1, .int (gI t2))]) [1, 0] rfl ?_
                exact zb_L_letter_87  e
              · refine gy_icmp_ne (tgt := 75) (gi_rgS g3) (by decide) dL_letter_67 (by decide) (fun _ => ?_) (fun z => absurd z c18)
                refine gx_iload_n dL_letter_75 rfl 0 rfl ?_
                refine gy_bipush dL_letter_76 gcb_7 ?_
                refine gx_iE e (fun c19 e => ?_) (fun c19 e => ?_)
                · refine gy_icmp_ne (tgt := 86) (gi_rgS g3) (by decide) dL_letter_78 (by decide) (fun z => absurd c19 z) (fun _ => ?_)
                  refine gy_bipush dL_letter_81 gcb_58 ?_
                  refine gx_goto (tgt := 87) dL_letter_83 (by decide) ?_
                  refine gx_sub (ls2 := [(0, .int (gI v0)), (1, .int (gI t2))]) [1, 0] rfl ?_
                  exact zb_L_letter_87  e
                · refine gy_icmp_ne (tgt := 86) (gi_rgS g3) (by decide) dL_letter_78 (by decide) (fun _ => ?_) (fun z => absurd z c19)
                  refine gy_iconst dL_letter_86 ?_
                  refine gx_sub (ls2 := [(0, .int (gI v0)), (1, .int (gI t2))]) [1, 0] rfl ?_
                  exact zb_L_letter_87  e
/-! L_draws  -/
set_option maxRecDepth 100000 in
def b_L_draws_28 (n : Nat) (L : Nat) (xs : Nat → Int) (r28 : Nat → Int → Int → Int → gi_H → Option (Int × gi_H)) (v1 : Nat) (v2 : Int) (v4 : Int) (v5 : Int)  (h : gi_H) : Option (Int × gi_H) :=
  Option.bind (gi_rg v5) fun _ => Option.bind (gi_rg v4) fun _ => if v4 ≤ v5 then (some (v4, h)) else (Option.bind (gi_dg (v2 + ((7 : Int) * v5)) (67 : Int)) fun _ => Option.bind (gi_mk h) fun _ => Option.bind (f_L_cell L xs ((v2 + ((7 : Int) * v5)) % (67 : Int)) h) fun q11 => Option.bind (gi_dg q11 (3 : Int)) fun _ => Option.bind (f_L_letter ((q11 / (3 : Int)) + ((5 : Int) * v5)) h) fun q14 => Option.bind (gi_s1 h v1 v5 q14) fun h15 => gx_nm (v5 + (1 : Int)) fun t16 => r28 v1 v2 v4 t16 h15)
set_option maxRecDepth 100000 in
theorem zb_L_draws_28 {al : Bool} {n : Nat} {L : Nat} {xs : Nat → Int} {r28 : Nat → Int → Int → Int → gi_H → Option (Int × gi_H)} {res : Int} {h1 : gi_H} (hr28 : ∀ (x1 : Nat) (x2 : Int) (x4 : Int) (x5 : Int) (hh : gi_H), r28 x1 x2 x4 x5 hh = some (res, h1) → gx_Z (mL_draws L xs) al al 0 0 28 [(0, .ref 100000), (1, .ref x1), (2, .int (gI x2)), (4, .int (gI x4)), (5, .int (gI x5))] [] (gi_cv hh) (.inl (some (.int (gI res)))) (gi_cv h1)) {v1 : Nat} {v2 : Int} {v4 : Int} {v5 : Int}  {h : gi_H} (e : b_L_draws_28 n L xs r28 v1 v2 v4 v5 h = some (res, h1)) : gx_Z (mL_draws L xs) al al 0 0 28 [(0, .ref 100000), (1, .ref v1), (2, .int (gI v2)), (4, .int (gI v4)), (5, .int (gI v5))] [] (gi_cv h) (.inl (some (.int (gI res)))) (gi_cv h1) := by
  refine gx_iload dL_draws_28 4 rfl ?_
  refine gx_iload dL_draws_30 3 rfl ?_
  refine gx_bE e (fun _ g7 e => ?_)
  refine gx_bE e (fun _ g8 e => ?_)
  refine gx_iE e (fun c9 e => ?_) (fun c9 e => ?_)
  · refine gy_icmp_ge (tgt := 69) (gi_rgS g7) (gi_rgS g8) dL_draws_32 (by decide) (fun _ => ?_) (fun z => absurd c9 z)
    refine gx_iload dL_draws_69 3 rfl ?_
    cases e
    exact gx_iret dL_draws_71 rfl ⟨Nat.le_of_ble_eq_true rfl, Nat.le_of_ble_eq_true rfl⟩ (fun z => z)
  · refine gy_icmp_ge (tgt := 69) (gi_rgS g7) (gi_rgS g8) dL_draws_32 (by decide) (fun z => absurd z c9) (fun _ => ?_)
    refine gx_aload_n dL_draws_35 rfl 1 rfl ?_
    refine gx_iload dL_draws_36 4 rfl ?_
    refine gx_aload_n dL_draws_38 rfl 0 rfl ?_
    refine gx_iload_n dL_draws_39 rfl 2 rfl ?_
    refine gy_bipush dL_draws_40 gcb_7 ?_
    refine gx_iload dL_draws_42 4 rfl ?_
    refine gy_imul dL_draws_44 ?_
    refine gy_iadd dL_draws_45 ?_
    refine gy_bipush dL_draws_46 gcb_67 ?_
    refine gx_bE e (fun _ hu10 e => ?_)
    refine gy_irem hu10 dL_draws_48 ?_
    refine gx_bE e (fun _ g12 e => ?_)
    refine gx_bE e (fun q11 hq11 e => ?_)
    refine gx_callSS (n := 2) (st := [.int (gI v5), .ref v1]) (As := [.ref 100000, .int (gI ((v2 + ((7 : Int) * v5)) % (67 : Int)))]) (q := (L, fun j => gI (xs j))) rfl rfl (Nat.le_of_lt (gi_mkS g12)) dL_draws_49 (z_L_cell hq11) rfl ⟨rfl, gw_cw_L_cell, gw_0, gp_L_cell, ⟨Nat.le_of_ble_eq_true rfl, Nat.le_of_ble_eq_true rfl⟩⟩ gw_646 gw_647 ⟨Nat.le_of_ble_eq_true rfl, Nat.le_of_ble_eq_true rfl⟩ (Nat.le_of_ble_eq_true rfl) (gy_k1 (x := .int (gI q11)) (kc2 := 0) (ks2 := 0) ⟨rfl, rfl⟩ ?_) gy_kn
    refine gy_iconst dL_draws_52 ?_
    refine gx_bE e (fun _ hu13 e => ?_)
    refine gy_idiv hu13 dL_draws_53 ?_
    refine gy_iconst dL_draws_54 ?_
    refine gx_iload dL_draws_55 4 rfl ?_
    refine gy_imul dL_draws_57 ?_
    refine gy_iadd dL_draws_58 ?_
    refine gx_bE e (fun q14 hq14 e => ?_)
    refine gx_callS (n := 1) (st := [.int (gI v5), .ref v1]) (As := [.int (gI ((q11 / (3 : Int)) + ((5 : Int) * v5)))]) dL_draws_59 (z_L_letter hq14) rfl ⟨rfl, gw_cw_L_letter, gw_0, gp_L_letter, ⟨Nat.le_of_ble_eq_true rfl, Nat.le_of_ble_eq_true rfl⟩⟩ gw_958 gw_959 ⟨Nat.le_of_ble_eq_true rfl, Nat.le_of_ble_eq_true rfl⟩ (Nat.le_of_ble_eq_true rfl) (gy_k1 (x := .int (gI q14)) (kc2 := 0) (ks2 := 0) ⟨rfl, rfl⟩ ?_) gy_kn
    refine gx_bE e (fun h15 hh15 e => ?_)
    refine gy_t1 hh15 dL_draws_62 ?_
    refine gx_nE e (fun t16 ht16 e => ?_)
    refine gy_iinc (v := t16) (ls2 := [(5, .int (gI t16)), (0, .ref 100000), (1, .ref v1), (2, .int (gI v2)), (4, .int (gI v4))]) dL_draws_63 4 rfl ht16 (Nat.le_of_ble_eq_true rfl) rfl ?_
    refine gx_goto (tgt := 28) dL_draws_66 (by decide) ?_
    refine gx_sub (ls2 := [(0, .ref 100000), (1, .ref v1), (2, .int (gI v2)), (4, .int (gI v4)), (5, .int (gI t16))]) [1, 2, 3, 4, 0] rfl ?_
    exact hr28 _ _ _ _ _ e
def l_L_draws_28 (n : Nat) (L : Nat) (xs : Nat → Int)  : Nat → Nat → Int → Int → Int → gi_H → Option (Int × gi_H)
  | 0, _, _, _, _, _ => none
  | k + 1, v1, v2, v4, v5, h => b_L_draws_28 n L xs  (l_L_draws_28 n L xs  k) v1 v2 v4 v5 h
theorem zl_L_draws_28 {al : Bool} {n : Nat} {L : Nat} {xs : Nat → Int}  {res : Int} {h1 : gi_H}  : ∀ (k : Nat) (v1 : Nat) (v2 : Int) (v4 : Int) (v5 : Int) (h : gi_H), l_L_draws_28 n L xs  k v1 v2 v4 v5 h = some (res, h1) → gx_Z (mL_draws L xs) al al 0 0 28 [(0, .ref 100000), (1, .ref v1), (2, .int (gI v2)), (4, .int (gI v4)), (5, .int (gI v5))] [] (gi_cv h) (.inl (some (.int (gI res)))) (gi_cv h1)
  | 0, _, _, _, _, _, e => gx_0E e
  | k + 1, _, _, _, _, _, e => zb_L_draws_28 (n := n)  (zl_L_draws_28  k) e
set_option maxRecDepth 100000 in
def f_L_draws (n : Nat) (L : Nat) (xs : Nat → Int) (v1 : Nat) (v2 : Int) (v3 : Int) (h : gi_H) : Option (Int × gi_H) :=
  Option.bind (gi_dg v3 (10 : Int)) fun _ => gx_nm ((3 : Int) + (v3 % (10 : Int))) fun t2 => Option.bind (gi_dg v3 (10 : Int)) fun _ => Option.bind (gi_dg (v3 / (10 : Int)) (4 : Int)) fun _ => Option.bind (gi_s1 h v1 (0 : Int) ((65 : Int) + ((v3 / (10 : Int)) % (4 : Int)))) fun h5 => Option.bind (gi_s1 h5 v1 (1 : Int) (58 : Int)) fun h6 => l_L_draws_28 n L xs  n v1 v2 t2 (2 : Int) h6
set_option maxRecDepth 100000 in
theorem z_L_draws {al : Bool} {n : Nat} {L : Nat} {xs : Nat → Int} {v1 : Nat} {v2 : Int} {v3 : Int} {h : gi_H} {res : Int} {h1 : gi_H} (e : f_L_draws n L xs v1 v2 v3 h = some (res, h1)) : gx_CwS (mL_draws L xs) al [.ref 100000, .ref v1, .int (gI v2), .int (gI v3)] (gi_cv h) (.inl (some (.int (gI res)))) (gi_cv h1) := by
  refine gx_enterS (show plainName yL_draws.cls = true by decide +kernel) rfl rfl (Nat.le_of_ble_eq_true rfl) ?_
  show gx_Z (mL_draws L xs) al al 0 0 0 [(0, .ref 100000), (1, .ref v1), (2, .int (gI v2)), (3, .int (gI v3))] [] (gi_cv h) (.inl (some (.int (gI res)))) (gi_cv h1)
  refine gy_iconst dL_draws_0 ?_
  refine gx_iload_n dL_draws_1 rfl 3 rfl ?_
  refine gy_bipush dL_draws_2 gcb_10 ?_
  refine gx_bE e (fun _ hu1 e => ?_)
  refine gy_irem hu1 dL_draws_4 ?_
  refine gy_iadd dL_draws_5 ?_
  refine gx_nE e (fun t2 ht2 e => ?_)
  rw [ht2]
  refine gx_istore (ls2 := [(4, .int (gI t2)), (0, .ref 100000), (1, .ref v1), (2, .int (gI v2)), (3, .int (gI v3))]) dL_draws_6 (Nat.le_of_ble_eq_true rfl) rfl ?_
  refine gx_aload_n dL_draws_8 rfl 2 rfl ?_
  refine gy_iconst dL_draws_9 ?_
  refine gy_bipush dL_draws_10 gcb_65 ?_
  refine gx_iload_n dL_draws_12 rfl 4 rfl ?_
  refine gy_bipush dL_draws_13 gcb_10 ?_
  refine gx_bE e (fun _ hu3 e => ?_)
  refine gy_idiv hu3 dL_draws_15 ?_
  refine gy_iconst dL_draws_16 ?_
  refine gx_bE e (fun _ hu4 e => ?_)
  refine gy_irem hu4 dL_draws_17 ?_
  refine gy_iadd dL_draws_18 ?_
  refine gx_bE e (fun h5 hh5 e => ?_)
  refine gy_t1 hh5 dL_draws_19 ?_
  refine gx_aload_n dL_draws_20 rfl 2 rfl ?_
  refine gy_iconst dL_draws_21 ?_
  refine gy_bipush dL_draws_22 gcb_58 ?_
  refine gx_bE e (fun h6 hh6 e => ?_)
  refine gy_t1 hh6 dL_draws_24 ?_
  refine gy_iconst dL_draws_25 ?_
  refine gx_istore (ls2 := [(5, .int (gI (2 : Int))), (4, .int (gI t2)), (0, .ref 100000), (1, .ref v1), (2, .int (gI v2)), (3, .int (gI v3))]) dL_draws_26 (Nat.le_of_ble_eq_true rfl) rfl ?_
  refine gx_sub (ls2 := [(0, .ref 100000), (1, .ref v1), (2, .int (gI v2)), (4, .int (gI t2)), (5, .int (gI (2 : Int)))]) [2, 3, 4, 1, 0] rfl ?_
  exact zl_L_draws_28  n _ _ _ _ _ e
/-! X8_clear  -/
set_option maxRecDepth 100000 in
def f_X8_clear (v0 : Nat) (h : gi_H) : Option (Int × gi_H) :=
  Option.bind (gi_gI h v0 7 1) fun t1 => Option.bind (gi_pI h v0 7 1 (0 : Int)) fun h2 => some (t1, h2)
set_option maxRecDepth 100000 in
theorem z_X8_clear {al : Bool} {v0 : Nat} {h : gi_H} {res : Int} {h1 : gi_H} (e : f_X8_clear v0 h = some (res, h1)) : gx_Cw mX8_clear al [.ref v0] (gi_cv h) (.inl (some (.int (gI res)))) (gi_cv h1) := by
  refine gx_enter (by decide +kernel) rfl (Nat.le_of_ble_eq_true rfl) ?_
  show gx_Z mX8_clear al al 0 0 0 [(0, .ref v0)] [] (gi_cv h) (.inl (some (.int (gI res)))) (gi_cv h1)
  refine gx_aload_n dX8_clear_0 rfl 0 rfl ?_
  refine gx_bE e (fun t1 ht1 e => ?_)
  refine gy_fI ht1 dX8_clear_1 gf_RX8_15_7_1 (by decide) gkN_7_1 gkR_7_1 ?_
  refine gx_istore_n (ls2 := [(1, .int (gI t1)), (0, .ref v0)]) dX8_clear_4 rfl (Nat.le_of_ble_eq_true rfl) rfl ?_
  refine gx_aload_n dX8_clear_5 rfl 1 rfl ?_
  refine gy_iconst dX8_clear_6 ?_
  refine gx_bE e (fun h2 hh2 e => ?_)
  refine gy_qI hh2 dX8_clear_7 gf_RX8_15_7_1 (by decide) gkN_7_1 rfl (Or.inl rfl) ?_
  refine gx_iload_n dX8_clear_10 rfl 0 rfl ?_
  cases e
  exact gx_iret dX8_clear_11 rfl ⟨Nat.le_of_ble_eq_true rfl, Nat.le_of_ble_eq_true rfl⟩ (fun z => z)
/-! X11_wipe  -/
set_option maxRecDepth 100000 in
def f_X11_wipe (v0 : Nat) (h : gi_H) : Option (Int × gi_H) :=
  Option.bind (gi_gR h v0 9 0) fun t1 => Option.bind (gi_is h t1 7) fun _ => Option.bind (f_X8_clear t1 h) fun q3 => some (q3.1, q3.2)
set_option maxRecDepth 100000 in
theorem z_X11_wipe {al : Bool} {v0 : Nat} {h : gi_H} {res : Int} {h1 : gi_H} (e : f_X11_wipe v0 h = some (res, h1)) : gx_Cw mX11_wipe al [.ref v0] (gi_cv h) (.inl (some (.int (gI res)))) (gi_cv h1) := by
  refine gx_enter (by decide +kernel) rfl (Nat.le_of_ble_eq_true rfl) ?_
  show gx_Z mX11_wipe al al 0 0 0 [(0, .ref v0)] [] (gi_cv h) (.inl (some (.int (gI res)))) (gi_cv h1)
  refine gx_aload_n dX11_wipe_0 rfl 0 rfl ?_
  refine gx_bE e (fun t1 ht1 e => ?_)
  refine gy_fR ht1 dX11_wipe_1 gf_RX11_12_9_0 (by decide) gkN_9_0 gkR_9_0 ?_
  refine gx_bE e (fun _ hu2 e => ?_)
  refine gx_bE e (fun q3 hq3 e => ?_)
  refine gx_callV (n := 0) (st := []) (As := []) (b := t1) dX11_wipe_4 (z_X8_clear hq3) rfl ⟨rfl, gw_cw_X8_clear, gw_2, gp_X8_clear, ⟨Nat.le_of_ble_eq_true rfl, Nat.le_of_ble_eq_true rfl⟩⟩ (gi_isS hu2) (by decide) gw_951 gw_952 gw_953 rfl ⟨Nat.le_of_ble_eq_true rfl, Nat.le_of_ble_eq_true rfl⟩ (Nat.le_of_ble_eq_true rfl) (gy_k1 (x := .int (gI q3.1)) (kc2 := 0) (ks2 := 0) ⟨rfl, rfl⟩ ?_) gy_kn
  cases e
  exact gx_iret dX11_wipe_7 rfl ⟨Nat.le_of_ble_eq_true rfl, Nat.le_of_ble_eq_true rfl⟩ (fun z => z)
/-! X11_isTerminalLetter  -/
set_option maxRecDepth 100000 in
def b_X11_isTerminalLetter_16    (h : gi_H) : Option (Int) :=
  some (0 : Int)
set_option maxRecDepth 100000 in
theorem zb_X11_isTerminalLetter_16 {al : Bool}  {res : Int}    {h : gi_H} (e : b_X11_isTerminalLetter_16  h = some res) : gx_Z mX11_isTerminalLetter al al 0 0 16 [] [] (gi_cv h) (.inl (some (.int (gI res)))) (gi_cv h) := by
  refine gy_iconst dX11_isTerminalLetter_16 ?_
  cases e
  exact gx_zret (by decide +kernel) dX11_isTerminalLetter_17 rfl ⟨Nat.le_of_ble_eq_true rfl, Nat.le_of_ble_eq_true rfl⟩ (fun z => z)
set_option maxRecDepth 100000 in
def f_X11_isTerminalLetter (v0 : Int) (h : gi_H) : Option (Int) :=
  Option.bind (gi_rg v0) fun _ => if v0 < (97 : Int) then (b_X11_isTerminalLetter_16   h) else (if (104 : Int) < v0 then (b_X11_isTerminalLetter_16   h) else (some (1 : Int)))
set_option maxRecDepth 100000 in
theorem z_X11_isTerminalLetter {al : Bool} {v0 : Int} {h : gi_H} {res : Int} (e : f_X11_isTerminalLetter v0 h = some res) : gx_Cw mX11_isTerminalLetter al [.int (gI v0)] (gi_cv h) (.inl (some (.int (gI res)))) (gi_cv h) := by
  refine gx_enter (by decide +kernel) rfl (Nat.le_of_ble_eq_true rfl) ?_
  show gx_Z mX11_isTerminalLetter al al 0 0 0 [(0, .int (gI v0))] [] (gi_cv h) (.inl (some (.int (gI res)))) (gi_cv h)
  refine gx_iload_n dX11_isTerminalLetter_0 rfl 0 rfl ?_
  refine gy_bipush dX11_isTerminalLetter_1 gcb_97 ?_
  refine gx_bE e (fun _ g1 e => ?_)
  refine gx_iE e (fun c2 e => ?_) (fun c2 e => ?_)
  · refine gy_icmp_lt (tgt := 16) (gi_rgS g1) (by decide) dX11_isTerminalLetter_3 (by decide) (fun _ => ?_) (fun z => absurd c2 z)
    refine gx_sub (ls2 := []) [] rfl ?_
    exact zb_X11_isTerminalLetter_16  e
  · refine gy_icmp_lt (tgt := 16) (gi_rgS g1) (by decide) dX11_isTerminalLetter_3 (by decide) (fun z => absurd z c2) (fun _ => ?_)
    refine gx_iload_n dX11_isTerminalLetter_6 rfl 0 rfl ?_
    refine gy_bipush dX11_isTerminalLetter_7 gcb_104 ?_
    refine gx_iE e (fun c3 e => ?_) (fun c3 e => ?_)
    · refine gy_icmp_gt (tgt := 16) (gi_rgS g1) (by decide) dX11_isTerminalLetter_9 (by decide) (fun _ => ?_) (fun z => absurd c3 z)
      refine gx_sub (ls2 := []) [] rfl ?_
      exact zb_X11_isTerminalLetter_16  e
    · refine gy_icmp_gt (tgt := 16) (gi_rgS g1) (by decide) dX11_isTerminalLetter_9 (by decide) (fun z => absurd z c3) (fun _ => ?_)
      refine gy_iconst dX11_isTerminalLetter_12 ?_
      refine gx_goto (tgt := 17) dX11_isTerminalLetter_13 (by decide) ?_
      cases e
      exact gx_zret (by decide +kernel) dX11_isTerminalLetter_17 rfl ⟨Nat.le_of_ble_eq_true rfl, Nat.le_of_ble_eq_true rfl⟩ (fun z => z)
/-! X11_isNonterminalLetter  -/
set_option maxRecDepth 100000 in
def b_X11_isNonterminalLetter_16    (h : gi_H) : Option (Int) :=
  some (0 : Int)
set_option maxRecDepth 100000 in
theorem zb_X11_isNonterminalLetter_16 {al : Bool}  {res : Int}    {h : gi_H} (e : b_X11_isNonterminalLetter_16  h = some res) : gx_Z mX11_isNonterminalLetter al al 0 0 16 [] [] (gi_cv h) (.inl (some (.int (gI res)))) (gi_cv h) := by
  refine gy_iconst dX11_isNonterminalLetter_16 ?_
  cases e
  exact gx_zret (by decide +kernel) dX11_isNonterminalLetter_17 rfl ⟨Nat.le_of_ble_eq_true rfl, Nat.le_of_ble_eq_true rfl⟩ (fun z => z)
set_option maxRecDepth 100000 in
def f_X11_isNonterminalLetter (v0 : Int) (h : gi_H) : Option (Int) :=
  Option.bind (gi_rg v0) fun _ => if v0 < (65 : Int) then (b_X11_isNonterminalLetter_16   h) else (if (72 : Int) < v0 then (b_X11_isNonterminalLetter_16   h) else (some (1 : Int)))
set_option maxRecDepth 100000 in
theorem z_X11_isNonterminalLetter {al : Bool} {v0 : Int} {h : gi_H} {res : Int} (e : f_X11_isNonterminalLetter v0 h = some res) : gx_Cw mX11_isNonterminalLetter al [.int (gI v0)] (gi_cv h) (.inl (some (.int (gI res)))) (gi_cv h) := by
  refine gx_enter (by decide +kernel) rfl (Nat.le_of_ble_eq_true rfl) ?_
  show gx_Z mX11_isNonterminalLetter al al 0 0 0 [(0, .int (gI v0))] [] (gi_cv h) (.inl (some (.int (gI res)))) (gi_cv h)
  refine gx_iload_n dX11_isNonterminalLetter_0 rfl 0 rfl ?_
  refine gy_bipush dX11_isNonterminalLetter_1 gcb_65 ?_
  refine gx_bE e (fun _ g1 e => ?_)
  refine gx_iE e (fun c2 e => ?_) (fun c2 e => ?_)
  · refine gy_icmp_lt (tgt := 16) (gi_rgS g1) (by decide) dX11_isNonterminalLetter_3 (by decide) (fun _ => ?_) (fun z => absurd c2 z)
    refine gx_sub (ls2 := []) [] rfl ?_
    exact zb_X11_isNonterminalLetter_16  e
  · refine gy_icmp_lt (tgt := 16) (gi_rgS g1) (by decide) dX11_isNonterminalLetter_3 (by decide) (fun z => absurd z c2) (fun _ => ?_)
    refine gx_iload_n dX11_isNonterminalLetter_6 rfl 0 rfl ?_
    refine gy_bipush dX11_isNonterminalLetter_7 gcb_72 ?_
    refine gx_iE e (fun c3 e => ?_) (fun c3 e => ?_)
    · refine gy_icmp_gt (tgt := 16) (gi_rgS g1) (by decide) dX11_isNonterminalLetter_9 (by decide) (fun _ => ?_) (fun z => absurd c3 z)
      refine gx_sub (ls2 := []) [] rfl ?_
      exact zb_X11_isNonterminalLetter_16  e
    · refine gy_icmp_gt (tgt := 16) (gi_rgS g1) (by decide) dX11_isNonterminalLetter_9 (by decide) (fun z => absurd z c3) (fun _ => ?_)
      refine gy_iconst dX11_isNonterminalLetter_12 ?_
      refine gx_goto (tgt := 17) dX11_isNonterminalLetter_13 (by decide) ?_
      cases e
      exact gx_zret (by decide +kernel) dX11_isNonterminalLetter_17 rfl ⟨Nat.le_of_ble_eq_true rfl, Nat.le_of_ble_eq_true rfl⟩ (fun z => z)
/-! X11_isRepeat  -/
set_option maxRecDepth 100000 in
def b_X11_isRepeat_18    (h : gi_H) : Option (Int) :=
  some (1 : Int)
set_option maxRecDepth 100000 in
theorem zb_X11_isRepeat_18 {al : Bool}  {res : Int}    {h : gi_H} (e : b_X11_isRepeat_18  h = some res) : gx_Z mX11_isRepeat al al 0 0 18 [] [] (gi_cv h) (.inl (some (.int (gI res)))) (gi_cv h) := by
  refine gy_iconst dX11_isRepeat_18 ?_
  refine gx_goto (tgt := 23) dX11_isRepeat_19 (by decide) ?_
  cases e
  exact gx_zret (by decide +kernel) dX11_isRepeat_23 rfl ⟨Nat.le_of_ble_eq_true rfl, Nat.le_of_ble_eq_true rfl⟩ (fun z => z)
set_option maxRecDepth 100000 in
def f_X11_isRepeat (v0 : Int) (h : gi_H) : Option (Int) :=
  Option.bind (gi_rg v0) fun _ => if v0 = (63 : Int) then (b_X11_isRepeat_18   h) else (if v0 = (42 : Int) then (b_X11_isRepeat_18   h) else (if v0 = (43 : Int) then (b_X11_isRepeat_18   h) else (some (0 : Int))))
set_option maxRecDepth 100000 in
theorem z_X11_isRepeat {al : Bool} {v0 : Int} {h : gi_H} {res : Int} (e : f_X11_isRepeat v0 h = some res) : gx_Cw mX11_isRepeat al [.int (gI v0)] (gi_cv h) (.inl (some (.int (gI res)))) (gi_cv h) := by
  refine gx_enter (by decide +kernel) rfl (Nat.le_of_ble_eq_true rfl) ?_
  show gx_Z mX11_isRepeat al al 0 0 0 [(0, .int (gI v0))] [] (gi_cv h) (.inl (some (.int (gI res)))) (gi_cv h)
  refine gx_iload_n dX11_isRepeat_0 rfl 0 rfl ?_
  refine gy_bipush dX11_isRepeat_1 gcb_63 ?_
  refine gx_bE e (fun _ g1 e => ?_)
  refine gx_iE e (fun c2 e => ?_) (fun c2 e => ?_)
  · refine gy_icmp_eq (tgt := 18) (gi_rgS g1) (by decide) dX11_isRepeat_3 (by decide) (fun _ => ?_) (fun z => absurd c2 z)
    refine gx_sub (ls2 := []) [] rfl ?_
    exact zb_X11_isRepeat_18  e
  · refine gy_icmp_eq (tgt := 18) (gi_rgS g1) (by decide) dX11_isRepeat_3 (by decide) (fun z => absurd z c2) (fun _ => ?_)
    refine gx_iload_n dX11_isRepeat_6 rfl 0 rfl ?_
    refine gy_bipush dX11_isRepeat_7 gcb_42 ?_
    refine gx_iE e (fun c3 e => ?_) (fun c3 e => ?_)
    · refine gy_icmp_eq (tgt := 18) (gi_rgS g1) (by decide) dX11_isRepeat_9 (by decide) (fun _ => ?_) (fun z => absurd c3 z)
      refine gx_sub (ls2 := []) [] rfl ?_
      exact zb_X11_isRepeat_18  e
    · refine gy_icmp_eq (tgt := 18) (gi_rgS g1) (by decide) dX11_isRepeat_9 (by decide) (fun z => absurd z c3) (fun _ => ?_)
      refine gx_iload_n dX11_isRepeat_12 rfl 0 rfl ?_
      refine gy_bipush dX11_isRepeat_13 gcb_43 ?_
      refine gx_iE e (fun c4 e => ?_) (fun c4 e => ?_)
      · refine gy_icmp_ne (tgt := 22) (gi_rgS g1) (by decide) dX11_isRepeat_15 (by decide) (fun z => absurd c4 z) (fun _ => ?_)
        refine gx_sub (ls2 := []) [] rfl ?_
        exact zb_X11_isRepeat_18  e
      · refine gy_icmp_ne (tgt := 22) (gi_rgS g1) (by decide) dX11_isRepeat_15 (by decide) (fun _ => ?_) (fun z => absurd z c4)
        refine gy_iconst dX11_isRepeat_22 ?_
        cases e
        exact gx_zret (by decide +kernel) dX11_isRepeat_23 rfl ⟨Nat.le_of_ble_eq_true rfl, Nat.le_of_ble_eq_true rfl⟩ (fun z => z)
/-! X11_isLetter  -/
set_option maxRecDepth 100000 in
def b_X11_isLetter_51    (h : gi_H) : Option (Int) :=
  some (1 : Int)
set_option maxRecDepth 100000 in
theorem zb_X11_isLetter_51 {al : Bool}  {res : Int}    {h : gi_H} (e : b_X11_isLetter_51  h = some res) : gx_Z mX11_isLetter al al 0 0 51 [] [] (gi_cv h) (.inl (some (.int (gI res)))) (gi_cv h) := by
  refine gy_iconst dX11_isLetter_51 ?_
  refine gx_goto (tgt := 56) dX11_isLetter_52 (by decide) ?_
  cases e
  exact gx_zret (by decide +kernel) dX11_isLetter_56 rfl ⟨Nat.le_of_ble_eq_true rfl, Nat.le_of_ble_eq_true rfl⟩ (fun z => z)
set_option maxRecDepth 100000 in
def f_X11_isLetter (v0 : Int) (h : gi_H) : Option (Int) :=
  Option.bind (f_X11_isTerminalLetter v0 h) fun q1 => Option.bind (gi_rg q1) fun _ => if q1 = 0 then (Option.bind (f_X11_isNonterminalLetter v0 h) fun q4 => Option.bind (gi_rg q4) fun _ => if q4 = 0 then (Option.bind (f_X11_isRepeat v0 h) fun q7 => Option.bind (gi_rg q7) fun _ => if q7 = 0 then (Option.bind (gi_rg v0) fun _ => if v0 = (58 : Int) then (b_X11_isLetter_51   h) else (if v0 = (124 : Int) then (b_X11_isLetter_51   h) else (if v0 = (40 : Int) then (b_X11_isLetter_51   h) else (if v0 = (41 : Int) then (b_X11_isLetter_51   h) else (if v0 = (37 : Int) then (b_X11_isLetter_51   h) else (some (0 : Int))))))) else (b_X11_isLetter_51   h)) else (b_X11_isLetter_51   h)) else (b_X11_isLetter_51   h)
set_option maxRecDepth 100000 in
theorem z_X11_isLetter {al : Bool} {v0 : Int} {h : gi_H} {res : Int} (e : f_X11_isLetter v0 h = some res) : gx_Cw mX11_isLetter al [.int (gI v0)] (gi_cv h) (.inl (some (.int (gI res)))) (gi_cv h) := by
  refine gx_enter (by decide +kernel) rfl (Nat.le_of_ble_eq_true rfl) ?_
  show gx_Z mX11_isLetter al al 0 0 0 [(0, .int (gI v0))] [] (gi_cv h) (.inl (some (.int (gI res)))) (gi_cv h)
  refine gx_iload_n dX11_isLetter_0 rfl 0 rfl ?_
  refine gx_bE e (fun q1 hq1 e => ?_)
  refine gx_callS (n := 1) (st := []) (As := [.int (gI v0)]) dX11_isLetter_1 (z_X11_isTerminalLetter hq1) rfl ⟨rfl, gw_cw_X11_isTerminalLetter, gw_1, gp_X11_isTerminalLetter, ⟨Nat.le_of_ble_eq_true rfl, Nat.le_of_ble_eq_true rfl⟩⟩ gw_663 gw_371 ⟨Nat.le_of_ble_eq_true rfl, Nat.le_of_ble_eq_true rfl⟩ (Nat.le_of_ble_eq_true rfl) (gy_k1 (x := .int (gI q1)) (kc2 := 0) (ks2 := 0) ⟨rfl, rfl⟩ ?_) gy_kn
  refine gx_bE e (fun _ g2 e => ?_)
  refine gx_iE e (fun c3 e => ?_) (fun c3 e => ?_)
  · refine gy_if_ne (tgt := 51) (gi_rgS g2) dX11_isLetter_4 (by decide) (fun z => absurd c3 z) (fun _ => ?_)
    refine gx_iload_n dX11_isLetter_7 rfl 0 rfl ?_
    refine gx_bE e (fun q4 hq4 e => ?_)
    refine gx_callS (n := 1) (st := []) (As := [.int (gI v0)]) dX11_isLetter_8 (z_X11_isNonterminalLetter hq4) rfl ⟨rfl, gw_cw_X11_isNonterminalLetter, gw_1, gp_X11_isNonterminalLetter, ⟨Nat.le_of_ble_eq_true rfl, Nat.le_of_ble_eq_true rfl⟩⟩ gw_664 gw_368 ⟨Nat.le_of_ble_eq_true rfl, Nat.le_of_ble_eq_true rfl⟩ (Nat.le_of_ble_eq_true rfl) (gy_k1 (x := .int (gI q4)) (kc2 := 0) (ks2 := 0) ⟨rfl, rfl⟩ ?_) gy_kn
    refine gx_bE e (fun _ g5 e => ?_)
    refine gx_iE e (fun c6 e => ?_) (fun c6 e => ?_)
    · refine gy_if_ne (tgt := 51) (gi_rgS g5) dX11_isLetter_11 (by decide) (fun z => absurd c6 z) (fun _ => ?_)
      refine gx_iload_n dX11_isLetter_14 rfl 0 rfl ?_
      refine gx_bE e (fun q7 hq7 e => ?_)
      refine gx_callS (n := 1) (st := []) (As := [.int (gI v0)]) dX11_isLetter_15 (z_X11_isRepeat hq7) rfl ⟨rfl, gw_cw_X11_isRepeat, gw_1, gp_X11_isRepeat, ⟨Nat.le_of_ble_eq_true rfl, Nat.le_of_ble_eq_true rfl⟩⟩ gw_665 gw_377 ⟨Nat.le_of_ble_eq_true rfl, Nat.le_of_ble_eq_true rfl⟩ (Nat.le_of_ble_eq_true rfl) (gy_k1 (x := .int (gI q7)) (kc2 := 0) (ks2 := 0) ⟨rfl, rfl⟩ ?_) gy_kn
      refine gx_bE e (fun _ g8 e => ?_)
      refine gx_iE e (fun c9 e => ?_) (fun c9 e => ?_)
      · refine gy_if_ne (tgt := 51) (gi_rgS g8) dX11_isLetter_18 (by decide) (fun z => absurd c9 z) (fun _ => ?_)
        refine gx_iload_n dX11_isLetter_21 rfl 0 rfl ?_
        refine gy_bipush dX11_isLetter_22 gcb_58 ?_
        refine gx_bE e (fun _ g10 e => ?_)
        refine gx_iE e (fun c11 e => ?_) (fun c11 e => ?_)
        · refine gy_icmp_eq (tgt := 51) (gi_rgS g10) (by decide) dX11_isLetter_24 (by decide) (fun _ => ?_) (fun z => absurd c11 z)
          refine gx_sub (ls2 := []) [] rfl ?_
          exact zb_X11_isLetter_51  e
        · refine gy_icmp_eq (tgt := 51) (gi_rgS g10) (by decide) dX11_isLetter_24 (by decide) (fun z => absurd z c11) (fun _ => ?_)
          refine gx_iload_n dX11_isLetter_27 rfl 0 rfl ?_
          refine gy_bipush dX11_isLetter_28 gcb_124 ?_
          refine gx_iE e (fun c12 e => ?_) (fun c12 e => ?_)
          · refine gy_icmp_eq (tgt := 51) (gi_rgS g10) (by decide) dX11_isLetter_30 (by decide) (fun _ => ?_) (fun z => absurd c12 z)
            refine gx_sub (ls2 := []) [] rfl ?_
            exact zb_X11_isLetter_51  e
          · refine gy_icmp_eq (tgt := 51) (gi_rgS g10) (by decide) dX11_isLetter_30 (by decide) (fun z => absurd z c12) (fun _ => ?_)
            refine gx_iload_n dX11_isLetter_33 rfl 0 rfl ?_
            refine gy_bipush dX11_isLetter_34 gcb_40 ?_
            refine gx_iE e (fun c13 e => ?_) (fun c13 e => ?_)
            · refine gy_icmp_eq (tgt := 51) (gi_rgS g10) (by decide) dX11_isLetter_36 (by decide) (fun _ => ?_) (fun z => absurd c13 z)
              refine gx_sub (ls2 := []) [] rfl ?_
              exact zb_X11_isLetter_51  e
            · refine gy_icmp_eq (tgt := 51) (gi_rgS g10) (by decide) dX11_isLetter_36 (by decide) (fun z => absurd z c13) (fun _ => ?_)
              refine gx_iload_n dX11_isLetter_39 rfl 0 rfl ?_
              refine gy_bipush dX11_isLetter_40 gcb_41 ?_
              refine gx_iE e (fun c14 e => ?_) (fun c14 e => ?_)
              · refine gy_icmp_eq (tgt := 51) (gi_rgS g10) (by decide) dX11_isLetter_42 (by decide) (fun _ => ?_) (fun z => absurd c14 z)
                refine gx_sub (ls2 := []) [] rfl ?_
                exact zb_X11_isLetter_51  e
              · refine gy_icmp_eq (tgt := 51) (gi_rgS g10) (by decide) dX11_isLetter_42 (by decide) (fun z => absurd z c14) (fun _ => ?_)
                refine gx_iload_n dX11_isLetter_45 rfl 0 rfl ?_
                refine gy_bipush dX11_isLetter_46 gcb_37 ?_
                refine gx_iE e (fun c15 e => ?_) (fun c15 e => ?_)
                · refine gy_icmp_ne (tgt := 55) (gi_rgS g10) (by decide) dX11_isLetter_48 (by decide) (fun z => absurd c15 z) (fun _ => ?_)
                  refine gx_sub (ls2 := []) [] rfl ?_
                  exact zb_X11_isLetter_51  e
                · refine gy_icmp_ne (tgt := 55) (gi_rgS g10) (by decide) dX11_isLetter_48 (by decide) (fun _ => ?_) (fun z => absurd z c15)
                  refine gy_iconst dX11_isLetter_55 ?_
                  cases e
                  exact gx_zret (by decide +kernel) dX11_isLetter_56 rfl ⟨Nat.le_of_ble_eq_true rfl, Nat.le_of_ble_eq_true rfl⟩ (fun z => z)
      · refine gy_if_ne (tgt := 51) (gi_rgS g8) dX11_isLetter_18 (by decide) (fun _ => ?_) (fun z => absurd z c9)
        refine gx_sub (ls2 := []) [] rfl ?_
        exact zb_X11_isLetter_51  e
    · refine gy_if_ne (tgt := 51) (gi_rgS g5) dX11_isLetter_11 (by decide) (fun _ => ?_) (fun z => absurd z c6)
      refine gx_sub (ls2 := []) [] rfl ?_
      exact zb_X11_isLetter_51  e
  · refine gy_if_ne (tgt := 51) (gi_rgS g2) dX11_isLetter_4 (by decide) (fun _ => ?_) (fun z => absurd z c3)
    refine gx_sub (ls2 := []) [] rfl ?_
    exact zb_X11_isLetter_51  e
/-! X8_isFull  -/
set_option maxRecDepth 100000 in
def f_X8_isFull (v0 : Nat) (h : gi_H) : Option (Int) :=
  Option.bind (gi_gI h v0 7 1) fun t1 => Option.bind (gi_gR h v0 7 0) fun t2 => Option.bind (gi_ln h t2) fun t3 => Option.bind (gi_rg t1) fun _ => Option.bind (gi_rg t3) fun _ => if t1 < t3 then (some (0 : Int)) else (some (1 : Int))
set_option maxRecDepth 100000 in
theorem z_X8_isFull {al : Bool} {v0 : Nat} {h : gi_H} {res : Int} (e : f_X8_isFull v0 h = some res) : gx_Cw mX8_isFull al [.ref v0] (gi_cv h) (.inl (some (.int (gI res)))) (gi_cv h) := by
  refine gx_enter (by decide +kernel) rfl (Nat.le_of_ble_eq_true rfl) ?_
  show gx_Z mX8_isFull al al 0 0 0 [(0, .ref v0)] [] (gi_cv h) (.inl (some (.int (gI res)))) (gi_cv h)
  refine gx_aload_n dX8_isFull_0 rfl 0 rfl ?_
  refine gx_bE e (fun t1 ht1 e => ?_)
  refine gy_fI ht1 dX8_isFull_1 gf_RX8_15_7_1 (by decide) gkN_7_1 gkR_7_1 ?_
  refine gx_aload_n dX8_isFull_4 rfl 0 rfl ?_
  refine gx_bE e (fun t2 ht2 e => ?_)
  refine gy_fR ht2 dX8_isFull_5 gf_RX8_9_7_0 (by decide) gkN_7_0 gkR_7_0 ?_
  refine gx_bE e (fun t3 ht3 e => ?_)
  refine gy_al0 ht3 dX8_isFull_8 ?_
  refine gx_bE e (fun _ g4 e => ?_)
  refine gx_bE e (fun _ g5 e => ?_)
  refine gx_iE e (fun c6 e => ?_) (fun c6 e => ?_)
  · refine gy_icmp_lt (tgt := 16) (gi_rgS g4) (gi_rgS g5) dX8_isFull_9 (by decide) (fun _ => ?_) (fun z => absurd c6 z)
    refine gy_iconst dX8_isFull_16 ?_
    cases e
    exact gx_zret (by decide +kernel) dX8_isFull_17 rfl ⟨Nat.le_of_ble_eq_true rfl, Nat.le_of_ble_eq_true rfl⟩ (fun z => z)
  · refine gy_icmp_lt (tgt := 16) (gi_rgS g4) (gi_rgS g5) dX8_isFull_9 (by decide) (fun z => absurd z c6) (fun _ => ?_)
    refine gy_iconst dX8_isFull_12 ?_
    refine gx_goto (tgt := 17) dX8_isFull_13 (by decide) ?_
    cases e
    exact gx_zret (by decide +kernel) dX8_isFull_17 rfl ⟨Nat.le_of_ble_eq_true rfl, Nat.le_of_ble_eq_true rfl⟩ (fun z => z)
/-! X8_append  -/
set_option maxRecDepth 100000 in
def b_X8_append_39  (v0 : Nat)  (h : gi_H) : Option (Int × gi_H) :=
  Option.bind (gi_gI h v0 7 1) fun t4 => some (t4, h)
set_option maxRecDepth 100000 in
theorem zb_X8_append_39 {al : Bool}  {res : Int} {h1 : gi_H}  {v0 : Nat}  {h : gi_H} (e : b_X8_append_39 v0 h = some (res, h1)) : gx_Z mX8_append al al 0 0 39 [(0, .ref v0)] [] (gi_cv h) (.inl (some (.int (gI res)))) (gi_cv h1) := by
  refine gx_aload_n dX8_append_39 rfl 0 rfl ?_
  refine gx_bE e (fun t4 ht4 e => ?_)
  refine gy_fI ht4 dX8_append_40 gf_RX8_15_7_1 (by decide) gkN_7_1 gkR_7_1 ?_
  cases e
  exact gx_iret dX8_append_43 rfl ⟨Nat.le_of_ble_eq_true rfl, Nat.le_of_ble_eq_true rfl⟩ (fun z => z)
set_option maxRecDepth 100000 in
def f_X8_append (v0 : Nat) (v1 : Int) (h : gi_H) : Option (Int × gi_H) :=
  Option.bind (gi_gI h v0 7 1) fun t1 => Option.bind (gi_rg t1) fun _ => if t1 < 0 then (b_X8_append_39  v0 h) else (Option.bind (gi_gI h v0 7 1) fun t5 => Option.bind (gi_gR h v0 7 0) fun t6 => Option.bind (gi_ln h t6) fun t7 => Option.bind (gi_rg t5) fun _ => Option.bind (gi_rg t7) fun _ => if t7 ≤ t5 then (b_X8_append_39  v0 h) else (Option.bind (gi_gR h v0 7 0) fun t11 => Option.bind (gi_gI h v0 7 1) fun t12 => Option.bind (gi_s3 h t11 t12 v1) fun h13 => Option.bind (gi_gI h13 v0 7 1) fun t14 => Option.bind (gi_pI h13 v0 7 1 (t14 + (1 : Int))) fun h15 => b_X8_append_39  v0 h15))
set_option maxRecDepth 100000 in
theorem z_X8_append {al : Bool} {v0 : Nat} {v1 : Int} {h : gi_H} {res : Int} {h1 : gi_H} (e : f_X8_append v0 v1 h = some (res, h1)) : gx_Cw mX8_append al [.ref v0, .int (gI v1)] (gi_cv h) (.inl (some (.int (gI res)))) (gi_cv h1) := by
  refine gx_enter (by decide +kernel) rfl (Nat.le_of_ble_eq_true rfl) ?_
  show gx_Z mX8_append al al 0 0 0 [(0, .ref v0), (1, .int (gI v1))] [] (gi_cv h) (.inl (some (.int (gI res)))) (gi_cv h1)
  refine gx_aload_n dX8_append_0 rfl 0 rfl ?_
  refine gx_bE e (fun t1 ht1 e => ?_)
  refine gy_fI ht1 dX8_append_1 gf_RX8_15_7_1 (by decide) gkN_7_1 gkR_7_1 ?_
  refine gx_bE e (fun _ g2 e => ?_)
  refine gx_iE e (fun c3 e => ?_) (fun c3 e => ?_)
  · refine gy_if_lt (tgt := 39) (gi_rgS g2) dX8_append_4 (by decide) (fun _ => ?_) (fun z => absurd c3 z)
    refine gx_sub (ls2 := [(0, .ref v0)]) [0] rfl ?_
    exact zb_X8_append_39  e
  · refine gy_if_lt (tgt := 39) (gi_rgS g2) dX8_append_4 (by decide) (fun z => absurd z c3) (fun _ => ?_)
    refine gx_aload_n dX8_append_7 rfl 0 rfl ?_
    refine gx_bE e (fun t5 ht5 e => ?_)
    refine gy_fI ht5 dX8_append_8 gf_RX8_15_7_1 (by decide) gkN_7_1 gkR_7_1 ?_
    refine gx_aload_n dX8_append_11 rfl 0 rfl ?_
    refine gx_bE e (fun t6 ht6 e => ?_)
    refine gy_fR ht6 dX8_append_12 gf_RX8_9_7_0 (by decide) gkN_7_0 gkR_7_0 ?_
    refine gx_bE e (fun t7 ht7 e => ?_)
    refine gy_al0 ht7 dX8_append_15 ?_
    refine gx_bE e (fun _ g8 e => ?_)
    refine gx_bE e (fun _ g9 e => ?_)
    refine gx_iE e (fun c10 e => ?_) (fun c10 e => ?_)
    · refine gy_icmp_ge (tgt := 39) (gi_rgS g8) (gi_rgS g9) dX8_append_16 (by decide) (fun _ => ?_) (fun z => absurd c10 z)
      refine gx_sub (ls2 := [(0, .ref v0)]) [0] rfl ?_
      exact zb_X8_append_39  e
    · refine gy_icmp_ge (tgt := 39) (gi_rgS g8) (gi_rgS g9) dX8_append_16 (by decide) (fun z => absurd z c10) (fun _ => ?_)
      refine gx_aload_n dX8_append_19 rfl 0 rfl ?_
      refine gx_bE e (fun t11 ht11 e => ?_)
      refine gy_fR ht11 dX8_append_20 gf_RX8_9_7_0 (by decide) gkN_7_0 gkR_7_0 ?_
      refine gx_aload_n dX8_append_23 rfl 0 rfl ?_
      refine gx_bE e (fun t12 ht12 e => ?_)
      refine gy_fI ht12 dX8_append_24 gf_RX8_15_7_1 (by decide) gkN_7_1 gkR_7_1 ?_
      refine gx_iload_n dX8_append_27 rfl 1 rfl ?_
      refine gx_bE e (fun h13 hh13 e => ?_)
      refine gy_t3 hh13 dX8_append_28 ?_
      refine gx_aload_n dX8_append_29 rfl 0 rfl ?_
      refine gx_dup dX8_append_30 rfl ?_
      refine gx_bE e (fun t14 ht14 e => ?_)
      refine gy_fI ht14 dX8_append_31 gf_RX8_15_7_1 (by decide) gkN_7_1 gkR_7_1 ?_
      refine gy_iconst dX8_append_34 ?_
      refine gy_iadd dX8_append_35 ?_
      refine gx_bE e (fun h15 hh15 e => ?_)
      refine gy_qI hh15 dX8_append_36 gf_RX8_15_7_1 (by decide) gkN_7_1 rfl (Or.inl rfl) ?_
      refine gx_sub (ls2 := [(0, .ref v0)]) [0] rfl ?_
      exact zb_X8_append_39  e
/-! X11_type  -/
set_option maxRecDepth 100000 in
def f_X11_type (v0 : Nat) (v1 : Int) (h : gi_H) : Option ((Int ⊕ String) × gi_H) :=
  Option.bind (f_X11_isLetter v1 h) fun q1 => Option.bind (gi_rg q1) fun _ => if q1 = 0 then (some (.inr gx_IAE, h)) else (Option.bind (gi_gR h v0 9 0) fun t4 => Option.bind (gi_is h t4 7) fun _ => Option.bind (f_X8_isFull t4 h) fun q6 => Option.bind (gi_rg q6) fun _ => if q6 = 0 then (Option.bind (gi_gR h v0 9 0) fun t9 => Option.bind (gi_is h t9 7) fun _ => Option.bind (f_X8_append t9 v1 h) fun q11 => some (.inl q11.1, q11.2)) else (some (.inr gx_ISE, h)))
set_option maxRecDepth 100000 in
theorem z_X11_type {v0 : Nat} {v1 : Int} {h : gi_H} {res : Int ⊕ String} {h1 : gi_H} (e : f_X11_type v0 v1 h = some (res, h1)) : gx_Cw mX11_type false [.ref v0, .int (gI v1)] (gi_cv h) (gx_oI res) (gi_cv h1) := by
  refine gx_enter (by decide +kernel) rfl (Nat.le_of_ble_eq_true rfl) ?_
  show gx_Z mX11_type false false 0 0 0 [(0, .ref v0), (1, .int (gI v1))] [] (gi_cv h) (gx_oI res) (gi_cv h1)
  refine gx_iload_n dX11_type_0 rfl 1 rfl ?_
  refine gx_bE e (fun q1 hq1 e => ?_)
  refine gx_callS (n := 1) (st := []) (As := [.int (gI v1)]) dX11_type_1 (z_X11_isLetter hq1) rfl ⟨rfl, gw_cw_X11_isLetter, gw_1, gp_X11_isLetter, ⟨Nat.le_of_ble_eq_true rfl, Nat.le_of_ble_eq_true rfl⟩⟩ gw_660 gw_661 ⟨Nat.le_of_ble_eq_true rfl, Nat.le_of_ble_eq_true rfl⟩ (Nat.le_of_ble_eq_true rfl) (gy_k1 (x := .int (gI q1)) (kc2 := 0) (ks2 := 0) ⟨rfl, rfl⟩ ?_) gy_kn
  refine gx_bE e (fun _ g2 e => ?_)
  refine gx_iE e (fun c3 e => ?_) (fun c3 e => ?_)
  · refine gy_if_ne (tgt := 17) (gi_rgS g2) dX11_type_4 (by decide) (fun z => absurd c3 z) (fun _ => ?_)
    cases e
    exact gx_throw rfl gt_105_107_109 rfl dX11_type_7 dX11_type_10 dX11_type_11 dX11_type_13 dX11_type_16 (Nat.le_of_ble_eq_true rfl) (Nat.le_of_ble_eq_true rfl) ⟨Nat.le_of_ble_eq_true rfl, Nat.le_of_ble_eq_true rfl⟩
  · refine gy_if_ne (tgt := 17) (gi_rgS g2) dX11_type_4 (by decide) (fun _ => ?_) (fun z => absurd z c3)
    refine gx_aload_n dX11_type_17 rfl 0 rfl ?_
    refine gx_bE e (fun t4 ht4 e => ?_)
    refine gy_fR ht4 dX11_type_18 gf_RX11_12_9_0 (by decide) gkN_9_0 gkR_9_0 ?_
    refine gx_bE e (fun _ hu5 e => ?_)
    refine gx_bE e (fun q6 hq6 e => ?_)
    refine gx_callV (n := 0) (st := []) (As := []) (b := t4) dX11_type_21 (z_X8_isFull hq6) rfl ⟨rfl, gw_cw_X8_isFull, gw_2, gp_X8_isFull, ⟨Nat.le_of_ble_eq_true rfl, Nat.le_of_ble_eq_true rfl⟩⟩ (gi_isS hu5) (by decide) gw_734 gw_735 gw_736 rfl ⟨Nat.le_of_ble_eq_true rfl, Nat.le_of_ble_eq_true rfl⟩ (Nat.le_of_ble_eq_true rfl) (gy_k1 (x := .int (gI q6)) (kc2 := 0) (ks2 := 0) ⟨rfl, rfl⟩ ?_) gy_kn
    refine gx_bE e (fun _ g7 e => ?_)
    refine gx_iE e (fun c8 e => ?_) (fun c8 e => ?_)
    · refine gy_if_eq (tgt := 37) (gi_rgS g7) dX11_type_24 (by decide) (fun _ => ?_) (fun z => absurd c8 z)
      refine gx_aload_n dX11_type_37 rfl 0 rfl ?_
      refine gx_bE e (fun t9 ht9 e => ?_)
      refine gy_fR ht9 dX11_type_38 gf_RX11_12_9_0 (by decide) gkN_9_0 gkR_9_0 ?_
      refine gx_iload_n dX11_type_41 rfl 1 rfl ?_
      refine gx_bE e (fun _ hu10 e => ?_)
      refine gx_bE e (fun q11 hq11 e => ?_)
      refine gx_callV (n := 1) (st := []) (As := [.int (gI v1)]) (b := t9) dX11_type_42 (z_X8_append hq11) rfl ⟨rfl, gw_cw_X8_append, gw_2, gp_X8_append, ⟨Nat.le_of_ble_eq_true rfl, Nat.le_of_ble_eq_true rfl⟩⟩ (gi_isS hu10) (by decide) gw_754 gw_755 gw_756 rfl ⟨Nat.le_of_ble_eq_true rfl, Nat.le_of_ble_eq_true rfl⟩ (Nat.le_of_ble_eq_true rfl) (gy_k1 (x := .int (gI q11.1)) (kc2 := 0) (ks2 := 0) ⟨rfl, rfl⟩ ?_) gy_kn
      cases e
      exact gx_iret dX11_type_45 rfl ⟨Nat.le_of_ble_eq_true rfl, Nat.le_of_ble_eq_true rfl⟩ (fun z => z)
    · refine gy_if_eq (tgt := 37) (gi_rgS g7) dX11_type_24 (by decide) (fun z => absurd z c8) (fun _ => ?_)
      cases e
      exact gx_throw rfl gt_116_118_120 rfl dX11_type_27 dX11_type_30 dX11_type_31 dX11_type_33 dX11_type_36 (Nat.le_of_ble_eq_true rfl) (Nat.le_of_ble_eq_true rfl) ⟨Nat.le_of_ble_eq_true rfl, Nat.le_of_ble_eq_true rfl⟩
/-! L_type  -/
set_option maxRecDepth 100000 in
def f_L_type (v0 : Nat) (v1 : Int) (h : gi_H) : Option (Int × gi_H) :=
  Option.bind (gi_is h v0 9) fun _ => Option.bind (f_X11_type v0 (v1 % 65536) h) fun q2 => gx_sm q2.1 (fun t3 => some (t3, q2.2)) (fun t3 => if t3 = gx_IAE then (some ((-102 : Int), q2.2)) else (if t3 = gx_ISE then (some ((-103 : Int), q2.2)) else (none)))
set_option maxRecDepth 100000 in
theorem z_L_type {v0 : Nat} {v1 : Int} {h : gi_H} {res : Int} {h1 : gi_H} (e : f_L_type v0 v1 h = some (res, h1)) : gx_Cw mL_type false [.ref v0, .int (gI v1)] (gi_cv h) (.inl (some (.int (gI res)))) (gi_cv h1) := by
  refine gx_enter (by decide +kernel) rfl (Nat.le_of_ble_eq_true rfl) ?_
  show gx_Z mL_type false false 0 0 0 [(0, .ref v0), (1, .int (gI v1))] [] (gi_cv h) (.inl (some (.int (gI res)))) (gi_cv h1)
  refine gx_aload_n dL_type_0 rfl 0 rfl ?_
  refine gx_iload_n dL_type_1 rfl 1 rfl ?_
  refine gy_i2c dL_type_2 ?_
  refine gx_bE e (fun _ hu1 e => ?_)
  refine gx_bE e (fun q2 hq2 e => ?_)
  refine gx_smE e (fun t3 ht3 e => ?_) (fun t3 ht3 e => ?_)
  · have zq2 := z_X11_type hq2
    rw [ht3] at zq2
    refine gx_callV (n := 1) (st := []) (As := [.int (gI (v1 % 65536))]) (b := v0) dL_type_3 zq2 rfl ⟨rfl, gw_cw_X11_type, gw_1, gp_X11_type, ⟨Nat.le_of_ble_eq_true rfl, Nat.le_of_ble_eq_true rfl⟩⟩ (gi_isS hu1) (by decide) gw_656 gw_657 gw_658 rfl ⟨Nat.le_of_ble_eq_true rfl, Nat.le_of_ble_eq_true rfl⟩ (Nat.le_of_ble_eq_true rfl) (gy_k1 (x := .int (gI t3)) (kc2 := 1) (ks2 := 6) ⟨rfl, rfl⟩ ?_) gy_kn
    cases e
    exact gx_iret dL_type_6 rfl ⟨Nat.le_of_ble_eq_true rfl, Nat.le_of_ble_eq_true rfl⟩ (fun z => z)
  · have zq2 := z_X11_type hq2
    rw [ht3] at zq2
    refine gx_callV (n := 1) (st := []) (As := [.int (gI (v1 % 65536))]) (b := v0) dL_type_3 zq2 rfl ⟨rfl, gw_cw_X11_type, gw_1, gp_X11_type, ⟨Nat.le_of_ble_eq_true rfl, Nat.le_of_ble_eq_true rfl⟩⟩ (gi_isS hu1) (by decide) gw_656 gw_657 gw_658 rfl ⟨Nat.le_of_ble_eq_true rfl, Nat.le_of_ble_eq_true rfl⟩ (Nat.le_of_ble_eq_true rfl) gy_kN (gy_kE (kc2 := 1) (ks2 := 6) ⟨rfl, rfl⟩ ?_)
    refine gx_iE e (fun c4 e => ?_) (fun c4 e => ?_)
    · rw [c4]
      refine gx_catch (ls2 := [(0, .ref v0), (1, .int (gI v1))]) [] (x := (0, 6, 7, 15)) rfl (fun z hz => by cases hz) (by decide +kernel) (by decide) gw_654 (by decide +kernel) (Nat.le_of_ble_eq_true rfl) (Or.inl ⟨2, rfl, rfl, dL_type_7⟩) rfl ?_
      refine gy_bipush dL_type_8 gcb_m102 ?_
      cases e
      exact gx_iret dL_type_10 rfl ⟨Nat.le_of_ble_eq_true rfl, Nat.le_of_ble_eq_true rfl⟩ (fun z => z)
    refine gx_iE e (fun c5 e => ?_) (fun c5 e => ?_)
    · rw [c5]
      refine gx_catch (ls2 := [(0, .ref v0), (1, .int (gI v1))]) [(0, 6, 7, 15)] (x := (0, 6, 11, 17)) rfl (by refine List.forall_mem_cons.mpr ⟨⟨by decide, "java/lang/IllegalArgumentException", gw_654, by decide +kernel⟩, ?_⟩;  exact fun z hz => absurd hz List.not_mem_nil) (by decide +kernel) (by decide) gw_655 (by decide +kernel) (Nat.le_of_ble_eq_true rfl) (Or.inl ⟨2, rfl, rfl, dL_type_11⟩) rfl ?_
      refine gy_bipush dL_type_12 gcb_m103 ?_
      cases e
      exact gx_iret dL_type_14 rfl ⟨Nat.le_of_ble_eq_true rfl, Nat.le_of_ble_eq_true rfl⟩ (fun z => z)
    cases e
/-! L_types  -/
set_option maxRecDepth 100000 in
def b_L_types_46 (n : Nat) (r16 : Nat → Nat → Int → Int → Int → gi_H → Option (Int × gi_H)) (v0 : Nat) (v1 : Nat) (v2 : Int) (v4 : Int) (s0 : Int) (h : gi_H) : Option (Int × gi_H) :=
  gx_nm (v4 + (1 : Int)) fun t17 => r16 v0 v1 v2 s0 t17 h
set_option maxRecDepth 100000 in
theorem zb_L_types_46 {n : Nat} {r16 : Nat → Nat → Int → Int → Int → gi_H → Option (Int × gi_H)} {res : Int} {h1 : gi_H} {kc ks k : Nat} (hkc : kc + (k + 1) * 2 ≤ 52) (hks : ks + (k + 1) * 12 ≤ 312) (hr16 : ∀ (kc ks : Nat) (x0 : Nat) (x1 : Nat) (x2 : Int) (x3 : Int) (x4 : Int) (hh : gi_H), kc + k * 2 ≤ 52 → ks + k * 12 ≤ 312 → r16 x0 x1 x2 x3 x4 hh = some (res, h1) → gx_Z mL_types false false kc ks 16 [(0, .ref x0), (1, .ref x1), (2, .int (gI x2)), (3, .int (gI x3)), (4, .int (gI x4))] [] (gi_cv hh) (.inl (some (.int (gI res)))) (gi_cv h1)) {v0 : Nat} {v1 : Nat} {v2 : Int} {v4 : Int} {s0 : Int} {h : gi_H} (e : b_L_types_46 n r16 v0 v1 v2 v4 s0 h = some (res, h1)) : gx_Z mL_types false false (kc + 1) (ks + 6) 46 [(0, .ref v0), (1, .ref v1), (2, .int (gI v2)), (4, .int (gI v4))] [.int (gI s0)] (gi_cv h) (.inl (some (.int (gI res)))) (gi_cv h1) := by
  have hKc : 52 ≤ (gx_rm mL_types).cells := Nat.le_of_ble_eq_true rfl
  have hKs : 312 ≤ (gx_rm mL_types).slots := Nat.le_of_ble_eq_true rfl
  refine gx_istore_n (ls2 := [(3, .int (gI s0)), (0, .ref v0), (1, .ref v1), (2, .int (gI v2)), (4, .int (gI v4))]) dL_types_46 rfl (Nat.le_of_ble_eq_true rfl) rfl ?_
  refine gx_nE e (fun t17 ht17 e => ?_)
  refine gy_iinc (v := t17) (ls2 := [(4, .int (gI t17)), (3, .int (gI s0)), (0, .ref v0), (1, .ref v1), (2, .int (gI v2))]) dL_types_47 4 rfl ht17 (Nat.le_of_ble_eq_true rfl) rfl ?_
  refine gx_goto (tgt := 16) dL_types_50 (by decide) ?_
  refine gx_sub (ls2 := [(0, .ref v0), (1, .ref v1), (2, .int (gI v2)), (3, .int (gI s0)), (4, .int (gI t17))]) [2, 3, 4, 1, 0] rfl ?_
  exact hr16 _ _ _ _ _ _ _ _ (by show (kc + 1) + _ ≤ _; omega) (by show (ks + 6) + _ ≤ _; omega) e
set_option maxRecDepth 100000 in
def b_L_types_16 (n : Nat) (r16 : Nat → Nat → Int → Int → Int → gi_H → Option (Int × gi_H)) (v0 : Nat) (v1 : Nat) (v2 : Int) (v3 : Int) (v4 : Int)  (h : gi_H) : Option (Int × gi_H) :=
  Option.bind (gi_rg v4) fun _ => Option.bind (gi_rg v2) fun _ => if v2 ≤ v4 then (Option.bind (gi_zo v3) fun _ => some (v3, h)) else (Option.bind (gi_rg v3) fun _ => if v3 = 0 then (Option.bind (gi_zo v3) fun _ => some (v3, h)) else (Option.bind (gi_aI h 1 v1 v4) fun t12 => Option.bind (f_L_type v0 t12 h) fun q13 => Option.bind (gi_rg q13.1) fun _ => Option.bind (gi_rg (v4 + (1 : Int))) fun _ => if q13.1 = (v4 + (1 : Int)) then (b_L_types_46 n r16 v0 v1 v2 v4 (1 : Int) q13.2) else (b_L_types_46 n r16 v0 v1 v2 v4 (0 : Int) q13.2)))
set_option maxRecDepth 100000 in
theorem zb_L_types_16 {n : Nat} {r16 : Nat → Nat → Int → Int → Int → gi_H → Option (Int × gi_H)} {res : Int} {h1 : gi_H} {kc ks k : Nat} (hkc : kc + (k + 1) * 2 ≤ 52) (hks : ks + (k + 1) * 12 ≤ 312) (hr16 : ∀ (kc ks : Nat) (x0 : Nat) (x1 : Nat) (x2 : Int) (x3 : Int) (x4 : Int) (hh : gi_H), kc + k * 2 ≤ 52 → ks + k * 12 ≤ 312 → r16 x0 x1 x2 x3 x4 hh = some (res, h1) → gx_Z mL_types false false kc ks 16 [(0, .ref x0), (1, .ref x1), (2, .int (gI x2)), (3, .int (gI x3)), (4, .int (gI x4))] [] (gi_cv hh) (.inl (some (.int (gI res)))) (gi_cv h1)) {v0 : Nat} {v1 : Nat} {v2 : Int} {v3 : Int} {v4 : Int}  {h : gi_H} (e : b_L_types_16 n r16 v0 v1 v2 v3 v4 h = some (res, h1)) : gx_Z mL_types false false kc ks 16 [(0, .ref v0), (1, .ref v1), (2, .int (gI v2)), (3, .int (gI v3)), (4, .int (gI v4))] [] (gi_cv h) (.inl (some (.int (gI res)))) (gi_cv h1) := by
  have hKc : 52 ≤ (gx_rm mL_types).cells := Nat.le_of_ble_eq_true rfl
  have hKs : 312 ≤ (gx_rm mL_types).slots := Nat.le_of_ble_eq_true rfl
  refine gx_iload dL_types_16 4 rfl ?_
  refine gx_iload_n dL_types_18 rfl 2 rfl ?_
  refine gx_bE e (fun _ g5 e => ?_)
  refine gx_bE e (fun _ g6 e => ?_)
  refine gx_iE e (fun c7 e => ?_) (fun c7 e => ?_)
  · refine gy_icmp_ge (tgt := 53) (gi_rgS g5) (gi_rgS g6) dL_types_19 (by decide) (fun _ => ?_) (fun z => absurd c7 z)
    refine gx_iload_n dL_types_53 rfl 3 rfl ?_
    refine gx_bE e (fun _ hu8 e => ?_)
    cases e
    exact gx_zret (gi_zoS hu8) dL_types_54 rfl ⟨by show kc ≤ _; omega, by show ks ≤ _; omega⟩ (fun z => z)
  · refine gy_icmp_ge (tgt := 53) (gi_rgS g5) (gi_rgS g6) dL_types_19 (by decide) (fun z => absurd z c7) (fun _ => ?_)
    refine gx_iload_n dL_types_22 rfl 3 rfl ?_
    refine gx_bE e (fun _ g9 e => ?_)
    refine gx_iE e (fun c10 e => ?_) (fun c10 e => ?_)
    · refine gy_if_eq (tgt := 53) (gi_rgS g9) dL_types_23 (by decide) (fun _ => ?_) (fun z => absurd c10 z)
      refine gx_iload_n dL_types_53 rfl 3 rfl ?_
      refine gx_bE e (fun _ hu11 e => ?_)
      cases e
      exact gx_zret (gi_zoS hu11) dL_types_54 rfl ⟨by show kc ≤ _; omega, by show ks ≤ _; omega⟩ (fun z => z)
    · refine gy_if_eq (tgt := 53) (gi_rgS g9) dL_types_23 (by decide) (fun z => absurd z c10) (fun _ => ?_)
      refine gx_aload_n dL_types_26 rfl 0 rfl ?_
      refine gx_aload_n dL_types_27 rfl 1 rfl ?_
      refine gx_iload dL_types_28 4 rfl ?_
      refine gx_bE e (fun t12 ht12 e => ?_)
      refine gy_l1 ht12 dL_types_30 ?_
      refine gx_bE e (fun q13 hq13 e => ?_)
      refine gx_callSW (n := 2) (st := []) (As := [.ref v0, .int (gI t12)]) dL_types_31 (z_L_type hq13) rfl ⟨(by decide +kernel), gw_cw_L_type, gw_0, gp_L_type, ⟨Nat.le_of_ble_eq_true rfl, Nat.le_of_ble_eq_true rfl⟩⟩ gw_651 gw_652 ⟨by show (kc + 1) ≤ _; omega, by show (ks + 6) ≤ _; omega⟩ (Nat.le_of_ble_eq_true rfl) (gy_k1 (x := .int (gI q13.1)) (kc2 := (kc + 1)) (ks2 := (ks + 6)) ⟨rfl, rfl⟩ ?_)
      refine gx_iload dL_types_34 4 rfl ?_
      refine gy_iconst dL_types_36 ?_
      refine gy_iadd dL_types_37 ?_
      refine gx_bE e (fun _ g14 e => ?_)
      refine gx_bE e (fun _ g15 e => ?_)
      refine gx_iE e (fun c16 e => ?_) (fun c16 e => ?_)
      · refine gy_icmp_ne (tgt := 45) (gi_rgS g14) (gi_rgS g15) dL_types_38 (by decide) (fun z => absurd c16 z) (fun _ => ?_)
        refine gy_iconst dL_types_41 ?_
        refine gx_goto (tgt := 46) dL_types_42 (by decide) ?_
        refine gx_sub (ls2 := [(0, .ref v0), (1, .ref v1), (2, .int (gI v2)), (4, .int (gI v4))]) [0, 1, 2, 4] rfl ?_
        exact zb_L_types_46 hkc hks hr16 e
      · refine gy_icmp_ne (tgt := 45) (gi_rgS g14) (gi_rgS g15) dL_types_38 (by decide) (fun _ => ?_) (fun z => absurd z c16)
        refine gy_iconst dL_types_45 ?_
        refine gx_sub (ls2 := [(0, .ref v0), (1, .ref v1), (2, .int (gI v2)), (4, .int (gI v4))]) [0, 1, 2, 4] rfl ?_
        exact zb_L_types_46 hkc hks hr16 e
def l_L_types_16 (n : Nat)  : Nat → Nat → Nat → Int → Int → Int → gi_H → Option (Int × gi_H)
  | 0, _, _, _, _, _, _ => none
  | k + 1, v0, v1, v2, v3, v4, h => b_L_types_16 n  (l_L_types_16 n  k) v0 v1 v2 v3 v4 h
theorem zl_L_types_16 {n : Nat}  {res : Int} {h1 : gi_H}  : ∀ (k kc ks : Nat) (v0 : Nat) (v1 : Nat) (v2 : Int) (v3 : Int) (v4 : Int) (h : gi_H), kc + k * 2 ≤ 52 → ks + k * 12 ≤ 312 → l_L_types_16 n  k v0 v1 v2 v3 v4 h = some (res, h1) → gx_Z mL_types false false kc ks 16 [(0, .ref v0), (1, .ref v1), (2, .int (gI v2)), (3, .int (gI v3)), (4, .int (gI v4))] [] (gi_cv h) (.inl (some (.int (gI res)))) (gi_cv h1)
  | 0, _, _, _, _, _, _, _, _, _, _, e => gx_0E e
  | k + 1, _, _, _, _, _, _, _, _, hkc, hks, e => zb_L_types_16 (n := n) hkc hks  (fun kc ks => zl_L_types_16  k kc ks) e
set_option maxRecDepth 100000 in
def b_L_types_12 (n : Nat)  (v0 : Nat) (v1 : Nat) (v2 : Int) (s0 : Int) (h : gi_H) : Option (Int × gi_H) :=
  l_L_types_16 n  26 v0 v1 v2 s0 (0 : Int) h
set_option maxRecDepth 100000 in
theorem zb_L_types_12 {n : Nat}  {res : Int} {h1 : gi_H}  {v0 : Nat} {v1 : Nat} {v2 : Int} {s0 : Int} {h : gi_H} (e : b_L_types_12 n v0 v1 v2 s0 h = some (res, h1)) : gx_Z mL_types false false 0 0 12 [(0, .ref v0), (1, .ref v1), (2, .int (gI v2))] [.int (gI s0)] (gi_cv h) (.inl (some (.int (gI res)))) (gi_cv h1) := by
  refine gx_istore_n (ls2 := [(3, .int (gI s0)), (0, .ref v0), (1, .ref v1), (2, .int (gI v2))]) dL_types_12 rfl (Nat.le_of_ble_eq_true rfl) rfl ?_
  refine gy_iconst dL_types_13 ?_
  refine gx_istore (ls2 := [(4, .int (gI (0 : Int))), (3, .int (gI s0)), (0, .ref v0), (1, .ref v1), (2, .int (gI v2))]) dL_types_14 (Nat.le_of_ble_eq_true rfl) rfl ?_
  refine gx_sub (ls2 := [(0, .ref v0), (1, .ref v1), (2, .int (gI v2)), (3, .int (gI s0)), (4, .int (gI (0 : Int)))]) [2, 3, 4, 1, 0] rfl ?_
  exact zl_L_types_16  26 0 0 _ _ _ _ _ _ (Nat.le_of_ble_eq_true rfl) (Nat.le_of_ble_eq_true rfl) e
set_option maxRecDepth 100000 in
def f_L_types (n : Nat) (v0 : Nat) (v1 : Nat) (v2 : Int) (h : gi_H) : Option (Int × gi_H) :=
  Option.bind (gi_is h v0 9) fun _ => Option.bind (f_X11_wipe v0 h) fun q2 => Option.bind (gi_rg q2.1) fun _ => if q2.1 < 0 then (b_L_types_12 n  v0 v1 v2 (0 : Int) q2.2) else (b_L_types_12 n  v0 v1 v2 (1 : Int) q2.2)
set_option maxRecDepth 100000 in
theorem z_L_types {n : Nat} {v0 : Nat} {v1 : Nat} {v2 : Int} {h : gi_H} {res : Int} {h1 : gi_H} (e : f_L_types n v0 v1 v2 h = some (res, h1)) : gx_Cw mL_types false [.ref v0, .ref v1, .int (gI v2)] (gi_cv h) (.inl (some (.int (gI res)))) (gi_cv h1) := by
  refine gx_enter (by decide +kernel) rfl (Nat.le_of_ble_eq_true rfl) ?_
  show gx_Z mL_types false false 0 0 0 [(0, .ref v0), (1, .ref v1), (2, .int (gI v2))] [] (gi_cv h) (.inl (some (.int (gI res)))) (gi_cv h1)
  refine gx_aload_n dL_types_0 rfl 0 rfl ?_
  refine gx_bE e (fun _ hu1 e => ?_)
  refine gx_bE e (fun q2 hq2 e => ?_)
  refine gx_callV (n := 0) (st := []) (As := []) (b := v0) dL_types_1 (z_X11_wipe hq2) rfl ⟨rfl, gw_cw_X11_wipe, gw_1, gp_X11_wipe, ⟨Nat.le_of_ble_eq_true rfl, Nat.le_of_ble_eq_true rfl⟩⟩ (gi_isS hu1) (by decide) gw_947 gw_948 gw_949 rfl ⟨Nat.le_of_ble_eq_true rfl, Nat.le_of_ble_eq_true rfl⟩ (Nat.le_of_ble_eq_true rfl) (gy_k1 (x := .int (gI q2.1)) (kc2 := 0) (ks2 := 0) ⟨rfl, rfl⟩ ?_) gy_kn
  refine gx_bE e (fun _ g3 e => ?_)
  refine gx_iE e (fun c4 e => ?_) (fun c4 e => ?_)
  · refine gy_if_lt (tgt := 11) (gi_rgS g3) dL_types_4 (by decide) (fun _ => ?_) (fun z => absurd c4 z)
    refine gy_iconst dL_types_11 ?_
    exact zb_L_types_12  e
  · refine gy_if_lt (tgt := 11) (gi_rgS g3) dL_types_4 (by decide) (fun z => absurd z c4) (fun _ => ?_)
    refine gy_iconst dL_types_7 ?_
    refine gx_goto (tgt := 12) dL_types_8 (by decide) ?_
    exact zb_L_types_12  e
/-! X8_letter  -/
set_option maxRecDepth 100000 in
def b_X8_letter_22    (h : gi_H) : Option (Int) :=
  Option.bind (gi_ch (32 : Int)) fun _ => some (32 : Int)
set_option maxRecDepth 100000 in
theorem zb_X8_letter_22 {al : Bool}  {res : Int}    {h : gi_H} (e : b_X8_letter_22  h = some res) : gx_Z mX8_letter al al 0 0 22 [] [] (gi_cv h) (.inl (some (.int (gI res)))) (gi_cv h) := by
  refine gy_bipush dX8_letter_22 gcb_32 ?_
  refine gx_bE e (fun _ hu3 e => ?_)
  cases e
  exact gy_cret hu3 dX8_letter_24 rfl ⟨Nat.le_of_ble_eq_true rfl, Nat.le_of_ble_eq_true rfl⟩ (fun z => z)
set_option maxRecDepth 100000 in
def f_X8_letter (v0 : Nat) (v1 : Int) (h : gi_H) : Option (Int) :=
  Option.bind (gi_rg v1) fun _ => if v1 < 0 then (b_X8_letter_22   h) else (Option.bind (gi_gR h v0 7 0) fun t4 => Option.bind (gi_ln h t4) fun t5 => Option.bind (gi_rg t5) fun _ => if t5 ≤ v1 then (b_X8_letter_22   h) else (Option.bind (gi_gR h v0 7 0) fun t8 => Option.bind (gi_aI h 3 t8 v1) fun t9 => Option.bind (gi_ch t9) fun _ => some t9))
set_option maxRecDepth 100000 in
theorem z_X8_letter {al : Bool} {v0 : Nat} {v1 : Int} {h : gi_H} {res : Int} (e : f_X8_letter v0 v1 h = some res) : gx_Cw mX8_letter al [.ref v0, .int (gI v1)] (gi_cv h) (.inl (some (.int (gI res)))) (gi_cv h) := by
  refine gx_enter (by decide +kernel) rfl (Nat.le_of_ble_eq_true rfl) ?_
  show gx_Z mX8_letter al al 0 0 0 [(0, .ref v0), (1, .int (gI v1))] [] (gi_cv h) (.inl (some (.int (gI res)))) (gi_cv h)
  refine gx_iload_n dX8_letter_0 rfl 1 rfl ?_
  refine gx_bE e (fun _ g1 e => ?_)
  refine gx_iE e (fun c2 e => ?_) (fun c2 e => ?_)
  · refine gy_if_lt (tgt := 22) (gi_rgS g1) dX8_letter_1 (by decide) (fun _ => ?_) (fun z => absurd c2 z)
    refine gx_sub (ls2 := []) [] rfl ?_
    exact zb_X8_letter_22  e
  · refine gy_if_lt (tgt := 22) (gi_rgS g1) dX8_letter_1 (by decide) (fun z => absurd z c2) (fun _ => ?_)
    refine gx_iload_n dX8_letter_4 rfl 1 rfl ?_
    refine gx_aload_n dX8_letter_5 rfl 0 rfl ?_
    refine gx_bE e (fun t4 ht4 e => ?_)
    refine gy_fR ht4 dX8_letter_6 gf_RX8_9_7_0 (by decide) gkN_7_0 gkR_7_0 ?_
    refine gx_bE e (fun t5 ht5 e => ?_)
    refine gy_al0 ht5 dX8_letter_9 ?_
    refine gx_bE e (fun _ g6 e => ?_)
    refine gx_iE e (fun c7 e => ?_) (fun c7 e => ?_)
    · refine gy_icmp_ge (tgt := 22) (gi_rgS g1) (gi_rgS g6) dX8_letter_10 (by decide) (fun _ => ?_) (fun z => absurd c7 z)
      refine gx_sub (ls2 := []) [] rfl ?_
      exact zb_X8_letter_22  e
    · refine gy_icmp_ge (tgt := 22) (gi_rgS g1) (gi_rgS g6) dX8_letter_10 (by decide) (fun z => absurd z c7) (fun _ => ?_)
      refine gx_aload_n dX8_letter_13 rfl 0 rfl ?_
      refine gx_bE e (fun t8 ht8 e => ?_)
      refine gy_fR ht8 dX8_letter_14 gf_RX8_9_7_0 (by decide) gkN_7_0 gkR_7_0 ?_
      refine gx_iload_n dX8_letter_17 rfl 1 rfl ?_
      refine gx_bE e (fun t9 ht9 e => ?_)
      refine gy_l3 ht9 dX8_letter_18 ?_
      refine gx_goto (tgt := 24) dX8_letter_19 (by decide) ?_
      refine gx_bE e (fun _ hu10 e => ?_)
      cases e
      exact gy_cret hu10 dX8_letter_24 rfl ⟨Nat.le_of_ble_eq_true rfl, Nat.le_of_ble_eq_true rfl⟩ (fun z => z)
/-! X8_stateInChoice  -/
set_option maxRecDepth 100000 in
def f_X8_stateInChoice (v0 : Int) (v1 : Int) (v2 : Int) (h : gi_H) : Option (Int) :=
  Option.bind (f_X11_isTerminalLetter v1 h) fun q1 => Option.bind (gi_rg q1) fun _ => if q1 = 0 then (Option.bind (f_X11_isNonterminalLetter v1 h) fun q4 => Option.bind (gi_rg q4) fun _ => if q4 = 0 then (Option.bind (gi_rg v1) fun _ => if v1 = (40 : Int) then (some (2 : Int)) else (if v1 = (124 : Int) then (some (2 : Int)) else (if v1 = (41 : Int) then (Option.bind (gi_rg v2) fun _ => if v2 ≤ 0 then (some (5 : Int)) else (some (3 : Int))) else (Option.bind (gi_rg v0) fun _ => if v0 = (3 : Int) then (if v1 = (37 : Int) then (some (4 : Int)) else (Option.bind (f_X11_isRepeat v1 h) fun q16 => Option.bind (gi_rg q16) fun _ => if q16 = 0 then (some (5 : Int)) else (some (2 : Int)))) else (some (5 : Int)))))) else (some (3 : Int))) else (some (3 : Int))
set_option maxRecDepth 100000 in
theorem z_X8_stateInChoice {al : Bool} {v0 : Int} {v1 : Int} {v2 : Int} {h : gi_H} {res : Int} (e : f_X8_stateInChoice v0 v1 v2 h = some res) : gx_Cw mX8_stateInChoice al [.int (gI v0), .int (gI v1), .int (gI v2)] (gi_cv h) (.inl (some (.int (gI res)))) (gi_cv h) := by
  refine gx_enter (by decide +kernel) rfl (Nat.le_of_ble_eq_true rfl) ?_
  show gx_Z mX8_stateInChoice al al 0 0 0 [(0, .int (gI v0)), (1, .int (gI v1)), (2, .int (gI v2))] [] (gi_cv h) (.inl (some (.int (gI res)))) (gi_cv h)
  refine gx_iload_n dX8_stateInChoice_0 rfl 1 rfl ?_
  refine gx_bE e (fun q1 hq1 e => ?_)
  refine gx_callSN (n := 1) (st := []) (As := [.int (gI v1)]) dX8_stateInChoice_1 (z_X11_isTerminalLetter hq1) rfl ⟨rfl, gw_cw_X11_isTerminalLetter, gw_1, gp_X11_isTerminalLetter, ⟨Nat.le_of_ble_eq_true rfl, Nat.le_of_ble_eq_true rfl⟩⟩ (host := "Grammarsmith") (by decide +kernel) gw_371 ⟨Nat.le_of_ble_eq_true rfl, Nat.le_of_ble_eq_true rfl⟩ (Nat.le_of_ble_eq_true rfl) (gy_k1 (x := .int (gI q1)) (kc2 := 0) (ks2 := 0) ⟨rfl, rfl⟩ ?_) gy_kn
  refine gx_bE e (fun _ g2 e => ?_)
  refine gx_iE e (fun c3 e => ?_) (fun c3 e => ?_)
  · refine gy_if_ne (tgt := 14) (gi_rgS g2) dX8_stateInChoice_4 (by decide) (fun z => absurd c3 z) (fun _ => ?_)
    refine gx_iload_n dX8_stateInChoice_7 rfl 1 rfl ?_
    refine gx_bE e (fun q4 hq4 e => ?_)
    refine gx_callSN (n := 1) (st := []) (As := [.int (gI v1)]) dX8_stateInChoice_8 (z_X11_isNonterminalLetter hq4) rfl ⟨rfl, gw_cw_X11_isNonterminalLetter, gw_1, gp_X11_isNonterminalLetter, ⟨Nat.le_of_ble_eq_true rfl, Nat.le_of_ble_eq_true rfl⟩⟩ (host := "Grammarsmith") (by decide +kernel) gw_368 ⟨Nat.le_of_ble_eq_true rfl, Nat.le_of_ble_eq_true rfl⟩ (Nat.le_of_ble_eq_true rfl) (gy_k1 (x := .int (gI q4)) (kc2 := 0) (ks2 := 0) ⟨rfl, rfl⟩ ?_) gy_kn
    refine gx_bE e (fun _ g5 e => ?_)
    refine gx_iE e (fun c6 e => ?_) (fun c6 e => ?_)
    · refine gy_if_eq (tgt := 16) (gi_rgS g5) dX8_stateInChoice_11 (by decide) (fun _ => ?_) (fun z => absurd c6 z)
      refine gx_iload_n dX8_stateInChoice_16 rfl 1 rfl ?_
      refine gy_bipush dX8_stateInChoice_17 gcb_40 ?_
      refine gx_bE e (fun _ g7 e => ?_)
      refine gx_iE e (fun c8 e => ?_) (fun c8 e => ?_)
      · refine gy_icmp_eq (tgt := 28) (gi_rgS g7) (by decide) dX8_stateInChoice_19 (by decide) (fun _ => ?_) (fun z => absurd c8 z)
        refine gy_iconst dX8_stateInChoice_28 ?_
        cases e
        exact gx_iret dX8_stateInChoice_29 rfl ⟨Nat.le_of_ble_eq_true rfl, Nat.le_of_ble_eq_true rfl⟩ (fun z => z)
      · refine gy_icmp_eq (tgt := 28) (gi_rgS g7) (by decide) dX8_stateInChoice_19 (by decide) (fun z => absurd z c8) (fun _ => ?_)
        refine gx_iload_n dX8_stateInChoice_22 rfl 1 rfl ?_
        refine gy_bipush dX8_stateInChoice_23 gcb_124 ?_
        refine gx_iE e (fun c9 e => ?_) (fun c9 e => ?_)
        · refine gy_icmp_ne (tgt := 30) (gi_rgS g7) (by decide) dX8_stateInChoice_25 (by decide) (fun z => absurd c9 z) (fun _ => ?_)
          refine gy_iconst dX8_stateInChoice_28 ?_
          cases e
          exact gx_iret dX8_stateInChoice_29 rfl ⟨Nat.le_of_ble_eq_true rfl, Nat.le_of_ble_eq_true rfl⟩ (fun z => z)
        · refine gy_icmp_ne (tgt := 30) (gi_rgS g7) (by decide) dX8_stateInChoice_25 (by decide) (fun _ => ?_) (fun z => absurd z c9)
          refine gx_iload_n dX8_stateInChoice_30 rfl 1 rfl ?_
          refine gy_bipush dX8_stateInChoice_31 gcb_41 ?_
          refine gx_iE e (fun c10 e => ?_) (fun c10 e => ?_)
          · refine gy_icmp_ne (tgt := 46) (gi_rgS g7) (by decide) dX8_stateInChoice_33 (by decide) (fun z => absurd c10 z) (fun _ => ?_)
            refine gx_iload_n dX8_stateInChoice_36 rfl 2 rfl ?_
            refine gx_bE e (fun _ g11 e => ?_)
            refine gx_iE e (fun c12 e => ?_) (fun c12 e => ?_)
            · refine gy_if_le (tgt := 44) (gi_rgS g11) dX8_stateInChoice_37 (by decide) (fun _ => ?_) (fun z => absurd c12 z)
              refine gy_iconst dX8_stateInChoice_44 ?_
              cases e
              exact gx_iret dX8_stateInChoice_45 rfl ⟨Nat.le_of_ble_eq_true rfl, Nat.le_of_ble_eq_true rfl⟩ (fun z => z)
            · refine gy_if_le (tgt := 44) (gi_rgS g11) dX8_stateInChoice_37 (by decide) (fun z => absurd z c12) (fun _ => ?_)
              refine gy_iconst dX8_stateInChoice_40 ?_
              refine gx_goto (tgt := 45) dX8_stateInChoice_41 (by decide) ?_
              cases e
              exact gx_iret dX8_stateInChoice_45 rfl ⟨Nat.le_of_ble_eq_true rfl, Nat.le_of_ble_eq_true rfl⟩ (fun z => z)
          · refine gy_icmp_ne (tgt := 46) (gi_rgS g7) (by decide) dX8_stateInChoice_33 (by decide) (fun _ => ?_) (fun z => absurd z c10)
            refine gx_iload_n dX8_stateInChoice_46 rfl 0 rfl ?_
            refine gy_iconst dX8_stateInChoice_47 ?_
            refine gx_bE e (fun _ g13 e => ?_)
            refine gx_iE e (fun c14 e => ?_) (fun c14 e => ?_)
            · refine gy_icmp_eq (tgt := 53) (gi_rgS g13) (by decide) dX8_stateInChoice_48 (by decide) (fun _ => ?_) (fun z => absurd c14 z)
              refine gx_iload_n dX8_stateInChoice_53 rfl 1 rfl ?_
              refine gy_bipush dX8_stateInChoice_54 gcb_37 ?_
              refine gx_iE e (fun c15 e => ?_) (fun c15 e => ?_)
              · refine gy_icmp_ne (tgt := 61) (gi_rgS g7) (by decide) dX8_stateInChoice_56 (by decide) (fun z => absurd c15 z) (fun _ => ?_)
                refine gy_iconst dX8_stateInChoice_59 ?_
                cases e
                exact gx_iret dX8_stateInChoice_60 rfl ⟨Nat.le_of_ble_eq_true rfl, Nat.le_of_ble_eq_true rfl⟩ (fun z => z)
              · refine gy_icmp_ne (tgt := 61) (gi_rgS g7) (by decide) dX8_stateInChoice_56 (by decide) (fun _ => ?_) (fun z => absurd z c15)
                refine gx_iload_n dX8_stateInChoice_61 rfl 1 rfl ?_
                refine gx_bE e (fun q16 hq16 e => ?_)
                refine gx_callSN (n := 1) (st := []) (As := [.int (gI v1)]) dX8_stateInChoice_62 (z_X11_isRepeat hq16) rfl ⟨rfl, gw_cw_X11_isRepeat, gw_1, gp_X11_isRepeat, ⟨Nat.le_of_ble_eq_true rfl, Nat.le_of_ble_eq_true rfl⟩⟩ (host := "Grammarsmith") (by decide +kernel) gw_377 ⟨Nat.le_of_ble_eq_true rfl, Nat.le_of_ble_eq_true rfl⟩ (Nat.le_of_ble_eq_true rfl) (gy_k1 (x := .int (gI q16)) (kc2 := 0) (ks2 := 0) ⟨rfl, rfl⟩ ?_) gy_kn
                refine gx_bE e (fun _ g17 e => ?_)
                refine gx_iE e (fun c18 e => ?_) (fun c18 e => ?_)
                · refine gy_if_eq (tgt := 72) (gi_rgS g17) dX8_stateInChoice_65 (by decide) (fun _ => ?_) (fun z => absurd c18 z)
                  refine gy_iconst dX8_stateInChoice_72 ?_
                  cases e
                  exact gx_iret dX8_stateInChoice_73 rfl ⟨Nat.le_of_ble_eq_true rfl, Nat.le_of_ble_eq_true rfl⟩ (fun z => z)
                · refine gy_if_eq (tgt := 72) (gi_rgS g17) dX8_stateInChoice_65 (by decide) (fun z => absurd z c18) (fun _ => ?_)
                  refine gy_iconst dX8_stateInChoice_68 ?_
                  refine gx_goto (tgt := 73) dX8_stateInChoice_69 (by decide) ?_
                  cases e
                  exact gx_iret dX8_stateInChoice_73 rfl ⟨Nat.le_of_ble_eq_true rfl, Nat.le_of_ble_eq_true rfl⟩ (fun z => z)
            · refine gy_icmp_eq (tgt := 53) (gi_rgS g13) (by decide) dX8_stateInChoice_48 (by decide) (fun z => absurd z c14) (fun _ => ?_)
              refine gy_iconst dX8_stateInChoice_51 ?_
              cases e
              exact gx_iret dX8_stateInChoice_52 rfl ⟨Nat.le_of_ble_eq_true rfl, Nat.le_of_ble_eq_true rfl⟩ (fun z => z)
    · refine gy_if_eq (tgt := 16) (gi_rgS g5) dX8_stateInChoice_11 (by decide) (fun z => absurd z c6) (fun _ => ?_)
      refine gy_iconst dX8_stateInChoice_14 ?_
      cases e
      exact gx_iret dX8_stateInChoice_15 rfl ⟨Nat.le_of_ble_eq_true rfl, Nat.le_of_ble_eq_true rfl⟩ (fun z => z)
  · refine gy_if_ne (tgt := 14) (gi_rgS g2) dX8_stateInChoice_4 (by decide) (fun _ => ?_) (fun z => absurd z c3)
    refine gy_iconst dX8_stateInChoice_14 ?_
    cases e
    exact gx_iret dX8_stateInChoice_15 rfl ⟨Nat.le_of_ble_eq_true rfl, Nat.le_of_ble_eq_true rfl⟩ (fun z => z)
/-! X8_stateBehind  -/
set_option maxRecDepth 100000 in
def f_X8_stateBehind (v0 : Int) (v1 : Int) (v2 : Int) (h : gi_H) : Option (Int) :=
  Option.bind (gi_rg v0) fun _ => if v0 = (0 : Int) then (Option.bind (f_X11_isNonterminalLetter v1 h) fun q4 => Option.bind (gi_rg q4) fun _ => if q4 = 0 then (some (5 : Int)) else (some (1 : Int))) else (if v0 = (1 : Int) then (Option.bind (gi_rg v1) fun _ => if v1 = (58 : Int) then (some (2 : Int)) else (some (5 : Int))) else (if v0 = (2 : Int) then (Option.bind (f_X8_stateInChoice v0 v1 v2 h) fun q11 => some q11) else (if v0 = (3 : Int) then (Option.bind (f_X8_stateInChoice v0 v1 v2 h) fun q13 => some q13) else (if v0 = (4 : Int) then (Option.bind (f_X11_isTerminalLetter v1 h) fun q15 => Option.bind (gi_rg q15) fun _ => if q15 = 0 then (some (5 : Int)) else (some (2 : Int))) else (Option.bind (f_X8_stateInChoice v0 v1 v2 h) fun q18 => some q18)))))
set_option maxRecDepth 100000 in
theorem z_X8_stateBehind {al : Bool} {v0 : Int} {v1 : Int} {v2 : Int} {h : gi_H} {res : Int} (e : f_X8_stateBehind v0 v1 v2 h = some res) : gx_Cw mX8_stateBehind al [.int (gI v0), .int (gI v1), .int (gI v2)] (gi_cv h) (.inl (some (.int (gI res)))) (gi_cv h) := by
  refine gx_enter (by decide +kernel) rfl (Nat.le_of_ble_eq_true rfl) ?_
  show gx_Z mX8_stateBehind al al 0 0 0 [(0, .int (gI v0)), (1, .int (gI v1)), (2, .int (gI v2))] [] (gi_cv h) (.inl (some (.int (gI res)))) (gi_cv h)
  refine gx_iload_n dX8_stateBehind_0 rfl 0 rfl ?_
  refine gx_bE e (fun _ g2 e => ?_)
  refine gx_iE e (fun c3 e => ?_) (fun c3 e => ?_)
  · refine gy_tableIn (tgt := 36) (off := 35) (gi_rgS g2) dX8_stateBehind_1 (by rw [c3]; decide) (by rw [c3]; decide) (by rw [c3]; rfl) (by decide) ?_
    refine gx_iload_n dX8_stateBehind_36 rfl 1 rfl ?_
    refine gx_bE e (fun q4 hq4 e => ?_)
    refine gx_callSN (n := 1) (st := []) (As := [.int (gI v1)]) dX8_stateBehind_37 (z_X11_isNonterminalLetter hq4) rfl ⟨rfl, gw_cw_X11_isNonterminalLetter, gw_1, gp_X11_isNonterminalLetter, ⟨Nat.le_of_ble_eq_true rfl, Nat.le_of_ble_eq_true rfl⟩⟩ (host := "Grammarsmith") (by decide +kernel) gw_368 ⟨Nat.le_of_ble_eq_true rfl, Nat.le_of_ble_eq_true rfl⟩ (Nat.le_of_ble_eq_true rfl) (gy_k1 (x := .int (gI q4)) (kc2 := 0) (ks2 := 0) ⟨rfl, rfl⟩ ?_) gy_kn
    refine gx_bE e (fun _ g5 e => ?_)
    refine gx_iE e (fun c6 e => ?_) (fun c6 e => ?_)
    · refine gy_if_eq (tgt := 47) (gi_rgS g5) dX8_stateBehind_40 (by decide) (fun _ => ?_) (fun z => absurd c6 z)
      refine gy_iconst dX8_stateBehind_47 ?_
      cases e
      exact gx_iret dX8_stateBehind_48 rfl ⟨Nat.le_of_ble_eq_true rfl, Nat.le_of_ble_eq_true rfl⟩ (fun z => z)
    · refine gy_if_eq (tgt := 47) (gi_rgS g5) dX8_stateBehind_40 (by decide) (fun z => absurd z c6) (fun _ => ?_)
      refine gy_iconst dX8_stateBehind_43 ?_
      refine gx_goto (tgt := 48) dX8_stateBehind_44 (by decide) ?_
      cases e
      exact gx_iret dX8_stateBehind_48 rfl ⟨Nat.le_of_ble_eq_true rfl, Nat.le_of_ble_eq_true rfl⟩ (fun z => z)
  refine gx_iE e (fun c7 e => ?_) (fun c7 e => ?_)
  · refine gy_tableIn (tgt := 49) (off := 48) (gi_rgS g2) dX8_stateBehind_1 (by rw [c7]; decide) (by rw [c7]; decide) (by rw [c7]; rfl) (by decide) ?_
    refine gx_iload_n dX8_stateBehind_49 rfl 1 rfl ?_
    refine gy_bipush dX8_stateBehind_50 gcb_58 ?_
    refine gx_bE e (fun _ g8 e => ?_)
    refine gx_iE e (fun c9 e => ?_) (fun c9 e => ?_)
    · refine gy_icmp_ne (tgt := 59) (gi_rgS g8) (by decide) dX8_stateBehind_52 (by decide) (fun z => absurd c9 z) (fun _ => ?_)
      refine gy_iconst dX8_stateBehind_55 ?_
      refine gx_goto (tgt := 60) dX8_stateBehind_56 (by decide) ?_
      cases e
      exact gx_iret dX8_stateBehind_60 rfl ⟨Nat.le_of_ble_eq_true rfl, Nat.le_of_ble_eq_true rfl⟩ (fun z => z)
    · refine gy_icmp_ne (tgt := 59) (gi_rgS g8) (by decide) dX8_stateBehind_52 (by decide) (fun _ => ?_) (fun z => absurd z c9)
      refine gy_iconst dX8_stateBehind_59 ?_
      cases e
      exact gx_iret dX8_stateBehind_60 rfl ⟨Nat.le_of_ble_eq_true rfl, Nat.le_of_ble_eq_true rfl⟩ (fun z => z)
  refine gx_iE e (fun c10 e => ?_) (fun c10 e => ?_)
  · refine gy_tableIn (tgt := 74) (off := 73) (gi_rgS g2) dX8_stateBehind_1 (by rw [c10]; decide) (by rw [c10]; decide) (by rw [c10]; rfl) (by decide) ?_
    refine gx_iload_n dX8_stateBehind_74 rfl 0 rfl ?_
    refine gx_iload_n dX8_stateBehind_75 rfl 1 rfl ?_
    refine gx_iload_n dX8_stateBehind_76 rfl 2 rfl ?_
    refine gx_bE e (fun q11 hq11 e => ?_)
    refine gx_callS (n := 3) (st := []) (As := [.int (gI v0), .int (gI v1), .int (gI v2)]) dX8_stateBehind_77 (z_X8_stateInChoice hq11) rfl ⟨rfl, gw_cw_X8_stateInChoice, gw_2, gp_X8_stateInChoice, ⟨Nat.le_of_ble_eq_true rfl, Nat.le_of_ble_eq_true rfl⟩⟩ gw_373 gw_374 ⟨Nat.le_of_ble_eq_true rfl, Nat.le_of_ble_eq_true rfl⟩ (Nat.le_of_ble_eq_true rfl) (gy_k1 (x := .int (gI q11)) (kc2 := 0) (ks2 := 0) ⟨rfl, rfl⟩ ?_) gy_kn
    cases e
    exact gx_iret dX8_stateBehind_80 rfl ⟨Nat.le_of_ble_eq_true rfl, Nat.le_of_ble_eq_true rfl⟩ (fun z => z)
  refine gx_iE e (fun c12 e => ?_) (fun c12 e => ?_)
  · refine gy_tableIn (tgt := 74) (off := 73) (gi_rgS g2) dX8_stateBehind_1 (by rw [c12]; decide) (by rw [c12]; decide) (by rw [c12]; rfl) (by decide) ?_
    refine gx_iload_n dX8_stateBehind_74 rfl 0 rfl ?_
    refine gx_iload_n dX8_stateBehind_75 rfl 1 rfl ?_
    refine gx_iload_n dX8_stateBehind_76 rfl 2 rfl ?_
    refine gx_bE e (fun q13 hq13 e => ?_)
    refine gx_callS (n := 3) (st := []) (As := [.int (gI v0), .int (gI v1), .int (gI v2)]) dX8_stateBehind_77 (z_X8_stateInChoice hq13) rfl ⟨rfl, gw_cw_X8_stateInChoice, gw_2, gp_X8_stateInChoice, ⟨Nat.le_of_ble_eq_true rfl, Nat.le_of_ble_eq_true rfl⟩⟩ gw_373 gw_374 ⟨Nat.le_of_ble_eq_true rfl, Nat.le_of_ble_eq_true rfl⟩ (Nat.le_of_ble_eq_true rfl) (gy_k1 (x := .int (gI q13)) (kc2 := 0) (ks2 := 0) ⟨rfl, rfl⟩ ?_) gy_kn
    cases e
    exact gx_iret dX8_stateBehind_80 rfl ⟨Nat.le_of_ble_eq_true rfl, Nat.le_of_ble_eq_true rfl⟩ (fun z => z)
  refine gx_iE e (fun c14 e => ?_) (fun c14 e => ?_)
  · refine gy_tableIn (tgt := 61) (off := 60) (gi_rgS g2) dX8_stateBehind_1 (by rw [c14]; decide) (by rw [c14]; decide) (by rw [c14]; rfl) (by decide) ?_
    refine gx_iload_n dX8_stateBehind_61 rfl 1 rfl ?_
    refine gx_bE e (fun q15 hq15 e => ?_)
    refine gx_callSN (n := 1) (st := []) (As := [.int (gI v1)]) dX8_stateBehind_62 (z_X11_isTerminalLetter hq15) rfl ⟨rfl, gw_cw_X11_isTerminalLetter, gw_1, gp_X11_isTerminalLetter, ⟨Nat.le_of_ble_eq_true rfl, Nat.le_of_ble_eq_true rfl⟩⟩ (host := "Grammarsmith") (by decide +kernel) gw_371 ⟨Nat.le_of_ble_eq_true rfl, Nat.le_of_ble_eq_true rfl⟩ (Nat.le_of_ble_eq_true rfl) (gy_k1 (x := .int (gI q15)) (kc2 := 0) (ks2 := 0) ⟨rfl, rfl⟩ ?_) gy_kn
    refine gx_bE e (fun _ g16 e => ?_)
    refine gx_iE e (fun c17 e => ?_) (fun c17 e => ?_)
    · refine gy_if_eq (tgt := 72) (gi_rgS g16) dX8_stateBehind_65 (by decide) (fun _ => ?_) (fun z => absurd c17 z)
      refine gy_iconst dX8_stateBehind_72 ?_
      cases e
      exact gx_iret dX8_stateBehind_73 rfl ⟨Nat.le_of_ble_eq_true rfl, Nat.le_of_ble_eq_true rfl⟩ (fun z => z)
    · refine gy_if_eq (tgt := 72) (gi_rgS g16) dX8_stateBehind_65 (by decide) (fun z => absurd z c17) (fun _ => ?_)
      refine gy_iconst dX8_stateBehind_68 ?_
      refine gx_goto (tgt := 73) dX8_stateBehind_69 (by decide) ?_
      cases e
      exact gx_iret dX8_stateBehind_73 rfl ⟨Nat.le_of_ble_eq_true rfl, Nat.le_of_ble_eq_true rfl⟩ (fun z => z)
  refine gy_tableOut (tgt := 74) (gi_rgS g2) dX8_stateBehind_1 (by omega) (by decide) ?_
  refine gx_iload_n dX8_stateBehind_74 rfl 0 rfl ?_
  refine gx_iload_n dX8_stateBehind_75 rfl 1 rfl ?_
  refine gx_iload_n dX8_stateBehind_76 rfl 2 rfl ?_
  refine gx_bE e (fun q18 hq18 e => ?_)
  refine gx_callS (n := 3) (st := []) (As := [.int (gI v0), .int (gI v1), .int (gI v2)]) dX8_stateBehind_77 (z_X8_stateInChoice hq18) rfl ⟨rfl, gw_cw_X8_stateInChoice, gw_2, gp_X8_stateInChoice, ⟨Nat.le_of_ble_eq_true rfl, Nat.le_of_ble_eq_true rfl⟩⟩ gw_373 gw_374 ⟨Nat.le_of_ble_eq_true rfl, Nat.le_of_ble_eq_true rfl⟩ (Nat.le_of_ble_eq_true rfl) (gy_k1 (x := .int (gI q18)) (kc2 := 0) (ks2 := 0) ⟨rfl, rfl⟩ ?_) gy_kn
  cases e
  exact gx_iret dX8_stateBehind_80 rfl ⟨Nat.le_of_ble_eq_true rfl, Nat.le_of_ble_eq_true rfl⟩ (fun z => z)
/-! X8_firstFault  -/
set_option maxRecDepth 100000 in
def b_X8_firstFault_84 (n : Nat)  (v0 : Nat) (s0 : Int) (h : gi_H) : Option (Int) :=
  Option.bind (gi_rg s0) fun _ => if s0 = 0 then (Option.bind (gi_gI h v0 7 1) fun t11 => some t11) else (some (-1 : Int))
set_option maxRecDepth 100000 in
theorem zb_X8_firstFault_84 {al : Bool} {n : Nat}  {res : Int}  {v0 : Nat} {s0 : Int} {h : gi_H} (e : b_X8_firstFault_84 n v0 s0 h = some res) : gx_Z mX8_firstFault al al 0 0 84 [(0, .ref v0)] [.int (gI s0)] (gi_cv h) (.inl (some (.int (gI res)))) (gi_cv h) := by
  refine gx_istore_n (ls2 := [(3, .int (gI s0)), (0, .ref v0)]) dX8_firstFault_84 rfl (Nat.le_of_ble_eq_true rfl) rfl ?_
  refine gx_iload_n dX8_firstFault_85 rfl 0 rfl ?_
  refine gx_bE e (fun _ g9 e => ?_)
  refine gx_iE e (fun c10 e => ?_) (fun c10 e => ?_)
  · refine gy_if_eq (tgt := 93) (gi_rgS g9) dX8_firstFault_86 (by decide) (fun _ => ?_) (fun z => absurd c10 z)
    refine gx_aload_n dX8_firstFault_93 rfl 1 rfl ?_
    refine gx_bE e (fun t11 ht11 e => ?_)
    refine gy_fI ht11 dX8_firstFault_94 gf_RX8_15_7_1 (by decide) gkN_7_1 gkR_7_1 ?_
    cases e
    exact gx_iret dX8_firstFault_97 rfl ⟨Nat.le_of_ble_eq_true rfl, Nat.le_of_ble_eq_true rfl⟩ (fun z => z)
  · refine gy_if_eq (tgt := 93) (gi_rgS g9) dX8_firstFault_86 (by decide) (fun z => absurd z c10) (fun _ => ?_)
    refine gy_iconst dX8_firstFault_89 ?_
    refine gx_goto (tgt := 97) dX8_firstFault_90 (by decide) ?_
    cases e
    exact gx_iret dX8_firstFault_97 rfl ⟨Nat.le_of_ble_eq_true rfl, Nat.le_of_ble_eq_true rfl⟩ (fun z => z)
set_option maxRecDepth 100000 in
def b_X8_firstFault_79 (n : Nat)  (v0 : Nat)  (h : gi_H) : Option (Int) :=
  b_X8_firstFault_84 n  v0 (1 : Int) h
set_option maxRecDepth 100000 in
theorem zb_X8_firstFault_79 {al : Bool} {n : Nat}  {res : Int}  {v0 : Nat}  {h : gi_H} (e : b_X8_firstFault_79 n v0 h = some res) : gx_Z mX8_firstFault al al 0 0 79 [(0, .ref v0)] [] (gi_cv h) (.inl (some (.int (gI res)))) (gi_cv h) := by
  refine gy_iconst dX8_firstFault_79 ?_
  refine gx_goto (tgt := 84) dX8_firstFault_80 (by decide) ?_
  exact zb_X8_firstFault_84  e
set_option maxRecDepth 100000 in
def b_X8_firstFault_83 (n : Nat)  (v0 : Nat)  (h : gi_H) : Option (Int) :=
  b_X8_firstFault_84 n  v0 (0 : Int) h
set_option maxRecDepth 100000 in
theorem zb_X8_firstFault_83 {al : Bool} {n : Nat}  {res : Int}  {v0 : Nat}  {h : gi_H} (e : b_X8_firstFault_83 n v0 h = some res) : gx_Z mX8_firstFault al al 0 0 83 [(0, .ref v0)] [] (gi_cv h) (.inl (some (.int (gI res)))) (gi_cv h) := by
  refine gy_iconst dX8_firstFault_83 ?_
  exact zb_X8_firstFault_84  e
set_option maxRecDepth 100000 in
def b_X8_firstFault_65 (n : Nat)  (v0 : Nat) (v1 : Int) (v2 : Int)  (h : gi_H) : Option (Int) :=
  Option.bind (gi_rg v2) fun _ => if v2 = 0 then (Option.bind (gi_rg v1) fun _ => if v1 = (2 : Int) then (b_X8_firstFault_79 n  v0 h) else (if v1 = (3 : Int) then (b_X8_firstFault_79 n  v0 h) else (b_X8_firstFault_83 n  v0 h))) else (b_X8_firstFault_83 n  v0 h)
set_option maxRecDepth 100000 in
theorem zb_X8_firstFault_65 {al : Bool} {n : Nat}  {res : Int}  {v0 : Nat} {v1 : Int} {v2 : Int}  {h : gi_H} (e : b_X8_firstFault_65 n v0 v1 v2 h = some res) : gx_Z mX8_firstFault al al 0 0 65 [(0, .ref v0), (1, .int (gI v1)), (2, .int (gI v2))] [] (gi_cv h) (.inl (some (.int (gI res)))) (gi_cv h) := by
  refine gx_iload_n dX8_firstFault_65 rfl 2 rfl ?_
  refine gx_bE e (fun _ g5 e => ?_)
  refine gx_iE e (fun c6 e => ?_) (fun c6 e => ?_)
  · refine gy_if_ne (tgt := 83) (gi_rgS g5) dX8_firstFault_66 (by decide) (fun z => absurd c6 z) (fun _ => ?_)
    refine gx_iload_n dX8_firstFault_69 rfl 1 rfl ?_
    refine gy_iconst dX8_firstFault_70 ?_
    refine gx_bE e (fun _ g7 e => ?_)
    refine gx_iE e (fun c8 e => ?_) (fun c8 e => ?_)
    · refine gy_icmp_eq (tgt := 79) (gi_rgS g7) (by decide) dX8_firstFault_71 (by decide) (fun _ => ?_) (fun z => absurd c8 z)
      refine gx_sub (ls2 := [(0, .ref v0)]) [0] rfl ?_
      exact zb_X8_firstFault_79  e
    · refine gy_icmp_eq (tgt := 79) (gi_rgS g7) (by decide) dX8_firstFault_71 (by decide) (fun z => absurd z c8) (fun _ => ?_)
      refine gx_iload_n dX8_firstFault_74 rfl 1 rfl ?_
      refine gy_iconst dX8_firstFault_75 ?_
      refine gx_iE e (fun c12 e => ?_) (fun c12 e => ?_)
      · refine gy_icmp_ne (tgt := 83) (gi_rgS g7) (by decide) dX8_firstFault_76 (by decide) (fun z => absurd c12 z) (fun _ => ?_)
        refine gx_sub (ls2 := [(0, .ref v0)]) [0] rfl ?_
        exact zb_X8_firstFault_79  e
      · refine gy_icmp_ne (tgt := 83) (gi_rgS g7) (by decide) dX8_firstFault_76 (by decide) (fun _ => ?_) (fun z => absurd z c12)
        refine gx_sub (ls2 := [(0, .ref v0)]) [0] rfl ?_
        exact zb_X8_firstFault_83  e
  · refine gy_if_ne (tgt := 83) (gi_rgS g5) dX8_firstFault_66 (by decide) (fun _ => ?_) (fun z => absurd z c6)
    refine gx_sub (ls2 := [(0, .ref v0)]) [0] rfl ?_
    exact zb_X8_firstFault_83  e
set_option maxRecDepth 100000 in
def b_X8_firstFault_59 (n : Nat) (r6 : Nat → Int → Int → Int → gi_H → Option (Int)) (v0 : Nat) (v1 : Int) (v2 : Int) (v3 : Int)  (h : gi_H) : Option (Int) :=
  gx_nm (v3 + (1 : Int)) fun t21 => r6 v0 v1 v2 t21 h
set_option maxRecDepth 100000 in
theorem zb_X8_firstFault_59 {al : Bool} {n : Nat} {r6 : Nat → Int → Int → Int → gi_H → Option (Int)} {res : Int} (hr6 : ∀ (x0 : Nat) (x1 : Int) (x2 : Int) (x3 : Int) (hh : gi_H), r6 x0 x1 x2 x3 hh = some res → gx_Z mX8_firstFault al al 0 0 6 [(0, .ref x0), (1, .int (gI x1)), (2, .int (gI x2)), (3, .int (gI x3))] [] (gi_cv hh) (.inl (some (.int (gI res)))) (gi_cv hh)) {v0 : Nat} {v1 : Int} {v2 : Int} {v3 : Int}  {h : gi_H} (e : b_X8_firstFault_59 n r6 v0 v1 v2 v3 h = some res) : gx_Z mX8_firstFault al al 0 0 59 [(0, .ref v0), (1, .int (gI v1)), (2, .int (gI v2)), (3, .int (gI v3))] [] (gi_cv h) (.inl (some (.int (gI res)))) (gi_cv h) := by
  refine gx_nE e (fun t21 ht21 e => ?_)
  refine gy_iinc (v := t21) (ls2 := [(3, .int (gI t21)), (0, .ref v0), (1, .int (gI v1)), (2, .int (gI v2))]) dX8_firstFault_59 3 rfl ht21 (Nat.le_of_ble_eq_true rfl) rfl ?_
  refine gx_goto (tgt := 6) dX8_firstFault_62 (by decide) ?_
  refine gx_sub (ls2 := [(0, .ref v0), (1, .int (gI v1)), (2, .int (gI v2)), (3, .int (gI t21))]) [1, 2, 3, 0] rfl ?_
  exact hr6 _ _ _ _ _ e
set_option maxRecDepth 100000 in
def b_X8_firstFault_6 (n : Nat) (r6 : Nat → Int → Int → Int → gi_H → Option (Int)) (v0 : Nat) (v1 : Int) (v2 : Int) (v3 : Int)  (h : gi_H) : Option (Int) :=
  Option.bind (gi_gI h v0 7 1) fun t1 => Option.bind (gi_rg v3) fun _ => Option.bind (gi_rg t1) fun _ => if t1 ≤ v3 then (b_X8_firstFault_65 n  v0 v1 v2 h) else (Option.bind (gi_is h v0 7) fun _ => Option.bind (f_X8_letter v0 v3 h) fun q14 => Option.bind (f_X8_stateBehind v1 q14 v2 h) fun q15 => Option.bind (gi_rg q15) fun _ => if q15 = (5 : Int) then (some v3) else (Option.bind (gi_rg q14) fun _ => if q14 = (40 : Int) then (gx_nm (v2 + (1 : Int)) fun t20 => b_X8_firstFault_59 n r6 v0 q15 t20 v3 h) else (if q14 = (41 : Int) then (gx_nm (v2 + (-1 : Int)) fun t23 => b_X8_firstFault_59 n r6 v0 q15 t23 v3 h) else (b_X8_firstFault_59 n r6 v0 q15 v2 v3 h))))
set_option maxRecDepth 100000 in
theorem zb_X8_firstFault_6 {al : Bool} {n : Nat} {r6 : Nat → Int → Int → Int → gi_H → Option (Int)} {res : Int} (hr6 : ∀ (x0 : Nat) (x1 : Int) (x2 : Int) (x3 : Int) (hh : gi_H), r6 x0 x1 x2 x3 hh = some res → gx_Z mX8_firstFault al al 0 0 6 [(0, .ref x0), (1, .int (gI x1)), (2, .int (gI x2)), (3, .int (gI x3))] [] (gi_cv hh) (.inl (some (.int (gI res)))) (gi_cv hh)) {v0 : Nat} {v1 : Int} {v2 : Int} {v3 : Int}  {h : gi_H} (e : b_X8_firstFault_6 n r6 v0 v1 v2 v3 h = some res) : gx_Z mX8_firstFault al al 0 0 6 [(0, .ref v0), (1, .int (gI v1)), (2, .int (gI v2)), (3, .int (gI v3))] [] (gi_cv h) (.inl (some (.int (gI res)))) (gi_cv h) := by
  refine gx_iload_n dX8_firstFault_6 rfl 3 rfl ?_
  refine gx_aload_n dX8_firstFault_7 rfl 0 rfl ?_
  refine gx_bE e (fun t1 ht1 e => ?_)
  refine gy_fI ht1 dX8_firstFault_8 gf_RX8_15_7_1 (by decide) gkN_7_1 gkR_7_1 ?_
  refine gx_bE e (fun _ g2 e => ?_)
  refine gx_bE e (fun _ g3 e => ?_)
  refine gx_iE e (fun c4 e => ?_) (fun c4 e => ?_)
  · refine gy_icmp_ge (tgt := 65) (gi_rgS g2) (gi_rgS g3) dX8_firstFault_11 (by decide) (fun _ => ?_) (fun z => absurd c4 z)
    refine gx_sub (ls2 := [(0, .ref v0), (1, .int (gI v1)), (2, .int (gI v2))]) [0, 1, 2] rfl ?_
    exact zb_X8_firstFault_65  e
  · refine gy_icmp_ge (tgt := 65) (gi_rgS g2) (gi_rgS g3) dX8_firstFault_11 (by decide) (fun z => absurd z c4) (fun _ => ?_)
    refine gx_aload_n dX8_firstFault_14 rfl 0 rfl ?_
    refine gx_iload_n dX8_firstFault_15 rfl 3 rfl ?_
    refine gx_bE e (fun _ hu13 e => ?_)
    refine gx_bE e (fun q14 hq14 e => ?_)
    refine gx_callV (n := 1) (st := []) (As := [.int (gI v3)]) (b := v0) dX8_firstFault_16 (z_X8_letter hq14) rfl ⟨rfl, gw_cw_X8_letter, gw_2, gp_X8_letter, ⟨Nat.le_of_ble_eq_true rfl, Nat.le_of_ble_eq_true rfl⟩⟩ (gi_isS hu13) (by decide) gw_360 gw_361 gw_362 rfl ⟨Nat.le_of_ble_eq_true rfl, Nat.le_of_ble_eq_true rfl⟩ (Nat.le_of_ble_eq_true rfl) (gy_k1 (x := .int (gI q14)) (kc2 := 0) (ks2 := 0) ⟨rfl, rfl⟩ ?_) gy_kn
    refine gx_istore (ls2 := [(4, .int (gI q14)), (0, .ref v0), (1, .int (gI v1)), (2, .int (gI v2)), (3, .int (gI v3))]) dX8_firstFault_19 (Nat.le_of_ble_eq_true rfl) rfl ?_
    refine gx_iload_n dX8_firstFault_21 rfl 2 rfl ?_
    refine gx_iload dX8_firstFault_22 0 rfl ?_
    refine gx_iload_n dX8_firstFault_24 rfl 3 rfl ?_
    refine gx_bE e (fun q15 hq15 e => ?_)
    refine gx_callS (n := 3) (st := []) (As := [.int (gI v1), .int (gI q14), .int (gI v2)]) dX8_firstFault_25 (z_X8_stateBehind hq15) rfl ⟨rfl, gw_cw_X8_stateBehind, gw_2, gp_X8_stateBehind, ⟨Nat.le_of_ble_eq_true rfl, Nat.le_of_ble_eq_true rfl⟩⟩ gw_364 gw_365 ⟨Nat.le_of_ble_eq_true rfl, Nat.le_of_ble_eq_true rfl⟩ (Nat.le_of_ble_eq_true rfl) (gy_k1 (x := .int (gI q15)) (kc2 := 0) (ks2 := 0) ⟨rfl, rfl⟩ ?_) gy_kn
    refine gx_istore_n (ls2 := [(1, .int (gI q15)), (4, .int (gI q14)), (0, .ref v0), (2, .int (gI v2)), (3, .int (gI v3))]) dX8_firstFault_28 rfl (Nat.le_of_ble_eq_true rfl) rfl ?_
    refine gx_iload_n dX8_firstFault_29 rfl 0 rfl ?_
    refine gy_iconst dX8_firstFault_30 ?_
    refine gx_bE e (fun _ g16 e => ?_)
    refine gx_iE e (fun c17 e => ?_) (fun c17 e => ?_)
    · refine gy_icmp_ne (tgt := 36) (gi_rgS g16) (by decide) dX8_firstFault_31 (by decide) (fun z => absurd c17 z) (fun _ => ?_)
      refine gx_iload_n dX8_firstFault_34 rfl 4 rfl ?_
      cases e
      exact gx_iret dX8_firstFault_35 rfl ⟨Nat.le_of_ble_eq_true rfl, Nat.le_of_ble_eq_true rfl⟩ (fun z => z)
    · refine gy_icmp_ne (tgt := 36) (gi_rgS g16) (by decide) dX8_firstFault_31 (by decide) (fun _ => ?_) (fun z => absurd z c17)
      refine gx_iload dX8_firstFault_36 1 rfl ?_
      refine gy_bipush dX8_firstFault_38 gcb_40 ?_
      refine gx_bE e (fun _ g18 e => ?_)
      refine gx_iE e (fun c19 e => ?_) (fun c19 e => ?_)
      · refine gy_icmp_ne (tgt := 49) (gi_rgS g18) (by decide) dX8_firstFault_40 (by decide) (fun z => absurd c19 z) (fun _ => ?_)
        refine gx_nE e (fun t20 ht20 e => ?_)
        refine gy_iinc (v := t20) (ls2 := [(2, .int (gI t20)), (1, .int (gI q15)), (4, .int (gI q14)), (0, .ref v0), (3, .int (gI v3))]) dX8_firstFault_43 3 rfl ht20 (Nat.le_of_ble_eq_true rfl) rfl ?_
        refine gx_goto (tgt := 59) dX8_firstFault_46 (by decide) ?_
        refine gx_sub (ls2 := [(0, .ref v0), (1, .int (gI q15)), (2, .int (gI t20)), (3, .int (gI v3))]) [3, 1, 0, 4] rfl ?_
        exact zb_X8_firstFault_59 hr6 e
      · refine gy_icmp_ne (tgt := 49) (gi_rgS g18) (by decide) dX8_firstFault_40 (by decide) (fun _ => ?_) (fun z => absurd z c19)
        refine gx_iload dX8_firstFault_49 1 rfl ?_
        refine gy_bipush dX8_firstFault_51 gcb_41 ?_
        refine gx_iE e (fun c22 e => ?_) (fun c22 e => ?_)
        · refine gy_icmp_ne (tgt := 59) (gi_rgS g18) (by decide) dX8_firstFault_53 (by decide) (fun z => absurd c22 z) (fun _ => ?_)
          refine gx_nE e (fun t23 ht23 e => ?_)
          refine gy_iinc (v := t23) (ls2 := [(2, .int (gI t23)), (1, .int (gI q15)), (4, .int (gI q14)), (0, .ref v0), (3, .int (gI v3))]) dX8_firstFault_56 3 rfl ht23 (Nat.le_of_ble_eq_true rfl) rfl ?_
          refine gx_sub (ls2 := [(0, .ref v0), (1, .int (gI q15)), (2, .int (gI t23)), (3, .int (gI v3))]) [3, 1, 0, 4] rfl ?_
          exact zb_X8_firstFault_59 hr6 e
        · refine gy_icmp_ne (tgt := 59) (gi_rgS g18) (by decide) dX8_firstFault_53 (by decide) (fun _ => ?_) (fun z => absurd z c22)
          refine gx_sub (ls2 := [(0, .ref v0), (1, .int (gI q15)), (2, .int (gI v2)), (3, .int (gI v3))]) [2, 0, 3, 4] rfl ?_
          exact zb_X8_firstFault_59 hr6 e
def l_X8_firstFault_6 (n : Nat)  : Nat → Nat → Int → Int → Int → gi_H → Option (Int)
  | 0, _, _, _, _, _ => none
  | k + 1, v0, v1, v2, v3, h => b_X8_firstFault_6 n  (l_X8_firstFault_6 n  k) v0 v1 v2 v3 h
theorem zl_X8_firstFault_6 {al : Bool} {n : Nat}  {res : Int}  : ∀ (k : Nat) (v0 : Nat) (v1 : Int) (v2 : Int) (v3 : Int) (h : gi_H), l_X8_firstFault_6 n  k v0 v1 v2 v3 h = some res → gx_Z mX8_firstFault al al 0 0 6 [(0, .ref v0), (1, .int (gI v1)), (2, .int (gI v2)), (3, .int (gI v3))] [] (gi_cv h) (.inl (some (.int (gI res)))) (gi_cv h)
  | 0, _, _, _, _, _, e => gx_0E e
  | k + 1, _, _, _, _, _, e => zb_X8_firstFault_6 (n := n)  (zl_X8_firstFault_6  k) e
set_option maxRecDepth 100000 in
def f_X8_firstFault (n : Nat) (v0 : Nat) (h : gi_H) : Option (Int) :=
  l_X8_firstFault_6 n  n v0 (0 : Int) (0 : Int) (0 : Int) h
set_option maxRecDepth 100000 in
theorem z_X8_firstFault {al : Bool} {n : Nat} {v0 : Nat} {h : gi_H} {res : Int} (e : f_X8_firstFault n v0 h = some res) : gx_Cw mX8_firstFault al [.ref v0] (gi_cv h) (.inl (some (.int (gI res)))) (gi_cv h) := by
  refine gx_enter (by decide +kernel) rfl (Nat.le_of_ble_eq_true rfl) ?_
  show gx_Z mX8_firstFault al al 0 0 0 [(0, .ref v0)] [] (gi_cv h) (.inl (some (.int (gI res)))) (gi_cv h)
  refine gy_iconst dX8_firstFault_0 ?_
  refine gx_istore_n (ls2 := [(1, .int (gI (0 : Int))), (0, .ref v0)]) dX8_firstFault_1 rfl (Nat.le_of_ble_eq_true rfl) rfl ?_
  refine gy_iconst dX8_firstFault_2 ?_
  refine gx_istore_n (ls2 := [(2, .int (gI (0 : Int))), (1, .int (gI (0 : Int))), (0, .ref v0)]) dX8_firstFault_3 rfl (Nat.le_of_ble_eq_true rfl) rfl ?_
  refine gy_iconst dX8_firstFault_4 ?_
  refine gx_istore_n (ls2 := [(3, .int (gI (0 : Int))), (2, .int (gI (0 : Int))), (1, .int (gI (0 : Int))), (0, .ref v0)]) dX8_firstFault_5 rfl (Nat.le_of_ble_eq_true rfl) rfl ?_
  refine gx_sub (ls2 := [(0, .ref v0), (1, .int (gI (0 : Int))), (2, .int (gI (0 : Int))), (3, .int (gI (0 : Int)))]) [3, 2, 1, 0] rfl ?_
  exact zl_X8_firstFault_6  n _ _ _ _ _ e
/-! X11_fault  -/
set_option maxRecDepth 100000 in
def f_X11_fault (n : Nat) (v0 : Nat) (h : gi_H) : Option (Int) :=
  Option.bind (gi_gR h v0 9 0) fun t1 => Option.bind (gi_is h t1 7) fun _ => Option.bind (f_X8_firstFault n t1 h) fun q3 => some q3
set_option maxRecDepth 100000 in
theorem z_X11_fault {al : Bool} {n : Nat} {v0 : Nat} {h : gi_H} {res : Int} (e : f_X11_fault n v0 h = some res) : gx_Cw mX11_fault al [.ref v0] (gi_cv h) (.inl (some (.int (gI res)))) (gi_cv h) := by
  refine gx_enter (by decide +kernel) rfl (Nat.le_of_ble_eq_true rfl) ?_
  show gx_Z mX11_fault al al 0 0 0 [(0, .ref v0)] [] (gi_cv h) (.inl (some (.int (gI res)))) (gi_cv h)
  refine gx_aload_n dX11_fault_0 rfl 0 rfl ?_
  refine gx_bE e (fun t1 ht1 e => ?_)
  refine gy_fR ht1 dX11_fault_1 gf_RX11_12_9_0 (by decide) gkN_9_0 gkR_9_0 ?_
  refine gx_bE e (fun _ hu2 e => ?_)
  refine gx_bE e (fun q3 hq3 e => ?_)
  refine gx_callV (n := 0) (st := []) (As := []) (b := t1) dX11_fault_4 (z_X8_firstFault hq3) rfl ⟨rfl, gw_cw_X8_firstFault, gw_2, gp_X8_firstFault, ⟨Nat.le_of_ble_eq_true rfl, Nat.le_of_ble_eq_true rfl⟩⟩ (gi_isS hu2) (by decide) gw_356 gw_357 gw_358 rfl ⟨Nat.le_of_ble_eq_true rfl, Nat.le_of_ble_eq_true rfl⟩ (Nat.le_of_ble_eq_true rfl) (gy_k1 (x := .int (gI q3)) (kc2 := 0) (ks2 := 0) ⟨rfl, rfl⟩ ?_) gy_kn
  cases e
  exact gx_iret dX11_fault_7 rfl ⟨Nat.le_of_ble_eq_true rfl, Nat.le_of_ble_eq_true rfl⟩ (fun z => z)
/-! X8_length  -/
set_option maxRecDepth 100000 in
def f_X8_length (v0 : Nat) (h : gi_H) : Option (Int) :=
  Option.bind (gi_gI h v0 7 1) fun t1 => some t1
set_option maxRecDepth 100000 in
theorem z_X8_length {al : Bool} {v0 : Nat} {h : gi_H} {res : Int} (e : f_X8_length v0 h = some res) : gx_Cw mX8_length al [.ref v0] (gi_cv h) (.inl (some (.int (gI res)))) (gi_cv h) := by
  refine gx_enter (by decide +kernel) rfl (Nat.le_of_ble_eq_true rfl) ?_
  show gx_Z mX8_length al al 0 0 0 [(0, .ref v0)] [] (gi_cv h) (.inl (some (.int (gI res)))) (gi_cv h)
  refine gx_aload_n dX8_length_0 rfl 0 rfl ?_
  refine gx_bE e (fun t1 ht1 e => ?_)
  refine gy_fI ht1 dX8_length_1 gf_RX8_15_7_1 (by decide) gkN_7_1 gkR_7_1 ?_
  cases e
  exact gx_iret dX8_length_4 rfl ⟨Nat.le_of_ble_eq_true rfl, Nat.le_of_ble_eq_true rfl⟩ (fun z => z)
/-! X4_owner  -/
set_option maxRecDepth 100000 in
def b_X4_owner_21    (h : gi_H) : Option (Int) :=
  some (-1 : Int)
set_option maxRecDepth 100000 in
theorem zb_X4_owner_21 {al : Bool}  {res : Int}    {h : gi_H} (e : b_X4_owner_21  h = some res) : gx_Z mX4_owner al al 0 0 21 [] [] (gi_cv h) (.inl (some (.int (gI res)))) (gi_cv h) := by
  refine gy_iconst dX4_owner_21 ?_
  cases e
  exact gx_iret dX4_owner_22 rfl ⟨Nat.le_of_ble_eq_true rfl, Nat.le_of_ble_eq_true rfl⟩ (fun z => z)
set_option maxRecDepth 100000 in
def f_X4_owner (v0 : Nat) (v1 : Int) (h : gi_H) : Option (Int) :=
  Option.bind (gi_rg v1) fun _ => if v1 < 0 then (b_X4_owner_21   h) else (Option.bind (gi_gI h v0 3 3) fun t3 => Option.bind (gi_rg t3) fun _ => if t3 ≤ v1 then (b_X4_owner_21   h) else (Option.bind (gi_gR h v0 3 0) fun t6 => Option.bind (gi_aI h 1 t6 v1) fun t7 => some t7))
set_option maxRecDepth 100000 in
theorem z_X4_owner {al : Bool} {v0 : Nat} {v1 : Int} {h : gi_H} {res : Int} (e : f_X4_owner v0 v1 h = some res) : gx_Cw mX4_owner al [.ref v0, .int (gI v1)] (gi_cv h) (.inl (some (.int (gI res)))) (gi_cv h) := by
  refine gx_enter (by decide +kernel) rfl (Nat.le_of_ble_eq_true rfl) ?_
  show gx_Z mX4_owner al al 0 0 0 [(0, .ref v0), (1, .int (gI v1))] [] (gi_cv h) (.inl (some (.int (gI res)))) (gi_cv h)
  refine gx_iload_n dX4_owner_0 rfl 1 rfl ?_
  refine gx_bE e (fun _ g1 e => ?_)
  refine gx_iE e (fun c2 e => ?_) (fun c2 e => ?_)
  · refine gy_if_lt (tgt := 21) (gi_rgS g1) dX4_owner_1 (by decide) (fun _ => ?_) (fun z => absurd c2 z)
    refine gx_sub (ls2 := []) [] rfl ?_
    exact zb_X4_owner_21  e
  · refine gy_if_lt (tgt := 21) (gi_rgS g1) dX4_owner_1 (by decide) (fun z => absurd z c2) (fun _ => ?_)
    refine gx_iload_n dX4_owner_4 rfl 1 rfl ?_
    refine gx_aload_n dX4_owner_5 rfl 0 rfl ?_
    refine gx_bE e (fun t3 ht3 e => ?_)
    refine gy_fI ht3 dX4_owner_6 gf_RX4_42_3_3 (by decide) gkN_3_3 gkR_3_3 ?_
    refine gx_bE e (fun _ g4 e => ?_)
    refine gx_iE e (fun c5 e => ?_) (fun c5 e => ?_)
    · refine gy_icmp_ge (tgt := 21) (gi_rgS g1) (gi_rgS g4) dX4_owner_9 (by decide) (fun _ => ?_) (fun z => absurd c5 z)
      refine gx_sub (ls2 := []) [] rfl ?_
      exact zb_X4_owner_21  e
    · refine gy_icmp_ge (tgt := 21) (gi_rgS g1) (gi_rgS g4) dX4_owner_9 (by decide) (fun z => absurd z c5) (fun _ => ?_)
      refine gx_aload_n dX4_owner_12 rfl 0 rfl ?_
      refine gx_bE e (fun t6 ht6 e => ?_)
      refine gy_fR ht6 dX4_owner_13 gf_RX4_9_3_0 (by decide) gkN_3_0 gkR_3_0 ?_
      refine gx_iload_n dX4_owner_16 rfl 1 rfl ?_
      refine gx_bE e (fun t7 ht7 e => ?_)
      refine gy_l1 ht7 dX4_owner_17 ?_
      refine gx_goto (tgt := 22) dX4_owner_18 (by decide) ?_
      cases e
      exact gx_iret dX4_owner_22 rfl ⟨Nat.le_of_ble_eq_true rfl, Nat.le_of_ble_eq_true rfl⟩ (fun z => z)
