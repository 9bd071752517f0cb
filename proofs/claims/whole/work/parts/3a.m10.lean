/-! X9_reducedBy  -/
set_option maxRecDepth 100000 in
def f_X9_reducedBy (v0 : Nat) (v1 : Int) (v2 : Int) (h : gi_H) : Option (Int) :=
  Option.bind (gi_gR h v0 8 1) fun t1 => Option.bind (gi_is h t1 0) fun _ => Option.bind (f_X0_facts t1 h) fun q3 => Option.bind (gi_is h q3 2) fun _ => Option.bind (f_X3_grammar q3 h) fun q5 => Option.bind (gi_gR h v0 8 1) fun t6 => Option.bind (gi_is h q5 3) fun _ => Option.bind (f_X4_length q5 v2 h) fun q8 => Option.bind (gi_is h t6 0) fun _ => Option.bind (f_X0_row t6 v1 ((v2 * (6 : Int)) + q8) h) fun q10 => Option.bind (gi_rg q10) fun _ => if q10 = 0 then (some (0 : Int)) else (Option.bind (gi_gI h v0 8 2) fun t13 => Option.bind (gi_rg t13) fun _ => if t13 = 0 then (some (gi_and q10 (511 : Int))) else (Option.bind (gi_gR h v0 8 1) fun t16 => Option.bind (gi_is h t16 0) fun _ => Option.bind (f_X0_facts t16 h) fun q18 => Option.bind (gi_is h q5 3) fun _ => Option.bind (f_X4_owner q5 v2 h) fun q20 => Option.bind (gi_is h q18 2) fun _ => Option.bind (f_X3_behind q18 q20 h) fun q22 => some q22))
set_option maxRecDepth 100000 in
theorem z_X9_reducedBy {al : Bool} {v0 : Nat} {v1 : Int} {v2 : Int} {h : gi_H} {res : Int} (e : f_X9_reducedBy v0 v1 v2 h = some res) : gx_Cw mX9_reducedBy al [.ref v0, .int (gI v1), .int (gI v2)] (gi_cv h) (.inl (some (.int (gI res)))) (gi_cv h) := by
  refine gx_enter (by decide +kernel) rfl (Nat.le_of_ble_eq_true rfl) ?_
  show gx_Z mX9_reducedBy al al 0 0 0 [(0, .ref v0), (1, .int (gI v1)), (2, .int (gI v2))] [] (gi_cv h) (.inl (some (.int (gI res)))) (gi_cv h)
  refine gx_aload_n dX9_reducedBy_0 rfl 0 rfl ?_
  refine gx_bE e (fun t1 ht1 e => ?_)
  refine gy_fR ht1 dX9_reducedBy_1 gf_RX9_18_8_1 (by decide) gkN_8_1 gkR_8_1 ?_
  refine gx_bE e (fun _ hu2 e => ?_)
  refine gx_bE e (fun q3 hq3 e => ?_)
  refine gx_callV (n := 0) (st := []) (As := []) (b := t1) dX9_reducedBy_4 (z_X0_facts hq3) rfl ⟨rfl, gw_cw_X0_facts, gw_7, gp_X0_facts, ⟨Nat.le_of_ble_eq_true rfl, Nat.le_of_ble_eq_true rfl⟩⟩ (gi_isS hu2) (by decide) gw_640 gw_641 gw_642 rfl ⟨Nat.le_of_ble_eq_true rfl, Nat.le_of_ble_eq_true rfl⟩ (Nat.le_of_ble_eq_true rfl) (gy_k1 (x := .ref q3) (kc2 := 0) (ks2 := 0) ⟨rfl, rfl⟩ ?_) gy_kn
  refine gx_bE e (fun _ hu4 e => ?_)
  refine gx_bE e (fun q5 hq5 e => ?_)
  refine gx_callV (n := 0) (st := []) (As := []) (b := q3) dX9_reducedBy_7 (z_X3_grammar hq5) rfl ⟨rfl, gw_cw_X3_grammar, gw_6, gp_X3_grammar, ⟨Nat.le_of_ble_eq_true rfl, Nat.le_of_ble_eq_true rfl⟩⟩ (gi_isS hu4) (by decide) gw_644 gw_556 gw_557 rfl ⟨Nat.le_of_ble_eq_true rfl, Nat.le_of_ble_eq_true rfl⟩ (Nat.le_of_ble_eq_true rfl) (gy_k1 (x := .ref q5) (kc2 := 0) (ks2 := 0) ⟨rfl, rfl⟩ ?_) gy_kn
  refine gx_astore_n (ls2 := [(3, .ref q5), (0, .ref v0), (1, .int (gI v1)), (2, .int (gI v2))]) dX9_reducedBy_10 rfl (Nat.le_of_ble_eq_true rfl) rfl ?_
  refine gx_aload_n dX9_reducedBy_11 rfl 1 rfl ?_
  refine gx_bE e (fun t6 ht6 e => ?_)
  refine gy_fR ht6 dX9_reducedBy_12 gf_RX9_18_8_1 (by decide) gkN_8_1 gkR_8_1 ?_
  refine gx_iload_n dX9_reducedBy_15 rfl 2 rfl ?_
  refine gx_iload_n dX9_reducedBy_16 rfl 3 rfl ?_
  refine gy_bipush dX9_reducedBy_17 gcb_6 ?_
  refine gy_imul dX9_reducedBy_19 ?_
  refine gx_aload_n dX9_reducedBy_20 rfl 0 rfl ?_
  refine gx_iload_n dX9_reducedBy_21 rfl 3 rfl ?_
  refine gx_bE e (fun _ hu7 e => ?_)
  refine gx_bE e (fun q8 hq8 e => ?_)
  refine gx_callV (n := 1) (st := [.int (gI (v2 * (6 : Int))), .int (gI v1), .ref t6]) (As := [.int (gI v2)]) (b := q5) dX9_reducedBy_22 (z_X4_length hq8) rfl ⟨rfl, gw_cw_X4_length, gw_3, gp_X4_length, ⟨Nat.le_of_ble_eq_true rfl, Nat.le_of_ble_eq_true rfl⟩⟩ (gi_isS hu7) (by decide) gw_659 gw_424 gw_425 rfl ⟨Nat.le_of_ble_eq_true rfl, Nat.le_of_ble_eq_true rfl⟩ (Nat.le_of_ble_eq_true rfl) (gy_k1 (x := .int (gI q8)) (kc2 := 0) (ks2 := 0) ⟨rfl, rfl⟩ ?_) gy_kn
  refine gy_iadd dX9_reducedBy_25 ?_
  refine gx_bE e (fun _ hu9 e => ?_)
  refine gx_bE e (fun q10 hq10 e => ?_)
  refine gx_callV (n := 2) (st := []) (As := [.int (gI v1), .int (gI ((v2 * (6 : Int)) + q8))]) (b := t6) dX9_reducedBy_26 (z_X0_row hq10) rfl ⟨rfl, gw_cw_X0_row, gw_7, gp_X0_row, ⟨Nat.le_of_ble_eq_true rfl, Nat.le_of_ble_eq_true rfl⟩⟩ (gi_isS hu9) (by decide) gw_652 gw_538 gw_539 rfl ⟨Nat.le_of_ble_eq_true rfl, Nat.le_of_ble_eq_true rfl⟩ (Nat.le_of_ble_eq_true rfl) (gy_k1 (x := .int (gI q10)) (kc2 := 0) (ks2 := 0) ⟨rfl, rfl⟩ ?_) gy_kn
  refine gx_istore (ls2 := [(4, .int (gI q10)), (3, .ref q5), (0, .ref v0), (1, .int (gI v1)), (2, .int (gI v2))]) dX9_reducedBy_29 (Nat.le_of_ble_eq_true rfl) rfl ?_
  refine gx_iload dX9_reducedBy_31 0 rfl ?_
  refine gx_bE e (fun _ g11 e => ?_)
  refine gx_iE e (fun c12 e => ?_) (fun c12 e => ?_)
  · refine gy_if_ne (tgt := 38) (gi_rgS g11) dX9_reducedBy_33 (by decide) (fun z => absurd c12 z) (fun _ => ?_)
    refine gy_iconst dX9_reducedBy_36 ?_
    cases e
    exact gx_iret dX9_reducedBy_37 rfl ⟨Nat.le_of_ble_eq_true rfl, Nat.le_of_ble_eq_true rfl⟩ (fun z => z)
  · refine gy_if_ne (tgt := 38) (gi_rgS g11) dX9_reducedBy_33 (by decide) (fun _ => ?_) (fun z => absurd z c12)
    refine gx_aload_n dX9_reducedBy_38 rfl 2 rfl ?_
    refine gx_bE e (fun t13 ht13 e => ?_)
    refine gy_fI ht13 dX9_reducedBy_39 gf_RX9_22_8_2 (by decide) gkN_8_2 gkR_8_2 ?_
    refine gx_bE e (fun _ g14 e => ?_)
    refine gx_iE e (fun c15 e => ?_) (fun c15 e => ?_)
    · refine gy_if_eq (tgt := 63) (gi_rgS g14) dX9_reducedBy_42 (by decide) (fun _ => ?_) (fun z => absurd c15 z)
      refine gx_iload dX9_reducedBy_63 0 rfl ?_
      refine gy_sipush dX9_reducedBy_65 gcs_511 ?_
      refine gy_iand dX9_reducedBy_68 ?_
      cases e
      exact gx_iret dX9_reducedBy_69 rfl ⟨Nat.le_of_ble_eq_true rfl, Nat.le_of_ble_eq_true rfl⟩ (fun z => z)
    · refine gy_if_eq (tgt := 63) (gi_rgS g14) dX9_reducedBy_42 (by decide) (fun z => absurd z c15) (fun _ => ?_)
      refine gx_aload_n dX9_reducedBy_45 rfl 2 rfl ?_
      refine gx_bE e (fun t16 ht16 e => ?_)
      refine gy_fR ht16 dX9_reducedBy_46 gf_RX9_18_8_1 (by decide) gkN_8_1 gkR_8_1 ?_
      refine gx_bE e (fun _ hu17 e => ?_)
      refine gx_bE e (fun q18 hq18 e => ?_)
      refine gx_callV (n := 0) (st := []) (As := []) (b := t16) dX9_reducedBy_49 (z_X0_facts hq18) rfl ⟨rfl, gw_cw_X0_facts, gw_7, gp_X0_facts, ⟨Nat.le_of_ble_eq_true rfl, Nat.le_of_ble_eq_true rfl⟩⟩ (gi_isS hu17) (by decide) gw_640 gw_641 gw_642 rfl ⟨Nat.le_of_ble_eq_true rfl, Nat.le_of_ble_eq_true rfl⟩ (Nat.le_of_ble_eq_true rfl) (gy_k1 (x := .ref q18) (kc2 := 0) (ks2 := 0) ⟨rfl, rfl⟩ ?_) gy_kn
      refine gx_aload_n dX9_reducedBy_52 rfl 1 rfl ?_
      refine gx_iload_n dX9_reducedBy_53 rfl 4 rfl ?_
      refine gx_bE e (fun _ hu19 e => ?_)
      refine gx_bE e (fun q20 hq20 e => ?_)
      refine gx_callV (n := 1) (st := [.ref q18]) (As := [.int (gI v2)]) (b := q5) dX9_reducedBy_54 (z_X4_owner hq20) rfl ⟨rfl, gw_cw_X4_owner, gw_3, gp_X4_owner, ⟨Nat.le_of_ble_eq_true rfl, Nat.le_of_ble_eq_true rfl⟩⟩ (gi_isS hu19) (by decide) gw_660 gw_416 gw_417 rfl ⟨Nat.le_of_ble_eq_true rfl, Nat.le_of_ble_eq_true rfl⟩ (Nat.le_of_ble_eq_true rfl) (gy_k1 (x := .int (gI q20)) (kc2 := 0) (ks2 := 0) ⟨rfl, rfl⟩ ?_) gy_kn
      refine gx_bE e (fun _ hu21 e => ?_)
      refine gx_bE e (fun q22 hq22 e => ?_)
      refine gx_callV (n := 1) (st := []) (As := [.int (gI q20)]) (b := q18) dX9_reducedBy_57 (z_X3_behind hq22) rfl ⟨rfl, gw_cw_X3_behind, gw_6, gp_X3_behind, ⟨Nat.le_of_ble_eq_true rfl, Nat.le_of_ble_eq_true rfl⟩⟩ (gi_isS hu21) (by decide) gw_661 gw_454 gw_455 rfl ⟨Nat.le_of_ble_eq_true rfl, Nat.le_of_ble_eq_true rfl⟩ (Nat.le_of_ble_eq_true rfl) (gy_k1 (x := .int (gI q22)) (kc2 := 0) (ks2 := 0) ⟨rfl, rfl⟩ ?_) gy_kn
      refine gx_goto (tgt := 69) dX9_reducedBy_60 (by decide) ?_
      cases e
      exact gx_iret dX9_reducedBy_69 rfl ⟨Nat.le_of_ble_eq_true rfl, Nat.le_of_ble_eq_true rfl⟩ (fun z => z)
/-! X9_readCell  -/
set_option maxRecDepth 100000 in
def b_X9_readCell_116 (n : Nat) (r81 : Nat → Int → Int → Int → gi_H → Option (gi_H)) (v0 : Nat) (v1 : Int) (v2 : Int) (v4 : Int)  (h : gi_H) : Option (gi_H) :=
  gx_nm (v4 + (-1 : Int)) fun t27 => r81 v0 v1 v2 t27 h
set_option maxRecDepth 100000 in
theorem zb_X9_readCell_116 {al : Bool} {n : Nat} {r81 : Nat → Int → Int → Int → gi_H → Option (gi_H)} {h1 : gi_H} (hr81 : ∀ (x0 : Nat) (x1 : Int) (x2 : Int) (x4 : Int) (hh : gi_H), r81 x0 x1 x2 x4 hh = some h1 → gx_Z mX9_readCell al al 0 0 81 [(0, .ref x0), (1, .int (gI x1)), (2, .int (gI x2)), (4, .int (gI x4))] [] (gi_cv hh) (.inl none) (gi_cv h1)) {v0 : Nat} {v1 : Int} {v2 : Int} {v4 : Int}  {h : gi_H} (e : b_X9_readCell_116 n r81 v0 v1 v2 v4 h = some h1) : gx_Z mX9_readCell al al 0 0 116 [(0, .ref v0), (1, .int (gI v1)), (2, .int (gI v2)), (4, .int (gI v4))] [] (gi_cv h) (.inl none) (gi_cv h1) := by
  refine gx_nE e (fun t27 ht27 e => ?_)
  refine gy_iinc (v := t27) (ls2 := [(4, .int (gI t27)), (0, .ref v0), (1, .int (gI v1)), (2, .int (gI v2))]) dX9_readCell_116 3 rfl ht27 (Nat.le_of_ble_eq_true rfl) rfl ?_
  refine gx_goto (tgt := 81) dX9_readCell_119 (by decide) ?_
  refine gx_sub (ls2 := [(0, .ref v0), (1, .int (gI v1)), (2, .int (gI v2)), (4, .int (gI t27))]) [1, 2, 3, 0] rfl ?_
  exact hr81 _ _ _ _ _ e
set_option maxRecDepth 100000 in
def b_X9_readCell_81 (n : Nat) (r81 : Nat → Int → Int → Int → gi_H → Option (gi_H)) (v0 : Nat) (v1 : Int) (v2 : Int) (v4 : Int)  (h : gi_H) : Option (gi_H) :=
  Option.bind (gi_rg v4) fun _ => if v4 < 0 then (some h) else (Option.bind (gi_is h v0 8) fun _ => Option.bind (f_X9_reducedBy v0 v1 v4 h) fun q23 => Option.bind (f_X11_has q23 v2 h) fun q24 => Option.bind (gi_rg q24) fun _ => if q24 = 0 then (b_X9_readCell_116 n r81 v0 v1 v2 v4 h) else (Option.bind (gi_gI h v0 8 8) fun t28 => Option.bind (gi_pI h v0 8 8 (t28 + (1 : Int))) fun h29 => Option.bind (gi_pI h29 v0 8 9 v4) fun h30 => b_X9_readCell_116 n r81 v0 v1 v2 v4 h30))
set_option maxRecDepth 100000 in
theorem zb_X9_readCell_81 {al : Bool} {n : Nat} {r81 : Nat → Int → Int → Int → gi_H → Option (gi_H)} {h1 : gi_H} (hr81 : ∀ (x0 : Nat) (x1 : Int) (x2 : Int) (x4 : Int) (hh : gi_H), r81 x0 x1 x2 x4 hh = some h1 → gx_Z mX9_readCell al al 0 0 81 [(0, .ref x0), (1, .int (gI x1)), (2, .int (gI x2)), (4, .int (gI x4))] [] (gi_cv hh) (.inl none) (gi_cv h1)) {v0 : Nat} {v1 : Int} {v2 : Int} {v4 : Int}  {h : gi_H} (e : b_X9_readCell_81 n r81 v0 v1 v2 v4 h = some h1) : gx_Z mX9_readCell al al 0 0 81 [(0, .ref v0), (1, .int (gI v1)), (2, .int (gI v2)), (4, .int (gI v4))] [] (gi_cv h) (.inl none) (gi_cv h1) := by
  refine gx_iload dX9_readCell_81 3 rfl ?_
  refine gx_bE e (fun _ g20 e => ?_)
  refine gx_iE e (fun c21 e => ?_) (fun c21 e => ?_)
  · refine gy_if_lt (tgt := 122) (gi_rgS g20) dX9_readCell_83 (by decide) (fun _ => ?_) (fun z => absurd c21 z)
    cases e
    exact gx_vret dX9_readCell_122 rfl ⟨Nat.le_of_ble_eq_true rfl, Nat.le_of_ble_eq_true rfl⟩ (fun z => z)
  · refine gy_if_lt (tgt := 122) (gi_rgS g20) dX9_readCell_83 (by decide) (fun z => absurd z c21) (fun _ => ?_)
    refine gx_aload_n dX9_readCell_86 rfl 0 rfl ?_
    refine gx_iload_n dX9_readCell_87 rfl 1 rfl ?_
    refine gx_iload dX9_readCell_88 3 rfl ?_
    refine gx_bE e (fun _ hu22 e => ?_)
    refine gx_bE e (fun q23 hq23 e => ?_)
    refine gx_callV (n := 2) (st := []) (As := [.int (gI v1), .int (gI v4)]) (b := v0) dX9_readCell_90 (z_X9_reducedBy hq23) rfl ⟨rfl, gw_cw_X9_reducedBy, gw_10, gp_X9_reducedBy, ⟨Nat.le_of_ble_eq_true rfl, Nat.le_of_ble_eq_true rfl⟩⟩ (gi_isS hu22) (by decide) gw_655 gw_657 gs_35 rfl ⟨Nat.le_of_ble_eq_true rfl, Nat.le_of_ble_eq_true rfl⟩ (Nat.le_of_ble_eq_true rfl) (gy_k1 (x := .int (gI q23)) (kc2 := 0) (ks2 := 0) ⟨rfl, rfl⟩ ?_) gy_kn
    refine gx_iload_n dX9_readCell_93 rfl 2 rfl ?_
    refine gx_bE e (fun q24 hq24 e => ?_)
    refine gx_callSN (n := 2) (st := []) (As := [.int (gI q23), .int (gI v2)]) dX9_readCell_94 (z_X11_has hq24) rfl ⟨rfl, gw_cw_X11_has, gw_1, gp_X11_has, ⟨Nat.le_of_ble_eq_true rfl, Nat.le_of_ble_eq_true rfl⟩⟩ (host := "Grammarsmith") (by decide +kernel) gw_473 ⟨Nat.le_of_ble_eq_true rfl, Nat.le_of_ble_eq_true rfl⟩ (Nat.le_of_ble_eq_true rfl) (gy_k1 (x := .int (gI q24)) (kc2 := 0) (ks2 := 0) ⟨rfl, rfl⟩ ?_) gy_kn
    refine gx_bE e (fun _ g25 e => ?_)
    refine gx_iE e (fun c26 e => ?_) (fun c26 e => ?_)
    · refine gy_if_eq (tgt := 116) (gi_rgS g25) dX9_readCell_97 (by decide) (fun _ => ?_) (fun z => absurd c26 z)
      exact zb_X9_readCell_116 hr81 e
    · refine gy_if_eq (tgt := 116) (gi_rgS g25) dX9_readCell_97 (by decide) (fun z => absurd z c26) (fun _ => ?_)
      refine gx_aload_n dX9_readCell_100 rfl 0 rfl ?_
      refine gx_dup dX9_readCell_101 rfl ?_
      refine gx_bE e (fun t28 ht28 e => ?_)
      refine gy_fI ht28 dX9_readCell_102 gf_RX9_114_8_8 (by decide) gkN_8_8 gkR_8_8 ?_
      refine gy_iconst dX9_readCell_105 ?_
      refine gy_iadd dX9_readCell_106 ?_
      refine gx_bE e (fun h29 hh29 e => ?_)
      refine gy_qI hh29 dX9_readCell_107 gf_RX9_114_8_8 (by decide) gkN_8_8 rfl (Or.inl rfl) ?_
      refine gx_aload_n dX9_readCell_110 rfl 0 rfl ?_
      refine gx_iload dX9_readCell_111 3 rfl ?_
      refine gx_bE e (fun h30 hh30 e => ?_)
      refine gy_qI hh30 dX9_readCell_113 gf_RX9_117_8_9 (by decide) gkN_8_9 rfl (Or.inl rfl) ?_
      exact zb_X9_readCell_116 hr81 e
def l_X9_readCell_81 (n : Nat)  : Nat → Nat → Int → Int → Int → gi_H → Option (gi_H)
  | 0, _, _, _, _, _ => none
  | k + 1, v0, v1, v2, v4, h => b_X9_readCell_81 n  (l_X9_readCell_81 n  k) v0 v1 v2 v4 h
theorem zl_X9_readCell_81 {al : Bool} {n : Nat}  {h1 : gi_H}  : ∀ (k : Nat) (v0 : Nat) (v1 : Int) (v2 : Int) (v4 : Int) (h : gi_H), l_X9_readCell_81 n  k v0 v1 v2 v4 h = some h1 → gx_Z mX9_readCell al al 0 0 81 [(0, .ref v0), (1, .int (gI v1)), (2, .int (gI v2)), (4, .int (gI v4))] [] (gi_cv h) (.inl none) (gi_cv h1)
  | 0, _, _, _, _, _, e => gx_0E e
  | k + 1, _, _, _, _, _, e => zb_X9_readCell_81 (n := n)  (zl_X9_readCell_81  k) e
set_option maxRecDepth 100000 in
def b_X9_readCell_37 (n : Nat)  (v0 : Nat) (v1 : Int) (v2 : Int) (v3 : Nat) (s0 : Nat) (s1 : Int) (h : gi_H) : Option (gi_H) :=
  Option.bind (gi_pZ h s0 8 6 s1) fun h9 => Option.bind (gi_gR h9 v0 8 1) fun t10 => Option.bind (gi_is h9 t10 0) fun _ => Option.bind (f_X0_row t10 v1 (145 : Int) h9) fun q12 => Option.bind (f_X11_has (gi_and q12 (511 : Int)) v2 h9) fun q13 => Option.bind (gi_pZ h9 v0 8 7 q13) fun h14 => Option.bind (gi_pI h14 v0 8 8 (0 : Int)) fun h15 => Option.bind (gi_pI h15 v0 8 9 (-1 : Int)) fun h16 => Option.bind (gi_is h16 v3 3) fun _ => Option.bind (f_X4_count v3 h16) fun q18 => gx_nm (q18 - (1 : Int)) fun t19 => l_X9_readCell_81 n  n v0 v1 v2 t19 h16
set_option maxRecDepth 100000 in
theorem zb_X9_readCell_37 {al : Bool} {n : Nat}  {h1 : gi_H}  {v0 : Nat} {v1 : Int} {v2 : Int} {v3 : Nat} {s0 : Nat} {s1 : Int} {h : gi_H} (e : b_X9_readCell_37 n v0 v1 v2 v3 s0 s1 h = some h1) : gx_Z mX9_readCell al al 0 0 37 [(0, .ref v0), (1, .int (gI v1)), (2, .int (gI v2)), (3, .ref v3)] [.int (gI s1), .ref s0] (gi_cv h) (.inl none) (gi_cv h1) := by
  refine gx_bE e (fun h9 hh9 e => ?_)
  refine gy_qZ hh9 dX9_readCell_37 gf_RX9_101_8_6 (by decide) gkN_8_6 rfl (Or.inl rfl) ?_
  refine gx_aload_n dX9_readCell_40 rfl 0 rfl ?_
  refine gx_aload_n dX9_readCell_41 rfl 0 rfl ?_
  refine gx_bE e (fun t10 ht10 e => ?_)
  refine gy_fR ht10 dX9_readCell_42 gf_RX9_18_8_1 (by decide) gkN_8_1 gkR_8_1 ?_
  refine gx_iload_n dX9_readCell_45 rfl 1 rfl ?_
  refine gy_sipush dX9_readCell_46 gcs_145 ?_
  refine gx_bE e (fun _ hu11 e => ?_)
  refine gx_bE e (fun q12 hq12 e => ?_)
  refine gx_callV (n := 2) (st := [.ref v0]) (As := [.int (gI v1), .int (gI (145 : Int))]) (b := t10) dX9_readCell_49 (z_X0_row hq12) rfl ⟨rfl, gw_cw_X0_row, gw_7, gp_X0_row, ⟨Nat.le_of_ble_eq_true rfl, Nat.le_of_ble_eq_true rfl⟩⟩ (gi_isS hu11) (by decide) gw_652 gw_538 gw_539 rfl ⟨Nat.le_of_ble_eq_true rfl, Nat.le_of_ble_eq_true rfl⟩ (Nat.le_of_ble_eq_true rfl) (gy_k1 (x := .int (gI q12)) (kc2 := 0) (ks2 := 0) ⟨rfl, rfl⟩ ?_) gy_kn
  refine gy_sipush dX9_readCell_52 gcs_511 ?_
  refine gy_iand dX9_readCell_55 ?_
  refine gx_iload_n dX9_readCell_56 rfl 2 rfl ?_
  refine gx_bE e (fun q13 hq13 e => ?_)
  refine gx_callSN (n := 2) (st := [.ref v0]) (As := [.int (gI (gi_and q12 (511 : Int))), .int (gI v2)]) dX9_readCell_57 (z_X11_has hq13) rfl ⟨rfl, gw_cw_X11_has, gw_1, gp_X11_has, ⟨Nat.le_of_ble_eq_true rfl, Nat.le_of_ble_eq_true rfl⟩⟩ (host := "Grammarsmith") (by decide +kernel) gw_473 ⟨Nat.le_of_ble_eq_true rfl, Nat.le_of_ble_eq_true rfl⟩ (Nat.le_of_ble_eq_true rfl) (gy_k1 (x := .int (gI q13)) (kc2 := 0) (ks2 := 0) ⟨rfl, rfl⟩ ?_) gy_kn
  refine gx_bE e (fun h14 hh14 e => ?_)
  refine gy_qZ hh14 dX9_readCell_60 gf_RX9_111_8_7 (by decide) gkN_8_7 rfl (Or.inl rfl) ?_
  refine gx_aload_n dX9_readCell_63 rfl 0 rfl ?_
  refine gy_iconst dX9_readCell_64 ?_
  refine gx_bE e (fun h15 hh15 e => ?_)
  refine gy_qI hh15 dX9_readCell_65 gf_RX9_114_8_8 (by decide) gkN_8_8 rfl (Or.inl rfl) ?_
  refine gx_aload_n dX9_readCell_68 rfl 0 rfl ?_
  refine gy_iconst dX9_readCell_69 ?_
  refine gx_bE e (fun h16 hh16 e => ?_)
  refine gy_qI hh16 dX9_readCell_70 gf_RX9_117_8_9 (by decide) gkN_8_9 rfl (Or.inl rfl) ?_
  refine gx_aload_n dX9_readCell_73 rfl 3 rfl ?_
  refine gx_bE e (fun _ hu17 e => ?_)
  refine gx_bE e (fun q18 hq18 e => ?_)
  refine gx_callV (n := 0) (st := []) (As := []) (b := v3) dX9_readCell_74 (z_X4_count hq18) rfl ⟨rfl, gw_cw_X4_count, gw_3, gp_X4_count, ⟨Nat.le_of_ble_eq_true rfl, Nat.le_of_ble_eq_true rfl⟩⟩ (gi_isS hu17) (by decide) gw_654 gw_393 gw_394 rfl ⟨Nat.le_of_ble_eq_true rfl, Nat.le_of_ble_eq_true rfl⟩ (Nat.le_of_ble_eq_true rfl) (gy_k1 (x := .int (gI q18)) (kc2 := 0) (ks2 := 0) ⟨rfl, rfl⟩ ?_) gy_kn
  refine gy_iconst dX9_readCell_77 ?_
  refine gy_isub dX9_readCell_78 ?_
  refine gx_nE e (fun t19 ht19 e => ?_)
  rw [ht19]
  refine gx_istore (ls2 := [(4, .int (gI t19)), (0, .ref v0), (1, .int (gI v1)), (2, .int (gI v2)), (3, .ref v3)]) dX9_readCell_79 (Nat.le_of_ble_eq_true rfl) rfl ?_
  refine gx_sub (ls2 := [(0, .ref v0), (1, .int (gI v1)), (2, .int (gI v2)), (4, .int (gI t19))]) [1, 2, 3, 0] rfl ?_
  exact zl_X9_readCell_81  n _ _ _ _ _ e
set_option maxRecDepth 100000 in
def b_X9_readCell_36 (n : Nat)  (v0 : Nat) (v1 : Int) (v2 : Int) (v3 : Nat) (s0 : Nat) (h : gi_H) : Option (gi_H) :=
  b_X9_readCell_37 n  v0 v1 v2 v3 s0 (0 : Int) h
set_option maxRecDepth 100000 in
theorem zb_X9_readCell_36 {al : Bool} {n : Nat}  {h1 : gi_H}  {v0 : Nat} {v1 : Int} {v2 : Int} {v3 : Nat} {s0 : Nat} {h : gi_H} (e : b_X9_readCell_36 n v0 v1 v2 v3 s0 h = some h1) : gx_Z mX9_readCell al al 0 0 36 [(0, .ref v0), (1, .int (gI v1)), (2, .int (gI v2)), (3, .ref v3)] [.ref s0] (gi_cv h) (.inl none) (gi_cv h1) := by
  refine gy_iconst dX9_readCell_36 ?_
  exact zb_X9_readCell_37  e
set_option maxRecDepth 100000 in
def f_X9_readCell (n : Nat) (v0 : Nat) (v1 : Int) (v2 : Int) (h : gi_H) : Option (gi_H) :=
  Option.bind (gi_gR h v0 8 1) fun t1 => Option.bind (gi_is h t1 0) fun _ => Option.bind (f_X0_facts t1 h) fun q3 => Option.bind (gi_is h q3 2) fun _ => Option.bind (f_X3_grammar q3 h) fun q5 => Option.bind (f_X11_isTerminal v2 h) fun q6 => Option.bind (gi_rg q6) fun _ => if q6 = 0 then (b_X9_readCell_36 n  v0 v1 v2 q5 v0 h) else (Option.bind (gi_gR h v0 8 1) fun t31 => Option.bind (gi_is h t31 0) fun _ => Option.bind (f_X0_move t31 v1 v2 h) fun q33 => Option.bind (gi_rg q33) fun _ => if q33 = (-1 : Int) then (b_X9_readCell_36 n  v0 v1 v2 q5 v0 h) else (b_X9_readCell_37 n  v0 v1 v2 q5 v0 (1 : Int) h))
set_option maxRecDepth 100000 in
theorem z_X9_readCell {al : Bool} {n : Nat} {v0 : Nat} {v1 : Int} {v2 : Int} {h : gi_H} {h1 : gi_H} (e : f_X9_readCell n v0 v1 v2 h = some h1) : gx_Cw mX9_readCell al [.ref v0, .int (gI v1), .int (gI v2)] (gi_cv h) (.inl none) (gi_cv h1) := by
  refine gx_enter (by decide +kernel) rfl (Nat.le_of_ble_eq_true rfl) ?_
  show gx_Z mX9_readCell al al 0 0 0 [(0, .ref v0), (1, .int (gI v1)), (2, .int (gI v2))] [] (gi_cv h) (.inl none) (gi_cv h1)
  refine gx_aload_n dX9_readCell_0 rfl 0 rfl ?_
  refine gx_bE e (fun t1 ht1 e => ?_)
  refine gy_fR ht1 dX9_readCell_1 gf_RX9_18_8_1 (by decide) gkN_8_1 gkR_8_1 ?_
  refine gx_bE e (fun _ hu2 e => ?_)
  refine gx_bE e (fun q3 hq3 e => ?_)
  refine gx_callV (n := 0) (st := []) (As := []) (b := t1) dX9_readCell_4 (z_X0_facts hq3) rfl ⟨rfl, gw_cw_X0_facts, gw_7, gp_X0_facts, ⟨Nat.le_of_ble_eq_true rfl, Nat.le_of_ble_eq_true rfl⟩⟩ (gi_isS hu2) (by decide) gw_640 gw_641 gw_642 rfl ⟨Nat.le_of_ble_eq_true rfl, Nat.le_of_ble_eq_true rfl⟩ (Nat.le_of_ble_eq_true rfl) (gy_k1 (x := .ref q3) (kc2 := 0) (ks2 := 0) ⟨rfl, rfl⟩ ?_) gy_kn
  refine gx_bE e (fun _ hu4 e => ?_)
  refine gx_bE e (fun q5 hq5 e => ?_)
  refine gx_callV (n := 0) (st := []) (As := []) (b := q3) dX9_readCell_7 (z_X3_grammar hq5) rfl ⟨rfl, gw_cw_X3_grammar, gw_6, gp_X3_grammar, ⟨Nat.le_of_ble_eq_true rfl, Nat.le_of_ble_eq_true rfl⟩⟩ (gi_isS hu4) (by decide) gw_644 gw_556 gw_557 rfl ⟨Nat.le_of_ble_eq_true rfl, Nat.le_of_ble_eq_true rfl⟩ (Nat.le_of_ble_eq_true rfl) (gy_k1 (x := .ref q5) (kc2 := 0) (ks2 := 0) ⟨rfl, rfl⟩ ?_) gy_kn
  refine gx_astore_n (ls2 := [(3, .ref q5), (0, .ref v0), (1, .int (gI v1)), (2, .int (gI v2))]) dX9_readCell_10 rfl (Nat.le_of_ble_eq_true rfl) rfl ?_
  refine gx_aload_n dX9_readCell_11 rfl 1 rfl ?_
  refine gx_iload_n dX9_readCell_12 rfl 3 rfl ?_
  refine gx_bE e (fun q6 hq6 e => ?_)
  refine gx_callSN (n := 1) (st := [.ref v0]) (As := [.int (gI v2)]) dX9_readCell_13 (z_X11_isTerminal hq6) rfl ⟨rfl, gw_cw_X11_isTerminal, gw_1, gp_X11_isTerminal, ⟨Nat.le_of_ble_eq_true rfl, Nat.le_of_ble_eq_true rfl⟩⟩ (host := "Grammarsmith") (by decide +kernel) gw_646 ⟨Nat.le_of_ble_eq_true rfl, Nat.le_of_ble_eq_true rfl⟩ (Nat.le_of_ble_eq_true rfl) (gy_k1 (x := .int (gI q6)) (kc2 := 0) (ks2 := 0) ⟨rfl, rfl⟩ ?_) gy_kn
  refine gx_bE e (fun _ g7 e => ?_)
  refine gx_iE e (fun c8 e => ?_) (fun c8 e => ?_)
  · refine gy_if_eq (tgt := 36) (gi_rgS g7) dX9_readCell_16 (by decide) (fun _ => ?_) (fun z => absurd c8 z)
    refine gx_sub (ls2 := [(0, .ref v0), (1, .int (gI v1)), (2, .int (gI v2)), (3, .ref q5)]) [1, 2, 3, 0] rfl ?_
    exact zb_X9_readCell_36  e
  · refine gy_if_eq (tgt := 36) (gi_rgS g7) dX9_readCell_16 (by decide) (fun z => absurd z c8) (fun _ => ?_)
    refine gx_aload_n dX9_readCell_19 rfl 1 rfl ?_
    refine gx_bE e (fun t31 ht31 e => ?_)
    refine gy_fR ht31 dX9_readCell_20 gf_RX9_18_8_1 (by decide) gkN_8_1 gkR_8_1 ?_
    refine gx_iload_n dX9_readCell_23 rfl 2 rfl ?_
    refine gx_iload_n dX9_readCell_24 rfl 3 rfl ?_
    refine gx_bE e (fun _ hu32 e => ?_)
    refine gx_bE e (fun q33 hq33 e => ?_)
    refine gx_callV (n := 2) (st := [.ref v0]) (As := [.int (gI v1), .int (gI v2)]) (b := t31) dX9_readCell_25 (z_X0_move hq33) rfl ⟨rfl, gw_cw_X0_move, gw_7, gp_X0_move, ⟨Nat.le_of_ble_eq_true rfl, Nat.le_of_ble_eq_true rfl⟩⟩ (gi_isS hu32) (by decide) gw_648 gw_649 gw_650 rfl ⟨Nat.le_of_ble_eq_true rfl, Nat.le_of_ble_eq_true rfl⟩ (Nat.le_of_ble_eq_true rfl) (gy_k1 (x := .int (gI q33)) (kc2 := 0) (ks2 := 0) ⟨rfl, rfl⟩ ?_) gy_kn
    refine gy_iconst dX9_readCell_28 ?_
    refine gx_bE e (fun _ g34 e => ?_)
    refine gx_iE e (fun c35 e => ?_) (fun c35 e => ?_)
    · refine gy_icmp_eq (tgt := 36) (gi_rgS g34) (by decide) dX9_readCell_29 (by decide) (fun _ => ?_) (fun z => absurd c35 z)
      refine gx_sub (ls2 := [(0, .ref v0), (1, .int (gI v1)), (2, .int (gI v2)), (3, .ref q5)]) [1, 2, 3, 0] rfl ?_
      exact zb_X9_readCell_36  e
    · refine gy_icmp_eq (tgt := 36) (gi_rgS g34) (by decide) dX9_readCell_29 (by decide) (fun z => absurd z c35) (fun _ => ?_)
      refine gy_iconst dX9_readCell_32 ?_
      refine gx_goto (tgt := 37) dX9_readCell_33 (by decide) ?_
      refine gx_sub (ls2 := [(0, .ref v0), (1, .int (gI v1)), (2, .int (gI v2)), (3, .ref q5)]) [1, 2, 3, 0] rfl ?_
      exact zb_X9_readCell_37  e
/-! X9_isConflict  -/
set_option maxRecDepth 100000 in
def b_X9_isConflict_24  (v0 : Nat) (s0 : Int) (s1 : Int) (h : gi_H) : Option (Int) :=
  Option.bind (gi_gI h v0 8 8) fun t7 => Option.bind (gi_rg ((s0 + s1) + t7)) fun _ => if ((s0 + s1) + t7) ≤ (1 : Int) then (some (0 : Int)) else (some (1 : Int))
set_option maxRecDepth 100000 in
theorem zb_X9_isConflict_24 {al : Bool}  {res : Int}  {v0 : Nat} {s0 : Int} {s1 : Int} {h : gi_H} (e : b_X9_isConflict_24 v0 s0 s1 h = some res) : gx_Z mX9_isConflict al al 0 0 24 [(0, .ref v0)] [.int (gI s1), .int (gI s0)] (gi_cv h) (.inl (some (.int (gI res)))) (gi_cv h) := by
  refine gy_iadd dX9_isConflict_24 ?_
  refine gx_aload_n dX9_isConflict_25 rfl 0 rfl ?_
  refine gx_bE e (fun t7 ht7 e => ?_)
  refine gy_fI ht7 dX9_isConflict_26 gf_RX9_114_8_8 (by decide) gkN_8_8 gkR_8_8 ?_
  refine gy_iadd dX9_isConflict_29 ?_
  refine gy_iconst dX9_isConflict_30 ?_
  refine gx_bE e (fun _ g8 e => ?_)
  refine gx_iE e (fun c9 e => ?_) (fun c9 e => ?_)
  · refine gy_icmp_le (tgt := 38) (gi_rgS g8) (by decide) dX9_isConflict_31 (by decide) (fun _ => ?_) (fun z => absurd c9 z)
    refine gy_iconst dX9_isConflict_38 ?_
    cases e
    exact gx_zret (by decide +kernel) dX9_isConflict_39 rfl ⟨Nat.le_of_ble_eq_true rfl, Nat.le_of_ble_eq_true rfl⟩ (fun z => z)
  · refine gy_icmp_le (tgt := 38) (gi_rgS g8) (by decide) dX9_isConflict_31 (by decide) (fun z => absurd z c9) (fun _ => ?_)
    refine gy_iconst dX9_isConflict_34 ?_
    refine gx_goto (tgt := 39) dX9_isConflict_35 (by decide) ?_
    cases e
    exact gx_zret (by decide +kernel) dX9_isConflict_39 rfl ⟨Nat.le_of_ble_eq_true rfl, Nat.le_of_ble_eq_true rfl⟩ (fun z => z)
set_option maxRecDepth 100000 in
def b_X9_isConflict_12  (v0 : Nat) (s0 : Int) (h : gi_H) : Option (Int) :=
  Option.bind (gi_gI h v0 8 7) fun t4 => Option.bind (gi_rg t4) fun _ => if t4 = 0 then (b_X9_isConflict_24  v0 s0 (0 : Int) h) else (b_X9_isConflict_24  v0 s0 (1 : Int) h)
set_option maxRecDepth 100000 in
theorem zb_X9_isConflict_12 {al : Bool}  {res : Int}  {v0 : Nat} {s0 : Int} {h : gi_H} (e : b_X9_isConflict_12 v0 s0 h = some res) : gx_Z mX9_isConflict al al 0 0 12 [(0, .ref v0)] [.int (gI s0)] (gi_cv h) (.inl (some (.int (gI res)))) (gi_cv h) := by
  refine gx_aload_n dX9_isConflict_12 rfl 0 rfl ?_
  refine gx_bE e (fun t4 ht4 e => ?_)
  refine gy_fI ht4 dX9_isConflict_13 gf_RX9_111_8_7 (by decide) gkN_8_7 gkR_8_7 ?_
  refine gx_bE e (fun _ g5 e => ?_)
  refine gx_iE e (fun c6 e => ?_) (fun c6 e => ?_)
  · refine gy_if_eq (tgt := 23) (gi_rgS g5) dX9_isConflict_16 (by decide) (fun _ => ?_) (fun z => absurd c6 z)
    refine gy_iconst dX9_isConflict_23 ?_
    exact zb_X9_isConflict_24  e
  · refine gy_if_eq (tgt := 23) (gi_rgS g5) dX9_isConflict_16 (by decide) (fun z => absurd z c6) (fun _ => ?_)
    refine gy_iconst dX9_isConflict_19 ?_
    refine gx_goto (tgt := 24) dX9_isConflict_20 (by decide) ?_
    exact zb_X9_isConflict_24  e
set_option maxRecDepth 100000 in
def f_X9_isConflict (v0 : Nat) (h : gi_H) : Option (Int) :=
  Option.bind (gi_gI h v0 8 6) fun t1 => Option.bind (gi_rg t1) fun _ => if t1 = 0 then (b_X9_isConflict_12  v0 (0 : Int) h) else (b_X9_isConflict_12  v0 (1 : Int) h)
set_option maxRecDepth 100000 in
theorem z_X9_isConflict {al : Bool} {v0 : Nat} {h : gi_H} {res : Int} (e : f_X9_isConflict v0 h = some res) : gx_Cw mX9_isConflict al [.ref v0] (gi_cv h) (.inl (some (.int (gI res)))) (gi_cv h) := by
  refine gx_enter (by decide +kernel) rfl (Nat.le_of_ble_eq_true rfl) ?_
  show gx_Z mX9_isConflict al al 0 0 0 [(0, .ref v0)] [] (gi_cv h) (.inl (some (.int (gI res)))) (gi_cv h)
  refine gx_aload_n dX9_isConflict_0 rfl 0 rfl ?_
  refine gx_bE e (fun t1 ht1 e => ?_)
  refine gy_fI ht1 dX9_isConflict_1 gf_RX9_101_8_6 (by decide) gkN_8_6 gkR_8_6 ?_
  refine gx_bE e (fun _ g2 e => ?_)
  refine gx_iE e (fun c3 e => ?_) (fun c3 e => ?_)
  · refine gy_if_eq (tgt := 11) (gi_rgS g2) dX9_isConflict_4 (by decide) (fun _ => ?_) (fun z => absurd c3 z)
    refine gy_iconst dX9_isConflict_11 ?_
    exact zb_X9_isConflict_12  e
  · refine gy_if_eq (tgt := 11) (gi_rgS g2) dX9_isConflict_4 (by decide) (fun z => absurd z c3) (fun _ => ?_)
    refine gy_iconst dX9_isConflict_7 ?_
    refine gx_goto (tgt := 12) dX9_isConflict_8 (by decide) ?_
    exact zb_X9_isConflict_12  e
/-! X9_levelOf  -/
set_option maxRecDepth 100000 in
def b_X9_levelOf_22    (h : gi_H) : Option (Int) :=
  some (0 : Int)
set_option maxRecDepth 100000 in
theorem zb_X9_levelOf_22 {al : Bool}  {res : Int}    {h : gi_H} (e : b_X9_levelOf_22  h = some res) : gx_Z mX9_levelOf al al 0 0 22 [] [] (gi_cv h) (.inl (some (.int (gI res)))) (gi_cv h) := by
  refine gy_iconst dX9_levelOf_22 ?_
  cases e
  exact gx_iret dX9_levelOf_23 rfl ⟨Nat.le_of_ble_eq_true rfl, Nat.le_of_ble_eq_true rfl⟩ (fun z => z)
set_option maxRecDepth 100000 in
def f_X9_levelOf (v0 : Nat) (v1 : Int) (h : gi_H) : Option (Int) :=
  Option.bind (gi_rg v1) fun _ => if v1 < 0 then (b_X9_levelOf_22   h) else (Option.bind (gi_gR h v0 8 3) fun t3 => Option.bind (gi_ln h t3) fun t4 => Option.bind (gi_rg t4) fun _ => if t4 ≤ v1 then (b_X9_levelOf_22   h) else (Option.bind (gi_gR h v0 8 3) fun t7 => Option.bind (gi_aI h 1 t7 v1) fun t8 => some t8))
set_option maxRecDepth 100000 in
theorem z_X9_levelOf {al : Bool} {v0 : Nat} {v1 : Int} {h : gi_H} {res : Int} (e : f_X9_levelOf v0 v1 h = some res) : gx_Cw mX9_levelOf al [.ref v0, .int (gI v1)] (gi_cv h) (.inl (some (.int (gI res)))) (gi_cv h) := by
  refine gx_enter (by decide +kernel) rfl (Nat.le_of_ble_eq_true rfl) ?_
  show gx_Z mX9_levelOf al al 0 0 0 [(0, .ref v0), (1, .int (gI v1))] [] (gi_cv h) (.inl (some (.int (gI res)))) (gi_cv h)
  refine gx_iload_n dX9_levelOf_0 rfl 1 rfl ?_
  refine gx_bE e (fun _ g1 e => ?_)
  refine gx_iE e (fun c2 e => ?_) (fun c2 e => ?_)
  · refine gy_if_lt (tgt := 22) (gi_rgS g1) dX9_levelOf_1 (by decide) (fun _ => ?_) (fun z => absurd c2 z)
    refine gx_sub (ls2 := []) [] rfl ?_
    exact zb_X9_levelOf_22  e
  · refine gy_if_lt (tgt := 22) (gi_rgS g1) dX9_levelOf_1 (by decide) (fun z => absurd z c2) (fun _ => ?_)
    refine gx_iload_n dX9_levelOf_4 rfl 1 rfl ?_
    refine gx_aload_n dX9_levelOf_5 rfl 0 rfl ?_
    refine gx_bE e (fun t3 ht3 e => ?_)
    refine gy_fR ht3 dX9_levelOf_6 gf_RX9_26_8_3 (by decide) gkN_8_3 gkR_8_3 ?_
    refine gx_bE e (fun t4 ht4 e => ?_)
    refine gy_al0 ht4 dX9_levelOf_9 ?_
    refine gx_bE e (fun _ g5 e => ?_)
    refine gx_iE e (fun c6 e => ?_) (fun c6 e => ?_)
    · refine gy_icmp_ge (tgt := 22) (gi_rgS g1) (gi_rgS g5) dX9_levelOf_10 (by decide) (fun _ => ?_) (fun z => absurd c6 z)
      refine gx_sub (ls2 := []) [] rfl ?_
      exact zb_X9_levelOf_22  e
    · refine gy_icmp_ge (tgt := 22) (gi_rgS g1) (gi_rgS g5) dX9_levelOf_10 (by decide) (fun z => absurd z c6) (fun _ => ?_)
      refine gx_aload_n dX9_levelOf_13 rfl 0 rfl ?_
      refine gx_bE e (fun t7 ht7 e => ?_)
      refine gy_fR ht7 dX9_levelOf_14 gf_RX9_26_8_3 (by decide) gkN_8_3 gkR_8_3 ?_
      refine gx_iload_n dX9_levelOf_17 rfl 1 rfl ?_
      refine gx_bE e (fun t8 ht8 e => ?_)
      refine gy_l1 ht8 dX9_levelOf_18 ?_
      refine gx_goto (tgt := 23) dX9_levelOf_19 (by decide) ?_
      cases e
      exact gx_iret dX9_levelOf_23 rfl ⟨Nat.le_of_ble_eq_true rfl, Nat.le_of_ble_eq_true rfl⟩ (fun z => z)
/-! X4_lastTerminal  -/
set_option maxRecDepth 100000 in
def b_X4_lastTerminal_24 (n : Nat)  (v0 : Nat) (v1 : Int) (v2 : Int)  (h : gi_H) : Option (Int) :=
  Option.bind (gi_is h v0 3) fun _ => Option.bind (f_X4_symbol v0 v1 v2 h) fun q13 => some q13
set_option maxRecDepth 100000 in
theorem zb_X4_lastTerminal_24 {al : Bool} {n : Nat}  {res : Int}  {v0 : Nat} {v1 : Int} {v2 : Int}  {h : gi_H} (e : b_X4_lastTerminal_24 n v0 v1 v2 h = some res) : gx_Z mX4_lastTerminal al al 0 0 24 [(0, .ref v0), (1, .int (gI v1)), (2, .int (gI v2))] [] (gi_cv h) (.inl (some (.int (gI res)))) (gi_cv h) := by
  refine gx_aload_n dX4_lastTerminal_24 rfl 0 rfl ?_
  refine gx_iload_n dX4_lastTerminal_25 rfl 1 rfl ?_
  refine gx_iload_n dX4_lastTerminal_26 rfl 2 rfl ?_
  refine gx_bE e (fun _ hu12 e => ?_)
  refine gx_bE e (fun q13 hq13 e => ?_)
  refine gx_callV (n := 2) (st := []) (As := [.int (gI v1), .int (gI v2)]) (b := v0) dX4_lastTerminal_27 (z_X4_symbol hq13) rfl ⟨rfl, gw_cw_X4_symbol, gw_3, gp_X4_symbol, ⟨Nat.le_of_ble_eq_true rfl, Nat.le_of_ble_eq_true rfl⟩⟩ (gi_isS hu12) (by decide) gw_683 gw_428 gw_429 rfl ⟨Nat.le_of_ble_eq_true rfl, Nat.le_of_ble_eq_true rfl⟩ (Nat.le_of_ble_eq_true rfl) (gy_k1 (x := .int (gI q13)) (kc2 := 0) (ks2 := 0) ⟨rfl, rfl⟩ ?_) gy_kn
  cases e
  exact gx_iret dX4_lastTerminal_30 rfl ⟨Nat.le_of_ble_eq_true rfl, Nat.le_of_ble_eq_true rfl⟩ (fun z => z)
set_option maxRecDepth 100000 in
def b_X4_lastTerminal_8 (n : Nat) (r8 : Nat → Int → Int → gi_H → Option (Int)) (v0 : Nat) (v1 : Int) (v2 : Int)  (h : gi_H) : Option (Int) :=
  Option.bind (gi_rg v2) fun _ => if v2 < 0 then (some (-1 : Int)) else (Option.bind (gi_is h v0 3) fun _ => Option.bind (f_X4_symbol v0 v1 v2 h) fun q7 => Option.bind (f_X11_isTerminal q7 h) fun q8 => Option.bind (gi_rg q8) fun _ => if q8 = 0 then (gx_nm (v2 + (-1 : Int)) fun t11 => r8 v0 v1 t11 h) else (b_X4_lastTerminal_24 n  v0 v1 v2 h))
set_option maxRecDepth 100000 in
theorem zb_X4_lastTerminal_8 {al : Bool} {n : Nat} {r8 : Nat → Int → Int → gi_H → Option (Int)} {res : Int} (hr8 : ∀ (x0 : Nat) (x1 : Int) (x2 : Int) (hh : gi_H), r8 x0 x1 x2 hh = some res → gx_Z mX4_lastTerminal al al 0 0 8 [(0, .ref x0), (1, .int (gI x1)), (2, .int (gI x2))] [] (gi_cv hh) (.inl (some (.int (gI res)))) (gi_cv hh)) {v0 : Nat} {v1 : Int} {v2 : Int}  {h : gi_H} (e : b_X4_lastTerminal_8 n r8 v0 v1 v2 h = some res) : gx_Z mX4_lastTerminal al al 0 0 8 [(0, .ref v0), (1, .int (gI v1)), (2, .int (gI v2))] [] (gi_cv h) (.inl (some (.int (gI res)))) (gi_cv h) := by
  refine gx_iload_n dX4_lastTerminal_8 rfl 2 rfl ?_
  refine gx_bE e (fun _ g4 e => ?_)
  refine gx_iE e (fun c5 e => ?_) (fun c5 e => ?_)
  · refine gy_if_lt (tgt := 37) (gi_rgS g4) dX4_lastTerminal_9 (by decide) (fun _ => ?_) (fun z => absurd c5 z)
    refine gy_iconst dX4_lastTerminal_37 ?_
    cases e
    exact gx_iret dX4_lastTerminal_38 rfl ⟨Nat.le_of_ble_eq_true rfl, Nat.le_of_ble_eq_true rfl⟩ (fun z => z)
  · refine gy_if_lt (tgt := 37) (gi_rgS g4) dX4_lastTerminal_9 (by decide) (fun z => absurd z c5) (fun _ => ?_)
    refine gx_aload_n dX4_lastTerminal_12 rfl 0 rfl ?_
    refine gx_iload_n dX4_lastTerminal_13 rfl 1 rfl ?_
    refine gx_iload_n dX4_lastTerminal_14 rfl 2 rfl ?_
    refine gx_bE e (fun _ hu6 e => ?_)
    refine gx_bE e (fun q7 hq7 e => ?_)
    refine gx_callV (n := 2) (st := []) (As := [.int (gI v1), .int (gI v2)]) (b := v0) dX4_lastTerminal_15 (z_X4_symbol hq7) rfl ⟨rfl, gw_cw_X4_symbol, gw_3, gp_X4_symbol, ⟨Nat.le_of_ble_eq_true rfl, Nat.le_of_ble_eq_true rfl⟩⟩ (gi_isS hu6) (by decide) gw_683 gw_428 gw_429 rfl ⟨Nat.le_of_ble_eq_true rfl, Nat.le_of_ble_eq_true rfl⟩ (Nat.le_of_ble_eq_true rfl) (gy_k1 (x := .int (gI q7)) (kc2 := 0) (ks2 := 0) ⟨rfl, rfl⟩ ?_) gy_kn
    refine gx_bE e (fun q8 hq8 e => ?_)
    refine gx_callSN (n := 1) (st := []) (As := [.int (gI q7)]) dX4_lastTerminal_18 (z_X11_isTerminal hq8) rfl ⟨rfl, gw_cw_X11_isTerminal, gw_1, gp_X11_isTerminal, ⟨Nat.le_of_ble_eq_true rfl, Nat.le_of_ble_eq_true rfl⟩⟩ (host := "Grammarsmith") (by decide +kernel) gw_646 ⟨Nat.le_of_ble_eq_true rfl, Nat.le_of_ble_eq_true rfl⟩ (Nat.le_of_ble_eq_true rfl) (gy_k1 (x := .int (gI q8)) (kc2 := 0) (ks2 := 0) ⟨rfl, rfl⟩ ?_) gy_kn
    refine gx_bE e (fun _ g9 e => ?_)
    refine gx_iE e (fun c10 e => ?_) (fun c10 e => ?_)
    · refine gy_if_eq (tgt := 31) (gi_rgS g9) dX4_lastTerminal_21 (by decide) (fun _ => ?_) (fun z => absurd c10 z)
      refine gx_nE e (fun t11 ht11 e => ?_)
      refine gy_iinc (v := t11) (ls2 := [(2, .int (gI t11)), (0, .ref v0), (1, .int (gI v1))]) dX4_lastTerminal_31 2 rfl ht11 (Nat.le_of_ble_eq_true rfl) rfl ?_
      refine gx_goto (tgt := 8) dX4_lastTerminal_34 (by decide) ?_
      refine gx_sub (ls2 := [(0, .ref v0), (1, .int (gI v1)), (2, .int (gI t11))]) [1, 2, 0] rfl ?_
      exact hr8 _ _ _ _ e
    · refine gy_if_eq (tgt := 31) (gi_rgS g9) dX4_lastTerminal_21 (by decide) (fun z => absurd z c10) (fun _ => ?_)
      exact zb_X4_lastTerminal_24  e
def l_X4_lastTerminal_8 (n : Nat)  : Nat → Nat → Int → Int → gi_H → Option (Int)
  | 0, _, _, _, _ => none
  | k + 1, v0, v1, v2, h => b_X4_lastTerminal_8 n  (l_X4_lastTerminal_8 n  k) v0 v1 v2 h
theorem zl_X4_lastTerminal_8 {al : Bool} {n : Nat}  {res : Int}  : ∀ (k : Nat) (v0 : Nat) (v1 : Int) (v2 : Int) (h : gi_H), l_X4_lastTerminal_8 n  k v0 v1 v2 h = some res → gx_Z mX4_lastTerminal al al 0 0 8 [(0, .ref v0), (1, .int (gI v1)), (2, .int (gI v2))] [] (gi_cv h) (.inl (some (.int (gI res)))) (gi_cv h)
  | 0, _, _, _, _, e => gx_0E e
  | k + 1, _, _, _, _, e => zb_X4_lastTerminal_8 (n := n)  (zl_X4_lastTerminal_8  k) e
set_option maxRecDepth 100000 in
def f_X4_lastTerminal (n : Nat) (v0 : Nat) (v1 : Int) (h : gi_H) : Option (Int) :=
  Option.bind (gi_is h v0 3) fun _ => Option.bind (f_X4_length v0 v1 h) fun q2 => gx_nm (q2 - (1 : Int)) fun t3 => l_X4_lastTerminal_8 n  n v0 v1 t3 h
set_option maxRecDepth 100000 in
theorem z_X4_lastTerminal {al : Bool} {n : Nat} {v0 : Nat} {v1 : Int} {h : gi_H} {res : Int} (e : f_X4_lastTerminal n v0 v1 h = some res) : gx_Cw mX4_lastTerminal al [.ref v0, .int (gI v1)] (gi_cv h) (.inl (some (.int (gI res)))) (gi_cv h) := by
  refine gx_enter (by decide +kernel) rfl (Nat.le_of_ble_eq_true rfl) ?_
  show gx_Z mX4_lastTerminal al al 0 0 0 [(0, .ref v0), (1, .int (gI v1))] [] (gi_cv h) (.inl (some (.int (gI res)))) (gi_cv h)
  refine gx_aload_n dX4_lastTerminal_0 rfl 0 rfl ?_
  refine gx_iload_n dX4_lastTerminal_1 rfl 1 rfl ?_
  refine gx_bE e (fun _ hu1 e => ?_)
  refine gx_bE e (fun q2 hq2 e => ?_)
  refine gx_callV (n := 1) (st := []) (As := [.int (gI v1)]) (b := v0) dX4_lastTerminal_2 (z_X4_length hq2) rfl ⟨rfl, gw_cw_X4_length, gw_3, gp_X4_length, ⟨Nat.le_of_ble_eq_true rfl, Nat.le_of_ble_eq_true rfl⟩⟩ (gi_isS hu1) (by decide) gw_682 gw_424 gw_425 rfl ⟨Nat.le_of_ble_eq_true rfl, Nat.le_of_ble_eq_true rfl⟩ (Nat.le_of_ble_eq_true rfl) (gy_k1 (x := .int (gI q2)) (kc2 := 0) (ks2 := 0) ⟨rfl, rfl⟩ ?_) gy_kn
  refine gy_iconst dX4_lastTerminal_5 ?_
  refine gy_isub dX4_lastTerminal_6 ?_
  refine gx_nE e (fun t3 ht3 e => ?_)
  rw [ht3]
  refine gx_istore_n (ls2 := [(2, .int (gI t3)), (0, .ref v0), (1, .int (gI v1))]) dX4_lastTerminal_7 rfl (Nat.le_of_ble_eq_true rfl) rfl ?_
  refine gx_sub (ls2 := [(0, .ref v0), (1, .int (gI v1)), (2, .int (gI t3))]) [1, 2, 0] rfl ?_
  exact zl_X4_lastTerminal_8  n _ _ _ _ e
/-! X9_levelOfLowest  -/
set_option maxRecDepth 100000 in
def f_X9_levelOfLowest (n : Nat) (v0 : Nat) (h : gi_H) : Option (Int) :=
  Option.bind (gi_gR h v0 8 1) fun t1 => Option.bind (gi_is h t1 0) fun _ => Option.bind (f_X0_facts t1 h) fun q3 => Option.bind (gi_is h q3 2) fun _ => Option.bind (f_X3_grammar q3 h) fun q5 => Option.bind (gi_gI h v0 8 9) fun t6 => Option.bind (gi_is h q5 3) fun _ => Option.bind (f_X4_lastTerminal n q5 t6 h) fun q8 => Option.bind (gi_is h v0 8) fun _ => Option.bind (f_X9_levelOf v0 q8 h) fun q10 => some q10
set_option maxRecDepth 100000 in
theorem z_X9_levelOfLowest {al : Bool} {n : Nat} {v0 : Nat} {h : gi_H} {res : Int} (e : f_X9_levelOfLowest n v0 h = some res) : gx_Cw mX9_levelOfLowest al [.ref v0] (gi_cv h) (.inl (some (.int (gI res)))) (gi_cv h) := by
  refine gx_enter (by decide +kernel) rfl (Nat.le_of_ble_eq_true rfl) ?_
  show gx_Z mX9_levelOfLowest al al 0 0 0 [(0, .ref v0)] [] (gi_cv h) (.inl (some (.int (gI res)))) (gi_cv h)
  refine gx_aload_n dX9_levelOfLowest_0 rfl 0 rfl ?_
  refine gx_aload_n dX9_levelOfLowest_1 rfl 0 rfl ?_
  refine gx_bE e (fun t1 ht1 e => ?_)
  refine gy_fR ht1 dX9_levelOfLowest_2 gf_RX9_18_8_1 (by decide) gkN_8_1 gkR_8_1 ?_
  refine gx_bE e (fun _ hu2 e => ?_)
  refine gx_bE e (fun q3 hq3 e => ?_)
  refine gx_callV (n := 0) (st := [.ref v0]) (As := []) (b := t1) dX9_levelOfLowest_5 (z_X0_facts hq3) rfl ⟨rfl, gw_cw_X0_facts, gw_7, gp_X0_facts, ⟨Nat.le_of_ble_eq_true rfl, Nat.le_of_ble_eq_true rfl⟩⟩ (gi_isS hu2) (by decide) gw_640 gw_641 gw_642 rfl ⟨Nat.le_of_ble_eq_true rfl, Nat.le_of_ble_eq_true rfl⟩ (Nat.le_of_ble_eq_true rfl) (gy_k1 (x := .ref q3) (kc2 := 0) (ks2 := 0) ⟨rfl, rfl⟩ ?_) gy_kn
  refine gx_bE e (fun _ hu4 e => ?_)
  refine gx_bE e (fun q5 hq5 e => ?_)
  refine gx_callV (n := 0) (st := [.ref v0]) (As := []) (b := q3) dX9_levelOfLowest_8 (z_X3_grammar hq5) rfl ⟨rfl, gw_cw_X3_grammar, gw_6, gp_X3_grammar, ⟨Nat.le_of_ble_eq_true rfl, Nat.le_of_ble_eq_true rfl⟩⟩ (gi_isS hu4) (by decide) gw_644 gw_556 gw_557 rfl ⟨Nat.le_of_ble_eq_true rfl, Nat.le_of_ble_eq_true rfl⟩ (Nat.le_of_ble_eq_true rfl) (gy_k1 (x := .ref q5) (kc2 := 0) (ks2 := 0) ⟨rfl, rfl⟩ ?_) gy_kn
  refine gx_aload_n dX9_levelOfLowest_11 rfl 0 rfl ?_
  refine gx_bE e (fun t6 ht6 e => ?_)
  refine gy_fI ht6 dX9_levelOfLowest_12 gf_RX9_117_8_9 (by decide) gkN_8_9 gkR_8_9 ?_
  refine gx_bE e (fun _ hu7 e => ?_)
  refine gx_bE e (fun q8 hq8 e => ?_)
  refine gx_callV (n := 1) (st := [.ref v0]) (As := [.int (gI t6)]) (b := q5) dX9_levelOfLowest_15 (z_X4_lastTerminal hq8) rfl ⟨rfl, gw_cw_X4_lastTerminal, gw_3, gp_X4_lastTerminal, ⟨Nat.le_of_ble_eq_true rfl, Nat.le_of_ble_eq_true rfl⟩⟩ (gi_isS hu7) (by decide) gw_678 gw_679 gw_680 rfl ⟨Nat.le_of_ble_eq_true rfl, Nat.le_of_ble_eq_true rfl⟩ (Nat.le_of_ble_eq_true rfl) (gy_k1 (x := .int (gI q8)) (kc2 := 0) (ks2 := 0) ⟨rfl, rfl⟩ ?_) gy_kn
  refine gx_bE e (fun _ hu9 e => ?_)
  refine gx_bE e (fun q10 hq10 e => ?_)
  refine gx_callV (n := 1) (st := []) (As := [.int (gI q8)]) (b := v0) dX9_levelOfLowest_18 (z_X9_levelOf hq10) rfl ⟨rfl, gw_cw_X9_levelOf, gw_10, gp_X9_levelOf, ⟨Nat.le_of_ble_eq_true rfl, Nat.le_of_ble_eq_true rfl⟩⟩ (gi_isS hu9) (by decide) gw_670 gw_672 gs_38 rfl ⟨Nat.le_of_ble_eq_true rfl, Nat.le_of_ble_eq_true rfl⟩ (Nat.le_of_ble_eq_true rfl) (gy_k1 (x := .int (gI q10)) (kc2 := 0) (ks2 := 0) ⟨rfl, rfl⟩ ?_) gy_kn
  cases e
  exact gx_iret dX9_levelOfLowest_21 rfl ⟨Nat.le_of_ble_eq_true rfl, Nat.le_of_ble_eq_true rfl⟩ (fun z => z)
/-! X9_isSettled  -/
set_option maxRecDepth 100000 in
def b_X9_isSettled_41 (n : Nat)    (h : gi_H) : Option (Int) :=
  some (0 : Int)
set_option maxRecDepth 100000 in
theorem zb_X9_isSettled_41 {al : Bool} {n : Nat}  {res : Int}    {h : gi_H} (e : b_X9_isSettled_41 n  h = some res) : gx_Z mX9_isSettled al al 0 0 41 [] [] (gi_cv h) (.inl (some (.int (gI res)))) (gi_cv h) := by
  refine gy_iconst dX9_isSettled_41 ?_
  cases e
  exact gx_zret (by decide +kernel) dX9_isSettled_42 rfl ⟨Nat.le_of_ble_eq_true rfl, Nat.le_of_ble_eq_true rfl⟩ (fun z => z)
set_option maxRecDepth 100000 in
def f_X9_isSettled (n : Nat) (v0 : Nat) (v1 : Int) (h : gi_H) : Option (Int) :=
  Option.bind (gi_gI h v0 8 6) fun t1 => Option.bind (gi_rg t1) fun _ => if t1 = 0 then (b_X9_isSettled_41 n   h) else (Option.bind (gi_gI h v0 8 7) fun t4 => Option.bind (gi_rg t4) fun _ => if t4 = 0 then (Option.bind (gi_gI h v0 8 8) fun t7 => Option.bind (gi_rg t7) fun _ => if t7 = (1 : Int) then (Option.bind (gi_is h v0 8) fun _ => Option.bind (f_X9_levelOf v0 v1 h) fun q11 => Option.bind (gi_rg q11) fun _ => if q11 ≤ 0 then (b_X9_isSettled_41 n   h) else (Option.bind (gi_is h v0 8) fun _ => Option.bind (f_X9_levelOfLowest n v0 h) fun q15 => Option.bind (gi_rg q15) fun _ => if q15 ≤ 0 then (b_X9_isSettled_41 n   h) else (some (1 : Int)))) else (b_X9_isSettled_41 n   h)) else (b_X9_isSettled_41 n   h))
set_option maxRecDepth 100000 in
theorem z_X9_isSettled {al : Bool} {n : Nat} {v0 : Nat} {v1 : Int} {h : gi_H} {res : Int} (e : f_X9_isSettled n v0 v1 h = some res) : gx_Cw mX9_isSettled al [.ref v0, .int (gI v1)] (gi_cv h) (.inl (some (.int (gI res)))) (gi_cv h) := by
  refine gx_enter (by decide +kernel) rfl (Nat.le_of_ble_eq_true rfl) ?_
  show gx_Z mX9_isSettled al al 0 0 0 [(0, .ref v0), (1, .int (gI v1))] [] (gi_cv h) (.inl (some (.int (gI res)))) (gi_cv h)
  refine gx_aload_n dX9_isSettled_0 rfl 0 rfl ?_
  refine gx_bE e (fun t1 ht1 e => ?_)
  refine gy_fI ht1 dX9_isSettled_1 gf_RX9_101_8_6 (by decide) gkN_8_6 gkR_8_6 ?_
  refine gx_bE e (fun _ g2 e => ?_)
  refine gx_iE e (fun c3 e => ?_) (fun c3 e => ?_)
  · refine gy_if_eq (tgt := 41) (gi_rgS g2) dX9_isSettled_4 (by decide) (fun _ => ?_) (fun z => absurd c3 z)
    refine gx_sub (ls2 := []) [] rfl ?_
    exact zb_X9_isSettled_41  e
  · refine gy_if_eq (tgt := 41) (gi_rgS g2) dX9_isSettled_4 (by decide) (fun z => absurd z c3) (fun _ => ?_)
    refine gx_aload_n dX9_isSettled_7 rfl 0 rfl ?_
    refine gx_bE e (fun t4 ht4 e => ?_)
    refine gy_fI ht4 dX9_isSettled_8 gf_RX9_111_8_7 (by decide) gkN_8_7 gkR_8_7 ?_
    refine gx_bE e (fun _ g5 e => ?_)
    refine gx_iE e (fun c6 e => ?_) (fun c6 e => ?_)
    · refine gy_if_ne (tgt := 41) (gi_rgS g5) dX9_isSettled_11 (by decide) (fun z => absurd c6 z) (fun _ => ?_)
      refine gx_aload_n dX9_isSettled_14 rfl 0 rfl ?_
      refine gx_bE e (fun t7 ht7 e => ?_)
      refine gy_fI ht7 dX9_isSettled_15 gf_RX9_114_8_8 (by decide) gkN_8_8 gkR_8_8 ?_
      refine gy_iconst dX9_isSettled_18 ?_
      refine gx_bE e (fun _ g8 e => ?_)
      refine gx_iE e (fun c9 e => ?_) (fun c9 e => ?_)
      · refine gy_icmp_ne (tgt := 41) (gi_rgS g8) (by decide) dX9_isSettled_19 (by decide) (fun z => absurd c9 z) (fun _ => ?_)
        refine gx_aload_n dX9_isSettled_22 rfl 0 rfl ?_
        refine gx_iload_n dX9_isSettled_23 rfl 1 rfl ?_
        refine gx_bE e (fun _ hu10 e => ?_)
        refine gx_bE e (fun q11 hq11 e => ?_)
        refine gx_callV (n := 1) (st := []) (As := [.int (gI v1)]) (b := v0) dX9_isSettled_24 (z_X9_levelOf hq11) rfl ⟨rfl, gw_cw_X9_levelOf, gw_10, gp_X9_levelOf, ⟨Nat.le_of_ble_eq_true rfl, Nat.le_of_ble_eq_true rfl⟩⟩ (gi_isS hu10) (by decide) gw_670 gw_672 gs_38 rfl ⟨Nat.le_of_ble_eq_true rfl, Nat.le_of_ble_eq_true rfl⟩ (Nat.le_of_ble_eq_true rfl) (gy_k1 (x := .int (gI q11)) (kc2 := 0) (ks2 := 0) ⟨rfl, rfl⟩ ?_) gy_kn
        refine gx_bE e (fun _ g12 e => ?_)
        refine gx_iE e (fun c13 e => ?_) (fun c13 e => ?_)
        · refine gy_if_le (tgt := 41) (gi_rgS g12) dX9_isSettled_27 (by decide) (fun _ => ?_) (fun z => absurd c13 z)
          refine gx_sub (ls2 := []) [] rfl ?_
          exact zb_X9_isSettled_41  e
        · refine gy_if_le (tgt := 41) (gi_rgS g12) dX9_isSettled_27 (by decide) (fun z => absurd z c13) (fun _ => ?_)
          refine gx_aload_n dX9_isSettled_30 rfl 0 rfl ?_
          refine gx_bE e (fun _ hu14 e => ?_)
          refine gx_bE e (fun q15 hq15 e => ?_)
          refine gx_callV (n := 0) (st := []) (As := []) (b := v0) dX9_isSettled_31 (z_X9_levelOfLowest hq15) rfl ⟨rfl, gw_cw_X9_levelOfLowest, gw_10, gp_X9_levelOfLowest, ⟨Nat.le_of_ble_eq_true rfl, Nat.le_of_ble_eq_true rfl⟩⟩ (gi_isS hu14) (by decide) gw_674 gw_676 gs_39 rfl ⟨Nat.le_of_ble_eq_true rfl, Nat.le_of_ble_eq_true rfl⟩ (Nat.le_of_ble_eq_true rfl) (gy_k1 (x := .int (gI q15)) (kc2 := 0) (ks2 := 0) ⟨rfl, rfl⟩ ?_) gy_kn
          refine gx_bE e (fun _ g16 e => ?_)
          refine gx_iE e (fun c17 e => ?_) (fun c17 e => ?_)
          · refine gy_if_le (tgt := 41) (gi_rgS g16) dX9_isSettled_34 (by decide) (fun _ => ?_) (fun z => absurd c17 z)
            refine gx_sub (ls2 := []) [] rfl ?_
            exact zb_X9_isSettled_41  e
          · refine gy_if_le (tgt := 41) (gi_rgS g16) dX9_isSettled_34 (by decide) (fun z => absurd z c17) (fun _ => ?_)
            refine gy_iconst dX9_isSettled_37 ?_
            refine gx_goto (tgt := 42) dX9_isSettled_38 (by decide) ?_
            cases e
            exact gx_zret (by decide +kernel) dX9_isSettled_42 rfl ⟨Nat.le_of_ble_eq_true rfl, Nat.le_of_ble_eq_true rfl⟩ (fun z => z)
      · refine gy_icmp_ne (tgt := 41) (gi_rgS g8) (by decide) dX9_isSettled_19 (by decide) (fun _ => ?_) (fun z => absurd z c9)
        refine gx_sub (ls2 := []) [] rfl ?_
        exact zb_X9_isSettled_41  e
    · refine gy_if_ne (tgt := 41) (gi_rgS g5) dX9_isSettled_11 (by decide) (fun _ => ?_) (fun z => absurd z c6)
      refine gx_sub (ls2 := []) [] rfl ?_
      exact zb_X9_isSettled_41  e
/-! X9_cellsInConflict  -/
set_option maxRecDepth 100000 in
def b_X9_cellsInConflict_76 (n : Nat) (r19 : Nat → Int → Int → Int → gi_H → Option (Int × gi_H)) (v0 : Nat) (v1 : Int) (v2 : Int) (v3 : Int)  (h : gi_H) : Option (Int × gi_H) :=
  gx_nm (v3 + (1 : Int)) fun t14 => r19 v0 v1 v2 t14 h
set_option maxRecDepth 100000 in
theorem zb_X9_cellsInConflict_76 {al : Bool} {n : Nat} {r19 : Nat → Int → Int → Int → gi_H → Option (Int × gi_H)} {res : Int} {h1 : gi_H} (hr19 : ∀ (x0 : Nat) (x1 : Int) (x2 : Int) (x3 : Int) (hh : gi_H), r19 x0 x1 x2 x3 hh = some (res, h1) → gx_Z mX9_cellsInConflict al al 0 0 19 [(0, .ref x0), (1, .int (gI x1)), (2, .int (gI x2)), (3, .int (gI x3))] [] (gi_cv hh) (.inl (some (.int (gI res)))) (gi_cv h1)) {v0 : Nat} {v1 : Int} {v2 : Int} {v3 : Int}  {h : gi_H} (e : b_X9_cellsInConflict_76 n r19 v0 v1 v2 v3 h = some (res, h1)) : gx_Z mX9_cellsInConflict al al 0 0 76 [(0, .ref v0), (1, .int (gI v1)), (2, .int (gI v2)), (3, .int (gI v3))] [] (gi_cv h) (.inl (some (.int (gI res)))) (gi_cv h1) := by
  refine gx_nE e (fun t14 ht14 e => ?_)
  refine gy_iinc (v := t14) (ls2 := [(3, .int (gI t14)), (0, .ref v0), (1, .int (gI v1)), (2, .int (gI v2))]) dX9_cellsInConflict_76 3 rfl ht14 (Nat.le_of_ble_eq_true rfl) rfl ?_
  refine gx_goto (tgt := 19) dX9_cellsInConflict_79 (by decide) ?_
  refine gx_sub (ls2 := [(0, .ref v0), (1, .int (gI v1)), (2, .int (gI v2)), (3, .int (gI t14))]) [1, 2, 3, 0] rfl ?_
  exact hr19 _ _ _ _ _ e
set_option maxRecDepth 100000 in
def b_X9_cellsInConflict_70 (n : Nat) (r19 : Nat → Int → Int → Int → gi_H → Option (Int × gi_H)) (r33 : Nat → Int → Int → Int → Int → gi_H → Option (Int × gi_H)) (v0 : Nat) (v1 : Int) (v2 : Int) (v3 : Int) (v4 : Int)  (h : gi_H) : Option (Int × gi_H) :=
  gx_nm (v4 + (1 : Int)) fun t21 => r33 v0 v1 v2 v3 t21 h
set_option maxRecDepth 100000 in
theorem zb_X9_cellsInConflict_70 {al : Bool} {n : Nat} {r19 : Nat → Int → Int → Int → gi_H → Option (Int × gi_H)} {r33 : Nat → Int → Int → Int → Int → gi_H → Option (Int × gi_H)} {res : Int} {h1 : gi_H} (hr19 : ∀ (x0 : Nat) (x1 : Int) (x2 : Int) (x3 : Int) (hh : gi_H), r19 x0 x1 x2 x3 hh = some (res, h1) → gx_Z mX9_cellsInConflict al al 0 0 19 [(0, .ref x0), (1, .int (gI x1)), (2, .int (gI x2)), (3, .int (gI x3))] [] (gi_cv hh) (.inl (some (.int (gI res)))) (gi_cv h1)) (hr33 : ∀ (x0 : Nat) (x1 : Int) (x2 : Int) (x3 : Int) (x4 : Int) (hh : gi_H), r33 x0 x1 x2 x3 x4 hh = some (res, h1) → gx_Z mX9_cellsInConflict al al 0 0 33 [(0, .ref x0), (1, .int (gI x1)), (2, .int (gI x2)), (3, .int (gI x3)), (4, .int (gI x4))] [] (gi_cv hh) (.inl (some (.int (gI res)))) (gi_cv h1)) {v0 : Nat} {v1 : Int} {v2 : Int} {v3 : Int} {v4 : Int}  {h : gi_H} (e : b_X9_cellsInConflict_70 n r19 r33 v0 v1 v2 v3 v4 h = some (res, h1)) : gx_Z mX9_cellsInConflict al al 0 0 70 [(0, .ref v0), (1, .int (gI v1)), (2, .int (gI v2)), (3, .int (gI v3)), (4, .int (gI v4))] [] (gi_cv h) (.inl (some (.int (gI res)))) (gi_cv h1) := by
  refine gx_nE e (fun t21 ht21 e => ?_)
  refine gy_iinc (v := t21) (ls2 := [(4, .int (gI t21)), (0, .ref v0), (1, .int (gI v1)), (2, .int (gI v2)), (3, .int (gI v3))]) dX9_cellsInConflict_70 4 rfl ht21 (Nat.le_of_ble_eq_true rfl) rfl ?_
  refine gx_goto (tgt := 33) dX9_cellsInConflict_73 (by decide) ?_
  refine gx_sub (ls2 := [(0, .ref v0), (1, .int (gI v1)), (2, .int (gI v2)), (3, .int (gI v3)), (4, .int (gI t21))]) [1, 2, 3, 4, 0] rfl ?_
  exact hr33 _ _ _ _ _ _ e
set_option maxRecDepth 100000 in
def b_X9_cellsInConflict_67 (n : Nat) (r19 : Nat → Int → Int → Int → gi_H → Option (Int × gi_H)) (r33 : Nat → Int → Int → Int → Int → gi_H → Option (Int × gi_H)) (v0 : Nat) (v1 : Int) (v2 : Int) (v3 : Int) (v4 : Int)  (h : gi_H) : Option (Int × gi_H) :=
  gx_nm (v2 + (1 : Int)) fun t24 => b_X9_cellsInConflict_70 n r19 r33 v0 v1 t24 v3 v4 h
set_option maxRecDepth 100000 in
theorem zb_X9_cellsInConflict_67 {al : Bool} {n : Nat} {r19 : Nat → Int → Int → Int → gi_H → Option (Int × gi_H)} {r33 : Nat → Int → Int → Int → Int → gi_H → Option (Int × gi_H)} {res : Int} {h1 : gi_H} (hr19 : ∀ (x0 : Nat) (x1 : Int) (x2 : Int) (x3 : Int) (hh : gi_H), r19 x0 x1 x2 x3 hh = some (res, h1) → gx_Z mX9_cellsInConflict al al 0 0 19 [(0, .ref x0), (1, .int (gI x1)), (2, .int (gI x2)), (3, .int (gI x3))] [] (gi_cv hh) (.inl (some (.int (gI res)))) (gi_cv h1)) (hr33 : ∀ (x0 : Nat) (x1 : Int) (x2 : Int) (x3 : Int) (x4 : Int) (hh : gi_H), r33 x0 x1 x2 x3 x4 hh = some (res, h1) → gx_Z mX9_cellsInConflict al al 0 0 33 [(0, .ref x0), (1, .int (gI x1)), (2, .int (gI x2)), (3, .int (gI x3)), (4, .int (gI x4))] [] (gi_cv hh) (.inl (some (.int (gI res)))) (gi_cv h1)) {v0 : Nat} {v1 : Int} {v2 : Int} {v3 : Int} {v4 : Int}  {h : gi_H} (e : b_X9_cellsInConflict_67 n r19 r33 v0 v1 v2 v3 v4 h = some (res, h1)) : gx_Z mX9_cellsInConflict al al 0 0 67 [(0, .ref v0), (1, .int (gI v1)), (2, .int (gI v2)), (3, .int (gI v3)), (4, .int (gI v4))] [] (gi_cv h) (.inl (some (.int (gI res)))) (gi_cv h1) := by
  refine gx_nE e (fun t24 ht24 e => ?_)
  refine gy_iinc (v := t24) (ls2 := [(2, .int (gI t24)), (0, .ref v0), (1, .int (gI v1)), (3, .int (gI v3)), (4, .int (gI v4))]) dX9_cellsInConflict_67 2 rfl ht24 (Nat.le_of_ble_eq_true rfl) rfl ?_
  refine gx_sub (ls2 := [(0, .ref v0), (1, .int (gI v1)), (2, .int (gI t24)), (3, .int (gI v3)), (4, .int (gI v4))]) [1, 2, 0, 3, 4] rfl ?_
  exact zb_X9_cellsInConflict_70 hr19 hr33 e
set_option maxRecDepth 100000 in
def b_X9_cellsInConflict_33 (n : Nat) (r19 : Nat → Int → Int → Int → gi_H → Option (Int × gi_H)) (r33 : Nat → Int → Int → Int → Int → gi_H → Option (Int × gi_H)) (v0 : Nat) (v1 : Int) (v2 : Int) (v3 : Int) (v4 : Int)  (h : gi_H) : Option (Int × gi_H) :=
  Option.bind (gi_rg v4) fun _ => if (9 : Int) ≤ v4 then (b_X9_cellsInConflict_76 n r19 v0 v1 v2 v3 h) else (Option.bind (gi_is h v0 8) fun _ => Option.bind (f_X9_readCell n v0 v3 v4 h) fun q16 => Option.bind (gi_is q16 v0 8) fun _ => Option.bind (f_X9_isConflict v0 q16) fun q18 => Option.bind (gi_rg q18) fun _ => if q18 = 0 then (b_X9_cellsInConflict_70 n r19 r33 v0 v1 v2 v3 v4 q16) else (Option.bind (gi_rg v1) fun _ => if v1 = 0 then (b_X9_cellsInConflict_67 n r19 r33 v0 v1 v2 v3 v4 q16) else (Option.bind (gi_is q16 v0 8) fun _ => Option.bind (f_X9_isSettled n v0 v4 q16) fun q26 => Option.bind (gi_rg q26) fun _ => if q26 = 0 then (b_X9_cellsInConflict_70 n r19 r33 v0 v1 v2 v3 v4 q16) else (b_X9_cellsInConflict_67 n r19 r33 v0 v1 v2 v3 v4 q16))))
set_option maxRecDepth 100000 in
theorem zb_X9_cellsInConflict_33 {al : Bool} {n : Nat} {r19 : Nat → Int → Int → Int → gi_H → Option (Int × gi_H)} {r33 : Nat → Int → Int → Int → Int → gi_H → Option (Int × gi_H)} {res : Int} {h1 : gi_H} (hr19 : ∀ (x0 : Nat) (x1 : Int) (x2 : Int) (x3 : Int) (hh : gi_H), r19 x0 x1 x2 x3 hh = some (res, h1) → gx_Z mX9_cellsInConflict al al 0 0 19 [(0, .ref x0), (1, .int (gI x1)), (2, .int (gI x2)), (3, .int (gI x3))] [] (gi_cv hh) (.inl (some (.int (gI res)))) (gi_cv h1)) (hr33 : ∀ (x0 : Nat) (x1 : Int) (x2 : Int) (x3 : Int) (x4 : Int) (hh : gi_H), r33 x0 x1 x2 x3 x4 hh = some (res, h1) → gx_Z mX9_cellsInConflict al al 0 0 33 [(0, .ref x0), (1, .int (gI x1)), (2, .int (gI x2)), (3, .int (gI x3)), (4, .int (gI x4))] [] (gi_cv hh) (.inl (some (.int (gI res)))) (gi_cv h1)) {v0 : Nat} {v1 : Int} {v2 : Int} {v3 : Int} {v4 : Int}  {h : gi_H} (e : b_X9_cellsInConflict_33 n r19 r33 v0 v1 v2 v3 v4 h = some (res, h1)) : gx_Z mX9_cellsInConflict al al 0 0 33 [(0, .ref v0), (1, .int (gI v1)), (2, .int (gI v2)), (3, .int (gI v3)), (4, .int (gI v4))] [] (gi_cv h) (.inl (some (.int (gI res)))) (gi_cv h1) := by
  refine gx_iload dX9_cellsInConflict_33 4 rfl ?_
  refine gy_bipush dX9_cellsInConflict_35 gcb_9 ?_
  refine gx_bE e (fun _ g12 e => ?_)
  refine gx_iE e (fun c13 e => ?_) (fun c13 e => ?_)
  · refine gy_icmp_ge (tgt := 76) (gi_rgS g12) (by decide) dX9_cellsInConflict_37 (by decide) (fun _ => ?_) (fun z => absurd c13 z)
    refine gx_sub (ls2 := [(0, .ref v0), (1, .int (gI v1)), (2, .int (gI v2)), (3, .int (gI v3))]) [0, 1, 2, 3] rfl ?_
    exact zb_X9_cellsInConflict_76 hr19 e
  · refine gy_icmp_ge (tgt := 76) (gi_rgS g12) (by decide) dX9_cellsInConflict_37 (by decide) (fun z => absurd z c13) (fun _ => ?_)
    refine gx_aload_n dX9_cellsInConflict_40 rfl 0 rfl ?_
    refine gx_iload_n dX9_cellsInConflict_41 rfl 3 rfl ?_
    refine gx_iload dX9_cellsInConflict_42 4 rfl ?_
    refine gx_bE e (fun _ hu15 e => ?_)
    refine gx_bE e (fun q16 hq16 e => ?_)
    refine gx_callV (n := 2) (st := []) (As := [.int (gI v3), .int (gI v4)]) (b := v0) dX9_cellsInConflict_44 (z_X9_readCell hq16) rfl ⟨rfl, gw_cw_X9_readCell, gw_10, gp_X9_readCell, ⟨Nat.le_of_ble_eq_true rfl, Nat.le_of_ble_eq_true rfl⟩⟩ (gi_isS hu15) (by decide) gw_636 gw_638 gs_34 rfl ⟨Nat.le_of_ble_eq_true rfl, Nat.le_of_ble_eq_true rfl⟩ (Nat.le_of_ble_eq_true rfl) (gy_k0 (kc2 := 0) (ks2 := 0) ⟨rfl, rfl⟩ ?_) gy_kn
    refine gx_aload_n dX9_cellsInConflict_47 rfl 0 rfl ?_
    refine gx_bE e (fun _ hu17 e => ?_)
    refine gx_bE e (fun q18 hq18 e => ?_)
    refine gx_callV (n := 0) (st := []) (As := []) (b := v0) dX9_cellsInConflict_48 (z_X9_isConflict hq18) rfl ⟨rfl, gw_cw_X9_isConflict, gw_10, gp_X9_isConflict, ⟨Nat.le_of_ble_eq_true rfl, Nat.le_of_ble_eq_true rfl⟩⟩ (gi_isS hu17) (by decide) gw_662 gw_664 gs_36 rfl ⟨Nat.le_of_ble_eq_true rfl, Nat.le_of_ble_eq_true rfl⟩ (Nat.le_of_ble_eq_true rfl) (gy_k1 (x := .int (gI q18)) (kc2 := 0) (ks2 := 0) ⟨rfl, rfl⟩ ?_) gy_kn
    refine gx_bE e (fun _ g19 e => ?_)
    refine gx_iE e (fun c20 e => ?_) (fun c20 e => ?_)
    · refine gy_if_eq (tgt := 70) (gi_rgS g19) dX9_cellsInConflict_51 (by decide) (fun _ => ?_) (fun z => absurd c20 z)
      exact zb_X9_cellsInConflict_70 hr19 hr33 e
    · refine gy_if_eq (tgt := 70) (gi_rgS g19) dX9_cellsInConflict_51 (by decide) (fun z => absurd z c20) (fun _ => ?_)
      refine gx_iload_n dX9_cellsInConflict_54 rfl 1 rfl ?_
      refine gx_bE e (fun _ g22 e => ?_)
      refine gx_iE e (fun c23 e => ?_) (fun c23 e => ?_)
      · refine gy_if_eq (tgt := 67) (gi_rgS g22) dX9_cellsInConflict_55 (by decide) (fun _ => ?_) (fun z => absurd c23 z)
        exact zb_X9_cellsInConflict_67 hr19 hr33 e
      · refine gy_if_eq (tgt := 67) (gi_rgS g22) dX9_cellsInConflict_55 (by decide) (fun z => absurd z c23) (fun _ => ?_)
        refine gx_aload_n dX9_cellsInConflict_58 rfl 0 rfl ?_
        refine gx_iload dX9_cellsInConflict_59 4 rfl ?_
        refine gx_bE e (fun _ hu25 e => ?_)
        refine gx_bE e (fun q26 hq26 e => ?_)
        refine gx_callV (n := 1) (st := []) (As := [.int (gI v4)]) (b := v0) dX9_cellsInConflict_61 (z_X9_isSettled hq26) rfl ⟨rfl, gw_cw_X9_isSettled, gw_10, gp_X9_isSettled, ⟨Nat.le_of_ble_eq_true rfl, Nat.le_of_ble_eq_true rfl⟩⟩ (gi_isS hu25) (by decide) gw_666 gw_668 gs_37 rfl ⟨Nat.le_of_ble_eq_true rfl, Nat.le_of_ble_eq_true rfl⟩ (Nat.le_of_ble_eq_true rfl) (gy_k1 (x := .int (gI q26)) (kc2 := 0) (ks2 := 0) ⟨rfl, rfl⟩ ?_) gy_kn
        refine gx_bE e (fun _ g27 e => ?_)
        refine gx_iE e (fun c28 e => ?_) (fun c28 e => ?_)
        · refine gy_if_eq (tgt := 70) (gi_rgS g27) dX9_cellsInConflict_64 (by decide) (fun _ => ?_) (fun z => absurd c28 z)
          exact zb_X9_cellsInConflict_70 hr19 hr33 e
        · refine gy_if_eq (tgt := 70) (gi_rgS g27) dX9_cellsInConflict_64 (by decide) (fun z => absurd z c28) (fun _ => ?_)
          exact zb_X9_cellsInConflict_67 hr19 hr33 e
def l_X9_cellsInConflict_33 (n : Nat) (r19 : Nat → Int → Int → Int → gi_H → Option (Int × gi_H)) : Nat → Nat → Int → Int → Int → Int → gi_H → Option (Int × gi_H)
  | 0, _, _, _, _, _, _ => none
  | k + 1, v0, v1, v2, v3, v4, h => b_X9_cellsInConflict_33 n r19 (l_X9_cellsInConflict_33 n r19 k) v0 v1 v2 v3 v4 h
theorem zl_X9_cellsInConflict_33 {al : Bool} {n : Nat} {r19 : Nat → Int → Int → Int → gi_H → Option (Int × gi_H)} {res : Int} {h1 : gi_H} (hr19 : ∀ (x0 : Nat) (x1 : Int) (x2 : Int) (x3 : Int) (hh : gi_H), r19 x0 x1 x2 x3 hh = some (res, h1) → gx_Z mX9_cellsInConflict al al 0 0 19 [(0, .ref x0), (1, .int (gI x1)), (2, .int (gI x2)), (3, .int (gI x3))] [] (gi_cv hh) (.inl (some (.int (gI res)))) (gi_cv h1)) : ∀ (k : Nat) (v0 : Nat) (v1 : Int) (v2 : Int) (v3 : Int) (v4 : Int) (h : gi_H), l_X9_cellsInConflict_33 n r19 k v0 v1 v2 v3 v4 h = some (res, h1) → gx_Z mX9_cellsInConflict al al 0 0 33 [(0, .ref v0), (1, .int (gI v1)), (2, .int (gI v2)), (3, .int (gI v3)), (4, .int (gI v4))] [] (gi_cv h) (.inl (some (.int (gI res)))) (gi_cv h1)
  | 0, _, _, _, _, _, _, e => gx_0E e
  | k + 1, _, _, _, _, _, _, e => zb_X9_cellsInConflict_33 (n := n) hr19 (zl_X9_cellsInConflict_33 hr19 k) e
set_option maxRecDepth 100000 in
def b_X9_cellsInConflict_19 (n : Nat) (r19 : Nat → Int → Int → Int → gi_H → Option (Int × gi_H)) (v0 : Nat) (v1 : Int) (v2 : Int) (v3 : Int)  (h : gi_H) : Option (Int × gi_H) :=
  Option.bind (gi_gR h v0 8 1) fun t6 => Option.bind (gi_is h t6 0) fun _ => Option.bind (f_X0_extent t6 h) fun q8 => Option.bind (gi_rg v3) fun _ => Option.bind (gi_rg q8) fun _ => if q8 ≤ v3 then (some (v2, h)) else (l_X9_cellsInConflict_33 n r19 n v0 v1 v2 v3 (0 : Int) h)
set_option maxRecDepth 100000 in
theorem zb_X9_cellsInConflict_19 {al : Bool} {n : Nat} {r19 : Nat → Int → Int → Int → gi_H → Option (Int × gi_H)} {res : Int} {h1 : gi_H} (hr19 : ∀ (x0 : Nat) (x1 : Int) (x2 : Int) (x3 : Int) (hh : gi_H), r19 x0 x1 x2 x3 hh = some (res, h1) → gx_Z mX9_cellsInConflict al al 0 0 19 [(0, .ref x0), (1, .int (gI x1)), (2, .int (gI x2)), (3, .int (gI x3))] [] (gi_cv hh) (.inl (some (.int (gI res)))) (gi_cv h1)) {v0 : Nat} {v1 : Int} {v2 : Int} {v3 : Int}  {h : gi_H} (e : b_X9_cellsInConflict_19 n r19 v0 v1 v2 v3 h = some (res, h1)) : gx_Z mX9_cellsInConflict al al 0 0 19 [(0, .ref v0), (1, .int (gI v1)), (2, .int (gI v2)), (3, .int (gI v3))] [] (gi_cv h) (.inl (some (.int (gI res)))) (gi_cv h1) := by
  refine gx_iload_n dX9_cellsInConflict_19 rfl 3 rfl ?_
  refine gx_aload_n dX9_cellsInConflict_20 rfl 0 rfl ?_
  refine gx_bE e (fun t6 ht6 e => ?_)
  refine gy_fR ht6 dX9_cellsInConflict_21 gf_RX9_18_8_1 (by decide) gkN_8_1 gkR_8_1 ?_
  refine gx_bE e (fun _ hu7 e => ?_)
  refine gx_bE e (fun q8 hq8 e => ?_)
  refine gx_callV (n := 0) (st := [.int (gI v3)]) (As := []) (b := t6) dX9_cellsInConflict_24 (z_X0_extent hq8) rfl ⟨rfl, gw_cw_X0_extent, gw_7, gp_X0_extent, ⟨Nat.le_of_ble_eq_true rfl, Nat.le_of_ble_eq_true rfl⟩⟩ (gi_isS hu7) (by decide) gw_619 gw_620 gw_621 rfl ⟨Nat.le_of_ble_eq_true rfl, Nat.le_of_ble_eq_true rfl⟩ (Nat.le_of_ble_eq_true rfl) (gy_k1 (x := .int (gI q8)) (kc2 := 0) (ks2 := 0) ⟨rfl, rfl⟩ ?_) gy_kn
  refine gx_bE e (fun _ g9 e => ?_)
  refine gx_bE e (fun _ g10 e => ?_)
  refine gx_iE e (fun c11 e => ?_) (fun c11 e => ?_)
  · refine gy_icmp_ge (tgt := 82) (gi_rgS g9) (gi_rgS g10) dX9_cellsInConflict_27 (by decide) (fun _ => ?_) (fun z => absurd c11 z)
    refine gx_iload_n dX9_cellsInConflict_82 rfl 2 rfl ?_
    cases e
    exact gx_iret dX9_cellsInConflict_83 rfl ⟨Nat.le_of_ble_eq_true rfl, Nat.le_of_ble_eq_true rfl⟩ (fun z => z)
  · refine gy_icmp_ge (tgt := 82) (gi_rgS g9) (gi_rgS g10) dX9_cellsInConflict_27 (by decide) (fun z => absurd z c11) (fun _ => ?_)
    refine gy_iconst dX9_cellsInConflict_30 ?_
    refine gx_istore (ls2 := [(4, .int (gI (0 : Int))), (0, .ref v0), (1, .int (gI v1)), (2, .int (gI v2)), (3, .int (gI v3))]) dX9_cellsInConflict_31 (Nat.le_of_ble_eq_true rfl) rfl ?_
    refine gx_sub (ls2 := [(0, .ref v0), (1, .int (gI v1)), (2, .int (gI v2)), (3, .int (gI v3)), (4, .int (gI (0 : Int)))]) [1, 2, 3, 4, 0] rfl ?_
    exact zl_X9_cellsInConflict_33 hr19 n _ _ _ _ _ _ e
def l_X9_cellsInConflict_19 (n : Nat)  : Nat → Nat → Int → Int → Int → gi_H → Option (Int × gi_H)
  | 0, _, _, _, _, _ => none
  | k + 1, v0, v1, v2, v3, h => b_X9_cellsInConflict_19 n  (l_X9_cellsInConflict_19 n  k) v0 v1 v2 v3 h
theorem zl_X9_cellsInConflict_19 {al : Bool} {n : Nat}  {res : Int} {h1 : gi_H}  : ∀ (k : Nat) (v0 : Nat) (v1 : Int) (v2 : Int) (v3 : Int) (h : gi_H), l_X9_cellsInConflict_19 n  k v0 v1 v2 v3 h = some (res, h1) → gx_Z mX9_cellsInConflict al al 0 0 19 [(0, .ref v0), (1, .int (gI v1)), (2, .int (gI v2)), (3, .int (gI v3))] [] (gi_cv h) (.inl (some (.int (gI res)))) (gi_cv h1)
  | 0, _, _, _, _, _, e => gx_0E e
  | k + 1, _, _, _, _, _, e => zb_X9_cellsInConflict_19 (n := n)  (zl_X9_cellsInConflict_19  k) e
set_option maxRecDepth 100000 in
def f_X9_cellsInConflict (n : Nat) (v0 : Nat) (v1 : Int) (h : gi_H) : Option (Int × gi_H) :=
  Option.bind (gi_gR h v0 8 1) fun t1 => Option.bind (gi_is h t1 0) fun _ => Option.bind (f_X0_extent t1 h) fun q3 => Option.bind (gi_rg q3) fun _ => if q3 = (-2 : Int) then (some ((-2 : Int), h)) else (l_X9_cellsInConflict_19 n  n v0 v1 (0 : Int) (0 : Int) h)
set_option maxRecDepth 100000 in
theorem z_X9_cellsInConflict {al : Bool} {n : Nat} {v0 : Nat} {v1 : Int} {h : gi_H} {res : Int} {h1 : gi_H} (e : f_X9_cellsInConflict n v0 v1 h = some (res, h1)) : gx_Cw mX9_cellsInConflict al [.ref v0, .int (gI v1)] (gi_cv h) (.inl (some (.int (gI res)))) (gi_cv h1) := by
  refine gx_enter (by decide +kernel) rfl (Nat.le_of_ble_eq_true rfl) ?_
  show gx_Z mX9_cellsInConflict al al 0 0 0 [(0, .ref v0), (1, .int (gI v1))] [] (gi_cv h) (.inl (some (.int (gI res)))) (gi_cv h1)
  refine gx_aload_n dX9_cellsInConflict_0 rfl 0 rfl ?_
  refine gx_bE e (fun t1 ht1 e => ?_)
  refine gy_fR ht1 dX9_cellsInConflict_1 gf_RX9_18_8_1 (by decide) gkN_8_1 gkR_8_1 ?_
  refine gx_bE e (fun _ hu2 e => ?_)
  refine gx_bE e (fun q3 hq3 e => ?_)
  refine gx_callV (n := 0) (st := []) (As := []) (b := t1) dX9_cellsInConflict_4 (z_X0_extent hq3) rfl ⟨rfl, gw_cw_X0_extent, gw_7, gp_X0_extent, ⟨Nat.le_of_ble_eq_true rfl, Nat.le_of_ble_eq_true rfl⟩⟩ (gi_isS hu2) (by decide) gw_619 gw_620 gw_621 rfl ⟨Nat.le_of_ble_eq_true rfl, Nat.le_of_ble_eq_true rfl⟩ (Nat.le_of_ble_eq_true rfl) (gy_k1 (x := .int (gI q3)) (kc2 := 0) (ks2 := 0) ⟨rfl, rfl⟩ ?_) gy_kn
  refine gy_bipush dX9_cellsInConflict_7 gcb_m2 ?_
  refine gx_bE e (fun _ g4 e => ?_)
  refine gx_iE e (fun c5 e => ?_) (fun c5 e => ?_)
  · refine gy_icmp_ne (tgt := 15) (gi_rgS g4) (by decide) dX9_cellsInConflict_9 (by decide) (fun z => absurd c5 z) (fun _ => ?_)
    refine gy_bipush dX9_cellsInConflict_12 gcb_m2 ?_
    cases e
    exact gx_iret dX9_cellsInConflict_14 rfl ⟨Nat.le_of_ble_eq_true rfl, Nat.le_of_ble_eq_true rfl⟩ (fun z => z)
  · refine gy_icmp_ne (tgt := 15) (gi_rgS g4) (by decide) dX9_cellsInConflict_9 (by decide) (fun _ => ?_) (fun z => absurd z c5)
    refine gy_iconst dX9_cellsInConflict_15 ?_
    refine gx_istore_n (ls2 := [(2, .int (gI (0 : Int))), (0, .ref v0), (1, .int (gI v1))]) dX9_cellsInConflict_16 rfl (Nat.le_of_ble_eq_true rfl) rfl ?_
    refine gy_iconst dX9_cellsInConflict_17 ?_
    refine gx_istore_n (ls2 := [(3, .int (gI (0 : Int))), (2, .int (gI (0 : Int))), (0, .ref v0), (1, .int (gI v1))]) dX9_cellsInConflict_18 rfl (Nat.le_of_ble_eq_true rfl) rfl ?_
    refine gx_sub (ls2 := [(0, .ref v0), (1, .int (gI v1)), (2, .int (gI (0 : Int))), (3, .int (gI (0 : Int)))]) [2, 3, 1, 0] rfl ?_
    exact zl_X9_cellsInConflict_19  n _ _ _ _ _ e
/-! X9_clashes  -/
set_option maxRecDepth 100000 in
def f_X9_clashes (n : Nat) (v0 : Nat) (h : gi_H) : Option (Int × gi_H) :=
  Option.bind (gi_is h v0 8) fun _ => Option.bind (f_X9_cellsInConflict n v0 (0 : Int) h) fun q2 => some (q2.1, q2.2)
set_option maxRecDepth 100000 in
theorem z_X9_clashes {al : Bool} {n : Nat} {v0 : Nat} {h : gi_H} {res : Int} {h1 : gi_H} (e : f_X9_clashes n v0 h = some (res, h1)) : gx_Cw mX9_clashes al [.ref v0] (gi_cv h) (.inl (some (.int (gI res)))) (gi_cv h1) := by
  refine gx_enter (by decide +kernel) rfl (Nat.le_of_ble_eq_true rfl) ?_
  show gx_Z mX9_clashes al al 0 0 0 [(0, .ref v0)] [] (gi_cv h) (.inl (some (.int (gI res)))) (gi_cv h1)
  refine gx_aload_n dX9_clashes_0 rfl 0 rfl ?_
  refine gy_iconst dX9_clashes_1 ?_
  refine gx_bE e (fun _ hu1 e => ?_)
  refine gx_bE e (fun q2 hq2 e => ?_)
  refine gx_callV (n := 1) (st := []) (As := [.int (gI (0 : Int))]) (b := v0) dX9_clashes_2 (z_X9_cellsInConflict hq2) rfl ⟨rfl, gw_cw_X9_cellsInConflict, gw_10, gp_X9_cellsInConflict, ⟨Nat.le_of_ble_eq_true rfl, Nat.le_of_ble_eq_true rfl⟩⟩ (gi_isS hu1) (by decide) gw_632 gw_634 gs_33 rfl ⟨Nat.le_of_ble_eq_true rfl, Nat.le_of_ble_eq_true rfl⟩ (Nat.le_of_ble_eq_true rfl) (gy_k1 (x := .int (gI q2.1)) (kc2 := 0) (ks2 := 0) ⟨rfl, rfl⟩ ?_) gy_kn
  cases e
  exact gx_iret dX9_clashes_5 rfl ⟨Nat.le_of_ble_eq_true rfl, Nat.le_of_ble_eq_true rfl⟩ (fun z => z)
/-! X11_conflicts  -/
set_option maxRecDepth 100000 in
def f_X11_conflicts (n : Nat) (v0 : Nat) (v1 : Int) (h : gi_H) : Option ((Int ⊕ String) × gi_H) :=
  Option.bind (f_X11_requireKind v1 h) fun q1 => gx_sm q1.1 (fun t2 => Option.bind (gi_is q1.2 v0 9) fun _ => Option.bind (f_X11_table n v0 v1 q1.2) fun q4 => if gi_S q4.2 q4.1 = (0, 4) then (Option.bind (gi_is q4.2 q4.1 4) fun _ => Option.bind (f_X5_clashes n q4.1 q4.2) fun q7 => some (.inl q7, q4.2)) else (Option.bind (gi_is q4.2 q4.1 8) fun _ => Option.bind (f_X9_clashes n q4.1 q4.2) fun q9 => some (.inl q9.1, q9.2))) (fun t2 => some (.inr t2, q1.2))
set_option maxRecDepth 100000 in
theorem z_X11_conflicts {n : Nat} {v0 : Nat} {v1 : Int} {h : gi_H} {res : Int ⊕ String} {h1 : gi_H} (e : f_X11_conflicts n v0 v1 h = some (res, h1)) : gx_Cw mX11_conflicts false [.ref v0, .int (gI v1)] (gi_cv h) (gx_oI res) (gi_cv h1) := by
  refine gx_enter (by decide +kernel) rfl (Nat.le_of_ble_eq_true rfl) ?_
  show gx_Z mX11_conflicts false false 0 0 0 [(0, .ref v0), (1, .int (gI v1))] [] (gi_cv h) (gx_oI res) (gi_cv h1)
  refine gx_iload_n dX11_conflicts_0 rfl 1 rfl ?_
  refine gx_bE e (fun q1 hq1 e => ?_)
  refine gx_smE e (fun t2 ht2 e => ?_) (fun t2 ht2 e => ?_)
  · have zq1 := z_X11_requireKind hq1
    rw [ht2] at zq1
    refine gx_callS (n := 1) (st := []) (As := [.int (gI v1)]) dX11_conflicts_1 zq1 rfl ⟨rfl, gw_cw_X11_requireKind, gw_1, gp_X11_requireKind, ⟨Nat.le_of_ble_eq_true rfl, Nat.le_of_ble_eq_true rfl⟩⟩ gw_1190 gw_1191 ⟨Nat.le_of_ble_eq_true rfl, Nat.le_of_ble_eq_true rfl⟩ (Nat.le_of_ble_eq_true rfl) (gy_k0 (kc2 := 1) (ks2 := 6) ⟨rfl, rfl⟩ ?_) gy_kn
    refine gx_aload_n dX11_conflicts_4 rfl 0 rfl ?_
    refine gx_iload_n dX11_conflicts_5 rfl 1 rfl ?_
    refine gx_bE e (fun _ hu3 e => ?_)
    refine gx_bE e (fun q4 hq4 e => ?_)
    refine gx_callV (n := 1) (st := []) (As := [.int (gI v1)]) (b := v0) dX11_conflicts_6 (z_X11_table hq4) rfl ⟨rfl, gw_cw_X11_table, gw_1, gp_X11_table, ⟨Nat.le_of_ble_eq_true rfl, Nat.le_of_ble_eq_true rfl⟩⟩ (gi_isS hu3) (by decide) gw_400 gw_402 gs_0 rfl ⟨Nat.le_of_ble_eq_true rfl, Nat.le_of_ble_eq_true rfl⟩ (Nat.le_of_ble_eq_true rfl) (gy_k1 (x := .ref q4.1) (kc2 := 1) (ks2 := 6) ⟨rfl, rfl⟩ ?_) gy_kn
    refine gx_iE e (fun c5 e => ?_) (fun c5 e => ?_)
    · refine gx_bE e (fun _ hu6 e => ?_)
      refine gx_bE e (fun q7 hq7 e => ?_)
      refine gx_callA (n := 0) (st := []) (As := []) (b := q4.1) dX11_conflicts_9 (z_X5_clashes hq7) rfl ⟨rfl, gw_cw_X5_clashes, gw_9, gp_X5_clashes, ⟨Nat.le_of_ble_eq_true rfl, Nat.le_of_ble_eq_true rfl⟩⟩ (gi_isS hu6) (by decide) (x := ⟨"Grammarsmith$Table", "clashes", "()I"⟩) (owner := "Grammarsmith$Table") gw_623 gw_625 gw_626 gw_627 (by decide +kernel) (by decide +kernel) ⟨Nat.le_of_ble_eq_true rfl, Nat.le_of_ble_eq_true rfl⟩ (Nat.le_of_ble_eq_true rfl) (gy_k1 (x := .int (gI q7)) (kc2 := 1) (ks2 := 6) ⟨rfl, rfl⟩ ?_) gy_kn
      cases e
      exact gx_iret dX11_conflicts_12 rfl ⟨Nat.le_of_ble_eq_true rfl, Nat.le_of_ble_eq_true rfl⟩ (fun z => z)
    · refine gx_bE e (fun _ hu8 e => ?_)
      refine gx_bE e (fun q9 hq9 e => ?_)
      refine gx_callA (n := 0) (st := []) (As := []) (b := q4.1) dX11_conflicts_9 (z_X9_clashes hq9) rfl ⟨rfl, gw_cw_X9_clashes, gw_10, gp_X9_clashes, ⟨Nat.le_of_ble_eq_true rfl, Nat.le_of_ble_eq_true rfl⟩⟩ (gi_isS hu8) (by decide) (x := ⟨"Grammarsmith$Table", "clashes", "()I"⟩) (owner := "Grammarsmith$Table") gw_623 gw_625 gw_629 gw_630 (by decide +kernel) (by decide +kernel) ⟨Nat.le_of_ble_eq_true rfl, Nat.le_of_ble_eq_true rfl⟩ (Nat.le_of_ble_eq_true rfl) (gy_k1 (x := .int (gI q9.1)) (kc2 := 1) (ks2 := 6) ⟨rfl, rfl⟩ ?_) gy_kn
      cases e
      exact gx_iret dX11_conflicts_12 rfl ⟨Nat.le_of_ble_eq_true rfl, Nat.le_of_ble_eq_true rfl⟩ (fun z => z)
  · have zq1 := z_X11_requireKind hq1
    rw [ht2] at zq1
    refine gx_callS (n := 1) (st := []) (As := [.int (gI v1)]) dX11_conflicts_1 zq1 rfl ⟨rfl, gw_cw_X11_requireKind, gw_1, gp_X11_requireKind, ⟨Nat.le_of_ble_eq_true rfl, Nat.le_of_ble_eq_true rfl⟩⟩ gw_1190 gw_1191 ⟨Nat.le_of_ble_eq_true rfl, Nat.le_of_ble_eq_true rfl⟩ (Nat.le_of_ble_eq_true rfl) gy_kN (gy_kE (kc2 := 1) (ks2 := 6) ⟨rfl, rfl⟩ ?_)
    cases e
    exact gx_out rfl ⟨Nat.le_of_ble_eq_true rfl, Nat.le_of_ble_eq_true rfl⟩ (fun z => z)
/-! L_conflicts  -/
set_option maxRecDepth 100000 in
def f_L_conflicts (n : Nat) (v0 : Nat) (v1 : Int) (v2 : Nat) (h : gi_H) : Option (Int × gi_H) :=
  Option.bind (gi_is h v0 9) fun _ => Option.bind (f_X11_conflicts n v0 v1 h) fun q2 => gx_sm q2.1 (fun t3 => Option.bind (gi_rg t3) fun _ => Option.bind (gi_s2 q2.2 v2 (0 : Int) t3) fun h5 => some ((0 : Int), h5)) (fun t3 => if t3 = gx_IOB then (some ((1 : Int), q2.2)) else (none))
set_option maxRecDepth 100000 in
theorem z_L_conflicts {n : Nat} {v0 : Nat} {v1 : Int} {v2 : Nat} {h : gi_H} {res : Int} {h1 : gi_H} (e : f_L_conflicts n v0 v1 v2 h = some (res, h1)) : gx_Cw mL_conflicts false [.ref v0, .int (gI v1), .ref v2] (gi_cv h) (.inl (some (.int (gI res)))) (gi_cv h1) := by
  refine gx_enter (by decide +kernel) rfl (Nat.le_of_ble_eq_true rfl) ?_
  show gx_Z mL_conflicts false false 0 0 0 [(0, .ref v0), (1, .int (gI v1)), (2, .ref v2)] [] (gi_cv h) (.inl (some (.int (gI res)))) (gi_cv h1)
  refine gx_aload_n dL_conflicts_0 rfl 2 rfl ?_
  refine gy_iconst dL_conflicts_1 ?_
  refine gx_aload_n dL_conflicts_2 rfl 0 rfl ?_
  refine gx_iload_n dL_conflicts_3 rfl 1 rfl ?_
  refine gx_bE e (fun _ hu1 e => ?_)
  refine gx_bE e (fun q2 hq2 e => ?_)
  refine gx_smE e (fun t3 ht3 e => ?_) (fun t3 ht3 e => ?_)
  · have zq2 := z_X11_conflicts hq2
    rw [ht3] at zq2
    refine gx_callV (n := 1) (st := [.int (gI (0 : Int)), .ref v2]) (As := [.int (gI v1)]) (b := v0) dL_conflicts_4 zq2 rfl ⟨rfl, gw_cw_X11_conflicts, gw_1, gp_X11_conflicts, ⟨Nat.le_of_ble_eq_true rfl, Nat.le_of_ble_eq_true rfl⟩⟩ (gi_isS hu1) (by decide) gw_1197 gw_1198 gw_1199 rfl ⟨Nat.le_of_ble_eq_true rfl, Nat.le_of_ble_eq_true rfl⟩ (Nat.le_of_ble_eq_true rfl) (gy_k1 (x := .int (gI t3)) (kc2 := 1) (ks2 := 6) ⟨rfl, rfl⟩ ?_) gy_kn
    refine gx_bE e (fun _ g4 e => ?_)
    refine gy_i2l (gi_rgS g4) dL_conflicts_7 ?_
    refine gx_bE e (fun h5 hh5 e => ?_)
    refine gy_t2 hh5 dL_conflicts_8 ?_
    refine gx_goto (tgt := 15) dL_conflicts_9 (by decide) ?_
    refine gy_iconst dL_conflicts_15 ?_
    cases e
    exact gx_iret dL_conflicts_16 rfl ⟨Nat.le_of_ble_eq_true rfl, Nat.le_of_ble_eq_true rfl⟩ (fun z => z)
  · have zq2 := z_X11_conflicts hq2
    rw [ht3] at zq2
    refine gx_callV (n := 1) (st := [.int (gI (0 : Int)), .ref v2]) (As := [.int (gI v1)]) (b := v0) dL_conflicts_4 zq2 rfl ⟨rfl, gw_cw_X11_conflicts, gw_1, gp_X11_conflicts, ⟨Nat.le_of_ble_eq_true rfl, Nat.le_of_ble_eq_true rfl⟩⟩ (gi_isS hu1) (by decide) gw_1197 gw_1198 gw_1199 rfl ⟨Nat.le_of_ble_eq_true rfl, Nat.le_of_ble_eq_true rfl⟩ (Nat.le_of_ble_eq_true rfl) gy_kN (gy_kE (kc2 := 1) (ks2 := 6) ⟨rfl, rfl⟩ ?_)
    refine gx_iE e (fun c6 e => ?_) (fun c6 e => ?_)
    · rw [c6]
      refine gx_catch (ls2 := [(0, .ref v0), (1, .int (gI v1)), (2, .ref v2)]) [] (x := (0, 9, 12, 28)) rfl (fun z hz => by cases hz) (by decide +kernel) (by decide) gw_1028 (by decide +kernel) (Nat.le_of_ble_eq_true rfl) (Or.inl ⟨3, rfl, rfl, dL_conflicts_12⟩) rfl ?_
      refine gy_iconst dL_conflicts_13 ?_
      cases e
      exact gx_iret dL_conflicts_14 rfl ⟨Nat.le_of_ble_eq_true rfl, Nat.le_of_ble_eq_true rfl⟩ (fun z => z)
    cases e
/-! X12_reduces  -/
set_option maxRecDepth 100000 in
def b_X12_reduces_102    (h : gi_H) : Option (Int) :=
  some (0 : Int)
set_option maxRecDepth 100000 in
theorem zb_X12_reduces_102 {al : Bool}  {res : Int}    {h : gi_H} (e : b_X12_reduces_102  h = some res) : gx_Z mX12_reduces al al 0 0 102 [] [] (gi_cv h) (.inl (some (.int (gI res)))) (gi_cv h) := by
  refine gy_iconst dX12_reduces_102 ?_
  cases e
  exact gx_zret (by decide +kernel) dX12_reduces_103 rfl ⟨Nat.le_of_ble_eq_true rfl, Nat.le_of_ble_eq_true rfl⟩ (fun z => z)
set_option maxRecDepth 100000 in
def b_X12_reduces_76  (v4 : Int) (v6 : Int) (s0 : Int) (h : gi_H) : Option (Int) :=
  Option.bind (gi_rg (gi_and v6 (512 : Int))) fun _ => if (gi_and v6 (512 : Int)) = 0 then (b_X12_reduces_102   h) else (Option.bind (gi_rg (gi_and (gi_shr s0 v4) (1 : Int))) fun _ => if (gi_and (gi_shr s0 v4) (1 : Int)) = (1 : Int) then (some (1 : Int)) else (b_X12_reduces_102   h))
set_option maxRecDepth 100000 in
theorem zb_X12_reduces_76 {al : Bool}  {res : Int}  {v4 : Int} {v6 : Int} {s0 : Int} {h : gi_H} (e : b_X12_reduces_76 v4 v6 s0 h = some res) : gx_Z mX12_reduces al al 0 0 76 [(4, .int (gI v4)), (6, .int (gI v6))] [.int (gI s0)] (gi_cv h) (.inl (some (.int (gI res)))) (gi_cv h) := by
  refine gx_istore (ls2 := [(7, .int (gI s0)), (4, .int (gI v4)), (6, .int (gI v6))]) dX12_reduces_76 (Nat.le_of_ble_eq_true rfl) rfl ?_
  refine gx_iload dX12_reduces_78 2 rfl ?_
  refine gy_sipush dX12_reduces_80 gcs_512 ?_
  refine gy_iand dX12_reduces_83 ?_
  refine gx_bE e (fun _ g14 e => ?_)
  refine gx_iE e (fun c15 e => ?_) (fun c15 e => ?_)
  · refine gy_if_eq (tgt := 102) (gi_rgS g14) dX12_reduces_84 (by decide) (fun _ => ?_) (fun z => absurd c15 z)
    refine gx_sub (ls2 := []) [] rfl ?_
    exact zb_X12_reduces_102  e
  · refine gy_if_eq (tgt := 102) (gi_rgS g14) dX12_reduces_84 (by decide) (fun z => absurd z c15) (fun _ => ?_)
    refine gx_iload dX12_reduces_87 0 rfl ?_
    refine gx_iload dX12_reduces_89 1 rfl ?_
    refine gy_ishr dX12_reduces_91 ?_
    refine gy_iconst dX12_reduces_92 ?_
    refine gy_iand dX12_reduces_93 ?_
    refine gy_iconst dX12_reduces_94 ?_
    refine gx_bE e (fun _ g16 e => ?_)
    refine gx_iE e (fun c17 e => ?_) (fun c17 e => ?_)
    · refine gy_icmp_ne (tgt := 102) (gi_rgS g16) (by decide) dX12_reduces_95 (by decide) (fun z => absurd c17 z) (fun _ => ?_)
      refine gy_iconst dX12_reduces_98 ?_
      refine gx_goto (tgt := 103) dX12_reduces_99 (by decide) ?_
      cases e
      exact gx_zret (by decide +kernel) dX12_reduces_103 rfl ⟨Nat.le_of_ble_eq_true rfl, Nat.le_of_ble_eq_true rfl⟩ (fun z => z)
    · refine gy_icmp_ne (tgt := 102) (gi_rgS g16) (by decide) dX12_reduces_95 (by decide) (fun _ => ?_) (fun z => absurd z c17)
      refine gx_sub (ls2 := []) [] rfl ?_
      exact zb_X12_reduces_102  e
set_option maxRecDepth 100000 in
def b_X12_reduces_42  (v0 : Nat) (v1 : Int) (v3 : Int) (v4 : Int) (s0 : Int) (h : gi_H) : Option (Int) :=
  Option.bind (gi_rg v1) fun _ => if v1 = (1 : Int) then (Option.bind (gi_rg v3) fun _ => if v3 = (24 : Int) then (b_X12_reduces_76  v4 s0 (256 : Int) h) else (Option.bind (gi_gR h v0 10 20) fun t18 => Option.bind (gi_is h v0 10) fun _ => Option.bind (f_X12_lead v0 v3 h) fun q20 => Option.bind (gi_aI h 1 t18 q20) fun t21 => b_X12_reduces_76  v4 s0 t21 h)) else (b_X12_reduces_76  v4 s0 s0 h)
set_option maxRecDepth 100000 in
theorem zb_X12_reduces_42 {al : Bool}  {res : Int}  {v0 : Nat} {v1 : Int} {v3 : Int} {v4 : Int} {s0 : Int} {h : gi_H} (e : b_X12_reduces_42 v0 v1 v3 v4 s0 h = some res) : gx_Z mX12_reduces al al 0 0 42 [(0, .ref v0), (1, .int (gI v1)), (3, .int (gI v3)), (4, .int (gI v4))] [.int (gI s0)] (gi_cv h) (.inl (some (.int (gI res)))) (gi_cv h) := by
  refine gx_istore (ls2 := [(6, .int (gI s0)), (0, .ref v0), (1, .int (gI v1)), (3, .int (gI v3)), (4, .int (gI v4))]) dX12_reduces_42 (Nat.le_of_ble_eq_true rfl) rfl ?_
  refine gx_iload_n dX12_reduces_44 rfl 2 rfl ?_
  refine gy_iconst dX12_reduces_45 ?_
  refine gx_bE e (fun _ g10 e => ?_)
  refine gx_iE e (fun c11 e => ?_) (fun c11 e => ?_)
  · refine gy_icmp_eq (tgt := 54) (gi_rgS g10) (by decide) dX12_reduces_46 (by decide) (fun _ => ?_) (fun z => absurd c11 z)
    refine gx_iload_n dX12_reduces_54 rfl 3 rfl ?_
    refine gy_bipush dX12_reduces_55 gcb_24 ?_
    refine gx_bE e (fun _ g12 e => ?_)
    refine gx_iE e (fun c13 e => ?_) (fun c13 e => ?_)
    · refine gy_icmp_ne (tgt := 66) (gi_rgS g12) (by decide) dX12_reduces_57 (by decide) (fun z => absurd c13 z) (fun _ => ?_)
      refine gy_sipush dX12_reduces_60 gcs_256 ?_
      refine gx_goto (tgt := 76) dX12_reduces_63 (by decide) ?_
      refine gx_sub (ls2 := [(4, .int (gI v4)), (6, .int (gI s0))]) [4, 0] rfl ?_
      exact zb_X12_reduces_76  e
    · refine gy_icmp_ne (tgt := 66) (gi_rgS g12) (by decide) dX12_reduces_57 (by decide) (fun _ => ?_) (fun z => absurd z c13)
      refine gx_aload_n dX12_reduces_66 rfl 1 rfl ?_
      refine gx_bE e (fun t18 ht18 e => ?_)
      refine gy_fR ht18 dX12_reduces_67 gf_RX12_55_10_20 (by decide) gkN_10_20 gkR_10_20 ?_
      refine gx_aload_n dX12_reduces_70 rfl 1 rfl ?_
      refine gx_iload_n dX12_reduces_71 rfl 3 rfl ?_
      refine gx_bE e (fun _ hu19 e => ?_)
      refine gx_bE e (fun q20 hq20 e => ?_)
      refine gx_callV (n := 1) (st := [.ref t18]) (As := [.int (gI v3)]) (b := v0) dX12_reduces_72 (z_X12_lead hq20) rfl ⟨rfl, gw_cw_X12_lead, gw_14, gp_X12_lead, ⟨Nat.le_of_ble_eq_true rfl, Nat.le_of_ble_eq_true rfl⟩⟩ (gi_isS hu19) (by decide) gw_1595 gw_1597 gs_74 rfl ⟨Nat.le_of_ble_eq_true rfl, Nat.le_of_ble_eq_true rfl⟩ (Nat.le_of_ble_eq_true rfl) (gy_k1 (x := .int (gI q20)) (kc2 := 0) (ks2 := 0) ⟨rfl, rfl⟩ ?_) gy_kn
      refine gx_bE e (fun t21 ht21 e => ?_)
      refine gy_l1 ht21 dX12_reduces_75 ?_
      refine gx_sub (ls2 := [(4, .int (gI v4)), (6, .int (gI s0))]) [4, 0] rfl ?_
      exact zb_X12_reduces_76  e
  · refine gy_icmp_eq (tgt := 54) (gi_rgS g10) (by decide) dX12_reduces_46 (by decide) (fun z => absurd z c11) (fun _ => ?_)
    refine gx_iload dX12_reduces_49 0 rfl ?_
    refine gx_goto (tgt := 76) dX12_reduces_51 (by decide) ?_
    refine gx_sub (ls2 := [(4, .int (gI v4)), (6, .int (gI s0))]) [4, 0] rfl ?_
    exact zb_X12_reduces_76  e
set_option maxRecDepth 100000 in
def f_X12_reduces (v0 : Nat) (v1 : Int) (v2 : Int) (v3 : Int) (v4 : Int) (h : gi_H) : Option (Int) :=
  Option.bind (gi_gR h v0 10 24) fun t1 => Option.bind (gi_aI h 1 t1 v3) fun t2 => Option.bind (gi_is h v0 10) fun _ => Option.bind (f_X12_sizeOf v0 v3 h) fun q4 => gx_nm ((((146 : Int) * v2) + t2) + q4) fun t5 => Option.bind (gi_rg v1) fun _ => if v1 = (3 : Int) then (Option.bind (gi_gR h v0 10 30) fun t8 => Option.bind (gi_aI h 1 t8 t5) fun t9 => b_X12_reduces_42  v0 v1 v3 v4 t9 h) else (Option.bind (gi_gR h v0 10 27) fun t22 => Option.bind (gi_aI h 1 t22 t5) fun t23 => b_X12_reduces_42  v0 v1 v3 v4 t23 h)
set_option maxRecDepth 100000 in
theorem z_X12_reduces {al : Bool} {v0 : Nat} {v1 : Int} {v2 : Int} {v3 : Int} {v4 : Int} {h : gi_H} {res : Int} (e : f_X12_reduces v0 v1 v2 v3 v4 h = some res) : gx_Cw mX12_reduces al [.ref v0, .int (gI v1), .int (gI v2), .int (gI v3), .int (gI v4)] (gi_cv h) (.inl (some (.int (gI res)))) (gi_cv h) := by
  refine gx_enter (by decide +kernel) rfl (Nat.le_of_ble_eq_true rfl) ?_
  show gx_Z mX12_reduces al al 0 0 0 [(0, .ref v0), (1, .int (gI v1)), (2, .int (gI v2)), (3, .int (gI v3)), (4, .int (gI v4))] [] (gi_cv h) (.inl (some (.int (gI res)))) (gi_cv h)
  refine gy_sipush dX12_reduces_0 gcs_146 ?_
  refine gx_iload_n dX12_reduces_3 rfl 2 rfl ?_
  refine gy_imul dX12_reduces_4 ?_
  refine gx_aload_n dX12_reduces_5 rfl 0 rfl ?_
  refine gx_bE e (fun t1 ht1 e => ?_)
  refine gy_fR ht1 dX12_reduces_6 gf_RX12_68_10_24 (by decide) gkN_10_24 gkR_10_24 ?_
  refine gx_iload_n dX12_reduces_9 rfl 3 rfl ?_
  refine gx_bE e (fun t2 ht2 e => ?_)
  refine gy_l1 ht2 dX12_reduces_10 ?_
  refine gy_iadd dX12_reduces_11 ?_
  refine gx_aload_n dX12_reduces_12 rfl 0 rfl ?_
  refine gx_iload_n dX12_reduces_13 rfl 3 rfl ?_
  refine gx_bE e (fun _ hu3 e => ?_)
  refine gx_bE e (fun q4 hq4 e => ?_)
  refine gx_callV (n := 1) (st := [.int (gI (((146 : Int) * v2) + t2))]) (As := [.int (gI v3)]) (b := v0) dX12_reduces_14 (z_X12_sizeOf hq4) rfl ⟨rfl, gw_cw_X12_sizeOf, gw_14, gp_X12_sizeOf, ⟨Nat.le_of_ble_eq_true rfl, Nat.le_of_ble_eq_true rfl⟩⟩ (gi_isS hu3) (by decide) gw_1579 gw_1581 gs_71 rfl ⟨Nat.le_of_ble_eq_true rfl, Nat.le_of_ble_eq_true rfl⟩ (Nat.le_of_ble_eq_true rfl) (gy_k1 (x := .int (gI q4)) (kc2 := 0) (ks2 := 0) ⟨rfl, rfl⟩ ?_) gy_kn
  refine gy_iadd dX12_reduces_17 ?_
  refine gx_nE e (fun t5 ht5 e => ?_)
  rw [ht5]
  refine gx_istore (ls2 := [(5, .int (gI t5)), (0, .ref v0), (1, .int (gI v1)), (2, .int (gI v2)), (3, .int (gI v3)), (4, .int (gI v4))]) dX12_reduces_18 (Nat.le_of_ble_eq_true rfl) rfl ?_
  refine gx_iload_n dX12_reduces_20 rfl 2 rfl ?_
  refine gy_iconst dX12_reduces_21 ?_
  refine gx_bE e (fun _ g6 e => ?_)
  refine gx_iE e (fun c7 e => ?_) (fun c7 e => ?_)
  · refine gy_icmp_ne (tgt := 35) (gi_rgS g6) (by decide) dX12_reduces_22 (by decide) (fun z => absurd c7 z) (fun _ => ?_)
    refine gx_aload_n dX12_reduces_25 rfl 1 rfl ?_
    refine gx_bE e (fun t8 ht8 e => ?_)
    refine gy_fR ht8 dX12_reduces_26 gf_RX12_80_10_30 (by decide) gkN_10_30 gkR_10_30 ?_
    refine gx_iload dX12_reduces_29 0 rfl ?_
    refine gx_bE e (fun t9 ht9 e => ?_)
    refine gy_l1 ht9 dX12_reduces_31 ?_
    refine gx_goto (tgt := 42) dX12_reduces_32 (by decide) ?_
    refine gx_sub (ls2 := [(0, .ref v0), (1, .int (gI v1)), (3, .int (gI v3)), (4, .int (gI v4))]) [1, 2, 4, 5] rfl ?_
    exact zb_X12_reduces_42  e
  · refine gy_icmp_ne (tgt := 35) (gi_rgS g6) (by decide) dX12_reduces_22 (by decide) (fun _ => ?_) (fun z => absurd z c7)
    refine gx_aload_n dX12_reduces_35 rfl 1 rfl ?_
    refine gx_bE e (fun t22 ht22 e => ?_)
    refine gy_fR ht22 dX12_reduces_36 gf_RX12_74_10_27 (by decide) gkN_10_27 gkR_10_27 ?_
    refine gx_iload dX12_reduces_39 0 rfl ?_
    refine gx_bE e (fun t23 ht23 e => ?_)
    refine gy_l1 ht23 dX12_reduces_41 ?_
    refine gx_sub (ls2 := [(0, .ref v0), (1, .int (gI v1)), (3, .int (gI v3)), (4, .int (gI v4))]) [1, 2, 4, 5] rfl ?_
    exact zb_X12_reduces_42  e
/-! X12_goTo  -/
set_option maxRecDepth 100000 in
def f_X12_goTo (v0 : Nat) (v1 : Int) (v2 : Int) (v3 : Int) (h : gi_H) : Option (Int) :=
  Option.bind (gi_rg v1) fun _ => if v1 = (3 : Int) then (Option.bind (gi_gR h v0 10 31) fun t3 => Option.bind (gi_aI h 1 t3 (((24 : Int) * v2) + v3)) fun t4 => some t4) else (Option.bind (gi_gR h v0 10 28) fun t5 => Option.bind (gi_aI h 1 t5 (((24 : Int) * v2) + v3)) fun t6 => some t6)
set_option maxRecDepth 100000 in
theorem z_X12_goTo {al : Bool} {v0 : Nat} {v1 : Int} {v2 : Int} {v3 : Int} {h : gi_H} {res : Int} (e : f_X12_goTo v0 v1 v2 v3 h = some res) : gx_Cw mX12_goTo al [.ref v0, .int (gI v1), .int (gI v2), .int (gI v3)] (gi_cv h) (.inl (some (.int (gI res)))) (gi_cv h) := by
  refine gx_enter (by decide +kernel) rfl (Nat.le_of_ble_eq_true rfl) ?_
  show gx_Z mX12_goTo al al 0 0 0 [(0, .ref v0), (1, .int (gI v1)), (2, .int (gI v2)), (3, .int (gI v3))] [] (gi_cv h) (.inl (some (.int (gI res)))) (gi_cv h)
  refine gx_iload_n dX12_goTo_0 rfl 1 rfl ?_
  refine gy_iconst dX12_goTo_1 ?_
  refine gx_bE e (fun _ g1 e => ?_)
  refine gx_iE e (fun c2 e => ?_) (fun c2 e => ?_)
  · refine gy_icmp_ne (tgt := 19) (gi_rgS g1) (by decide) dX12_goTo_2 (by decide) (fun z => absurd c2 z) (fun _ => ?_)
    refine gx_aload_n dX12_goTo_5 rfl 0 rfl ?_
    refine gx_bE e (fun t3 ht3 e => ?_)
    refine gy_fR ht3 dX12_goTo_6 gf_RX12_83_10_31 (by decide) gkN_10_31 gkR_10_31 ?_
    refine gy_bipush dX12_goTo_9 gcb_24 ?_
    refine gx_iload_n dX12_goTo_11 rfl 2 rfl ?_
    refine gy_imul dX12_goTo_12 ?_
    refine gx_iload_n dX12_goTo_13 rfl 3 rfl ?_
    refine gy_iadd dX12_goTo_14 ?_
    refine gx_bE e (fun t4 ht4 e => ?_)
    refine gy_l1 ht4 dX12_goTo_15 ?_
    refine gx_goto (tgt := 30) dX12_goTo_16 (by decide) ?_
    cases e
    exact gx_iret dX12_goTo_30 rfl ⟨Nat.le_of_ble_eq_true rfl, Nat.le_of_ble_eq_true rfl⟩ (fun z => z)
  · refine gy_icmp_ne (tgt := 19) (gi_rgS g1) (by decide) dX12_goTo_2 (by decide) (fun _ => ?_) (fun z => absurd z c2)
    refine gx_aload_n dX12_goTo_19 rfl 0 rfl ?_
    refine gx_bE e (fun t5 ht5 e => ?_)
    refine gy_fR ht5 dX12_goTo_20 gf_RX12_77_10_28 (by decide) gkN_10_28 gkR_10_28 ?_
    refine gy_bipush dX12_goTo_23 gcb_24 ?_
    refine gx_iload_n dX12_goTo_25 rfl 2 rfl ?_
    refine gy_imul dX12_goTo_26 ?_
    refine gx_iload_n dX12_goTo_27 rfl 3 rfl ?_
    refine gy_iadd dX12_goTo_28 ?_
    refine gx_bE e (fun t6 ht6 e => ?_)
    refine gy_l1 ht6 dX12_goTo_29 ?_
    cases e
    exact gx_iret dX12_goTo_30 rfl ⟨Nat.le_of_ble_eq_true rfl, Nat.le_of_ble_eq_true rfl⟩ (fun z => z)
/-! X12_lastTerminal  -/
set_option maxRecDepth 100000 in
def b_X12_lastTerminal_34 (n : Nat) (r4 : Nat → Int → Int → Int → gi_H → Option (Int)) (v0 : Nat) (v1 : Int) (v3 : Int) (s0 : Int) (h : gi_H) : Option (Int) :=
  gx_nm (v3 + (1 : Int)) fun t10 => r4 v0 v1 s0 t10 h
set_option maxRecDepth 100000 in
theorem zb_X12_lastTerminal_34 {al : Bool} {n : Nat} {r4 : Nat → Int → Int → Int → gi_H → Option (Int)} {res : Int} (hr4 : ∀ (x0 : Nat) (x1 : Int) (x2 : Int) (x3 : Int) (hh : gi_H), r4 x0 x1 x2 x3 hh = some res → gx_Z mX12_lastTerminal al al 0 0 4 [(0, .ref x0), (1, .int (gI x1)), (2, .int (gI x2)), (3, .int (gI x3))] [] (gi_cv hh) (.inl (some (.int (gI res)))) (gi_cv hh)) {v0 : Nat} {v1 : Int} {v3 : Int} {s0 : Int} {h : gi_H} (e : b_X12_lastTerminal_34 n r4 v0 v1 v3 s0 h = some res) : gx_Z mX12_lastTerminal al al 0 0 34 [(0, .ref v0), (1, .int (gI v1)), (3, .int (gI v3))] [.int (gI s0)] (gi_cv h) (.inl (some (.int (gI res)))) (gi_cv h) := by
  refine gx_istore_n (ls2 := [(2, .int (gI s0)), (0, .ref v0), (1, .int (gI v1)), (3, .int (gI v3))]) dX12_lastTerminal_34 rfl (Nat.le_of_ble_eq_true rfl) rfl ?_
  refine gx_nE e (fun t10 ht10 e => ?_)
  refine gy_iinc (v := t10) (ls2 := [(3, .int (gI t10)), (2, .int (gI s0)), (0, .ref v0), (1, .int (gI v1))]) dX12_lastTerminal_35 3 rfl ht10 (Nat.le_of_ble_eq_true rfl) rfl ?_
  refine gx_goto (tgt := 4) dX12_lastTerminal_38 (by decide) ?_
  refine gx_sub (ls2 := [(0, .ref v0), (1, .int (gI v1)), (2, .int (gI s0)), (3, .int (gI t10))]) [2, 3, 1, 0] rfl ?_
  exact hr4 _ _ _ _ _ e
set_option maxRecDepth 100000 in
def b_X12_lastTerminal_4 (n : Nat) (r4 : Nat → Int → Int → Int → gi_H → Option (Int)) (v0 : Nat) (v1 : Int) (v2 : Int) (v3 : Int)  (h : gi_H) : Option (Int) :=
  Option.bind (gi_is h v0 10) fun _ => Option.bind (f_X12_sizeOf v0 v1 h) fun q2 => Option.bind (gi_rg v3) fun _ => Option.bind (gi_rg q2) fun _ => if q2 ≤ v3 then (some v2) else (Option.bind (gi_is h v0 10) fun _ => Option.bind (f_X12_symbol v0 v1 v3 h) fun q7 => Option.bind (gi_rg q7) fun _ => if (16 : Int) ≤ q7 then (b_X12_lastTerminal_34 n r4 v0 v1 v3 v2 h) else (Option.bind (gi_is h v0 10) fun _ => Option.bind (f_X12_symbol v0 v1 v3 h) fun q12 => b_X12_lastTerminal_34 n r4 v0 v1 v3 q12 h))
set_option maxRecDepth 100000 in
theorem zb_X12_lastTerminal_4 {al : Bool} {n : Nat} {r4 : Nat → Int → Int → Int → gi_H → Option (Int)} {res : Int} (hr4 : ∀ (x0 : Nat) (x1 : Int) (x2 : Int) (x3 : Int) (hh : gi_H), r4 x0 x1 x2 x3 hh = some res → gx_Z mX12_lastTerminal al al 0 0 4 [(0, .ref x0), (1, .int (gI x1)), (2, .int (gI x2)), (3, .int (gI x3))] [] (gi_cv hh) (.inl (some (.int (gI res)))) (gi_cv hh)) {v0 : Nat} {v1 : Int} {v2 : Int} {v3 : Int}  {h : gi_H} (e : b_X12_lastTerminal_4 n r4 v0 v1 v2 v3 h = some res) : gx_Z mX12_lastTerminal al al 0 0 4 [(0, .ref v0), (1, .int (gI v1)), (2, .int (gI v2)), (3, .int (gI v3))] [] (gi_cv h) (.inl (some (.int (gI res)))) (gi_cv h) := by
  refine gx_iload_n dX12_lastTerminal_4 rfl 3 rfl ?_
  refine gx_aload_n dX12_lastTerminal_5 rfl 0 rfl ?_
  refine gx_iload_n dX12_lastTerminal_6 rfl 1 rfl ?_
  refine gx_bE e (fun _ hu1 e => ?_)
  refine gx_bE e (fun q2 hq2 e => ?_)
  refine gx_callV (n := 1) (st := [.int (gI v3)]) (As := [.int (gI v1)]) (b := v0) dX12_lastTerminal_7 (z_X12_sizeOf hq2) rfl ⟨rfl, gw_cw_X12_sizeOf, gw_14, gp_X12_sizeOf, ⟨Nat.le_of_ble_eq_true rfl, Nat.le_of_ble_eq_true rfl⟩⟩ (gi_isS hu1) (by decide) gw_1579 gw_1581 gs_71 rfl ⟨Nat.le_of_ble_eq_true rfl, Nat.le_of_ble_eq_true rfl⟩ (Nat.le_of_ble_eq_true rfl) (gy_k1 (x := .int (gI q2)) (kc2 := 0) (ks2 := 0) ⟨rfl, rfl⟩ ?_) gy_kn
  refine gx_bE e (fun _ g3 e => ?_)
  refine gx_bE e (fun _ g4 e => ?_)
  refine gx_iE e (fun c5 e => ?_) (fun c5 e => ?_)
  · refine gy_icmp_ge (tgt := 41) (gi_rgS g3) (gi_rgS g4) dX12_lastTerminal_10 (by decide) (fun _ => ?_) (fun z => absurd c5 z)
    refine gx_iload_n dX12_lastTerminal_41 rfl 2 rfl ?_
    cases e
    exact gx_iret dX12_lastTerminal_42 rfl ⟨Nat.le_of_ble_eq_true rfl, Nat.le_of_ble_eq_true rfl⟩ (fun z => z)
  · refine gy_icmp_ge (tgt := 41) (gi_rgS g3) (gi_rgS g4) dX12_lastTerminal_10 (by decide) (fun z => absurd z c5) (fun _ => ?_)
    refine gx_aload_n dX12_lastTerminal_13 rfl 0 rfl ?_
    refine gx_iload_n dX12_lastTerminal_14 rfl 1 rfl ?_
    refine gx_iload_n dX12_lastTerminal_15 rfl 3 rfl ?_
    refine gx_bE e (fun _ hu6 e => ?_)
    refine gx_bE e (fun q7 hq7 e => ?_)
    refine gx_callV (n := 2) (st := []) (As := [.int (gI v1), .int (gI v3)]) (b := v0) dX12_lastTerminal_16 (z_X12_symbol hq7) rfl ⟨rfl, gw_cw_X12_symbol, gw_14, gp_X12_symbol, ⟨Nat.le_of_ble_eq_true rfl, Nat.le_of_ble_eq_true rfl⟩⟩ (gi_isS hu6) (by decide) gw_1575 gw_1577 gs_70 rfl ⟨Nat.le_of_ble_eq_true rfl, Nat.le_of_ble_eq_true rfl⟩ (Nat.le_of_ble_eq_true rfl) (gy_k1 (x := .int (gI q7)) (kc2 := 0) (ks2 := 0) ⟨rfl, rfl⟩ ?_) gy_kn
    refine gy_bipush dX12_lastTerminal_19 gcb_16 ?_
    refine gx_bE e (fun _ g8 e => ?_)
    refine gx_iE e (fun c9 e => ?_) (fun c9 e => ?_)
    · refine gy_icmp_ge (tgt := 33) (gi_rgS g8) (by decide) dX12_lastTerminal_21 (by decide) (fun _ => ?_) (fun z => absurd c9 z)
      refine gx_iload_n dX12_lastTerminal_33 rfl 2 rfl ?_
      refine gx_sub (ls2 := [(0, .ref v0), (1, .int (gI v1)), (3, .int (gI v3))]) [0, 1, 3] rfl ?_
      exact zb_X12_lastTerminal_34 hr4 e
    · refine gy_icmp_ge (tgt := 33) (gi_rgS g8) (by decide) dX12_lastTerminal_21 (by decide) (fun z => absurd z c9) (fun _ => ?_)
      refine gx_aload_n dX12_lastTerminal_24 rfl 0 rfl ?_
      refine gx_iload_n dX12_lastTerminal_25 rfl 1 rfl ?_
      refine gx_iload_n dX12_lastTerminal_26 rfl 3 rfl ?_
      refine gx_bE e (fun _ hu11 e => ?_)
      refine gx_bE e (fun q12 hq12 e => ?_)
      refine gx_callV (n := 2) (st := []) (As := [.int (gI v1), .int (gI v3)]) (b := v0) dX12_lastTerminal_27 (z_X12_symbol hq12) rfl ⟨rfl, gw_cw_X12_symbol, gw_14, gp_X12_symbol, ⟨Nat.le_of_ble_eq_true rfl, Nat.le_of_ble_eq_true rfl⟩⟩ (gi_isS hu11) (by decide) gw_1575 gw_1577 gs_70 rfl ⟨Nat.le_of_ble_eq_true rfl, Nat.le_of_ble_eq_true rfl⟩ (Nat.le_of_ble_eq_true rfl) (gy_k1 (x := .int (gI q12)) (kc2 := 0) (ks2 := 0) ⟨rfl, rfl⟩ ?_) gy_kn
      refine gx_goto (tgt := 34) dX12_lastTerminal_30 (by decide) ?_
      refine gx_sub (ls2 := [(0, .ref v0), (1, .int (gI v1)), (3, .int (gI v3))]) [0, 1, 3] rfl ?_
      exact zb_X12_lastTerminal_34 hr4 e
def l_X12_lastTerminal_4 (n : Nat)  : Nat → Nat → Int → Int → Int → gi_H → Option (Int)
  | 0, _, _, _, _, _ => none
  | k + 1, v0, v1, v2, v3, h => b_X12_lastTerminal_4 n  (l_X12_lastTerminal_4 n  k) v0 v1 v2 v3 h
theorem zl_X12_lastTerminal_4 {al : Bool} {n : Nat}  {res : Int}  : ∀ (k : Nat) (v0 : Nat) (v1 : Int) (v2 : Int) (v3 : Int) (h : gi_H), l_X12_lastTerminal_4 n  k v0 v1 v2 v3 h = some res → gx_Z mX12_lastTerminal al al 0 0 4 [(0, .ref v0), (1, .int (gI v1)), (2, .int (gI v2)), (3, .int (gI v3))] [] (gi_cv h) (.inl (some (.int (gI res)))) (gi_cv h)
  | 0, _, _, _, _, _, e => gx_0E e
  | k + 1, _, _, _, _, _, e => zb_X12_lastTerminal_4 (n := n)  (zl_X12_lastTerminal_4  k) e
set_option maxRecDepth 100000 in
def f_X12_lastTerminal (n : Nat) (v0 : Nat) (v1 : Int) (h : gi_H) : Option (Int) :=
  l_X12_lastTerminal_4 n  n v0 v1 (-1 : Int) (0 : Int) h
set_option maxRecDepth 100000 in
theorem z_X12_lastTerminal {al : Bool} {n : Nat} {v0 : Nat} {v1 : Int} {h : gi_H} {res : Int} (e : f_X12_lastTerminal n v0 v1 h = some res) : gx_Cw mX12_lastTerminal al [.ref v0, .int (gI v1)] (gi_cv h) (.inl (some (.int (gI res)))) (gi_cv h) := by
  refine gx_enter (by decide +kernel) rfl (Nat.le_of_ble_eq_true rfl) ?_
  show gx_Z mX12_lastTerminal al al 0 0 0 [(0, .ref v0), (1, .int (gI v1))] [] (gi_cv h) (.inl (some (.int (gI res)))) (gi_cv h)
  refine gy_iconst dX12_lastTerminal_0 ?_
  refine gx_istore_n (ls2 := [(2, .int (gI (-1 : Int))), (0, .ref v0), (1, .int (gI v1))]) dX12_lastTerminal_1 rfl (Nat.le_of_ble_eq_true rfl) rfl ?_
  refine gy_iconst dX12_lastTerminal_2 ?_
  refine gx_istore_n (ls2 := [(3, .int (gI (0 : Int))), (2, .int (gI (-1 : Int))), (0, .ref v0), (1, .int (gI v1))]) dX12_lastTerminal_3 rfl (Nat.le_of_ble_eq_true rfl) rfl ?_
  refine gx_sub (ls2 := [(0, .ref v0), (1, .int (gI v1)), (2, .int (gI (-1 : Int))), (3, .int (gI (0 : Int)))]) [2, 3, 1, 0] rfl ?_
  exact zl_X12_lastTerminal_4  n _ _ _ _ _ e
/-! X12_levelOf  -/
set_option maxRecDepth 100000 in
def b_X12_levelOf_39 (n : Nat) (r4 : Nat → Int → Int → Int → gi_H → Option (Int)) (v0 : Nat) (v1 : Int) (v3 : Int) (s0 : Int) (h : gi_H) : Option (Int) :=
  gx_nm (v3 + (1 : Int)) fun t10 => r4 v0 v1 s0 t10 h
set_option maxRecDepth 100000 in
theorem zb_X12_levelOf_39 {al : Bool} {n : Nat} {r4 : Nat → Int → Int → Int → gi_H → Option (Int)} {res : Int} (hr4 : ∀ (x0 : Nat) (x1 : Int) (x2 : Int) (x3 : Int) (hh : gi_H), r4 x0 x1 x2 x3 hh = some res → gx_Z mX12_levelOf al al 0 0 4 [(0, .ref x0), (1, .int (gI x1)), (2, .int (gI x2)), (3, .int (gI x3))] [] (gi_cv hh) (.inl (some (.int (gI res)))) (gi_cv hh)) {v0 : Nat} {v1 : Int} {v3 : Int} {s0 : Int} {h : gi_H} (e : b_X12_levelOf_39 n r4 v0 v1 v3 s0 h = some res) : gx_Z mX12_levelOf al al 0 0 39 [(0, .ref v0), (1, .int (gI v1)), (3, .int (gI v3))] [.int (gI s0)] (gi_cv h) (.inl (some (.int (gI res)))) (gi_cv h) := by
  refine gx_istore_n (ls2 := [(2, .int (gI s0)), (0, .ref v0), (1, .int (gI v1)), (3, .int (gI v3))]) dX12_levelOf_39 rfl (Nat.le_of_ble_eq_true rfl) rfl ?_
  refine gx_nE e (fun t10 ht10 e => ?_)
  refine gy_iinc (v := t10) (ls2 := [(3, .int (gI t10)), (2, .int (gI s0)), (0, .ref v0), (1, .int (gI v1))]) dX12_levelOf_40 3 rfl ht10 (Nat.le_of_ble_eq_true rfl) rfl ?_
  refine gx_goto (tgt := 4) dX12_levelOf_43 (by decide) ?_
  refine gx_sub (ls2 := [(0, .ref v0), (1, .int (gI v1)), (2, .int (gI s0)), (3, .int (gI t10))]) [2, 3, 1, 0] rfl ?_
  exact hr4 _ _ _ _ _ e
set_option maxRecDepth 100000 in
def b_X12_levelOf_4 (n : Nat) (r4 : Nat → Int → Int → Int → gi_H → Option (Int)) (v0 : Nat) (v1 : Int) (v2 : Int) (v3 : Int)  (h : gi_H) : Option (Int) :=
  Option.bind (gi_is h v0 10) fun _ => Option.bind (f_X12_sizeOf v0 v1 h) fun q2 => Option.bind (gi_rg v3) fun _ => Option.bind (gi_rg q2) fun _ => if q2 ≤ v3 then (some v2) else (Option.bind (gi_is h v0 10) fun _ => Option.bind (f_X12_symbol v0 v1 v3 h) fun q7 => Option.bind (gi_rg q7) fun _ => if (16 : Int) ≤ q7 then (b_X12_levelOf_39 n r4 v0 v1 v3 v2 h) else (Option.bind (gi_gR h v0 10 10) fun t11 => Option.bind (gi_is h v0 10) fun _ => Option.bind (f_X12_symbol v0 v1 v3 h) fun q13 => Option.bind (gi_aI h 1 t11 q13) fun t14 => b_X12_levelOf_39 n r4 v0 v1 v3 t14 h))
set_option maxRecDepth 100000 in
theorem zb_X12_levelOf_4 {al : Bool} {n : Nat} {r4 : Nat → Int → Int → Int → gi_H → Option (Int)} {res : Int} (hr4 : ∀ (x0 : Nat) (x1 : Int) (x2 : Int) (x3 : Int) (hh : gi_H), r4 x0 x1 x2 x3 hh = some res → gx_Z mX12_levelOf al al 0 0 4 [(0, .ref x0), (1, .int (gI x1)), (2, .int (gI x2)), (3, .int (gI x3))] [] (gi_cv hh) (.inl (some (.int (gI res)))) (gi_cv hh)) {v0 : Nat} {v1 : Int} {v2 : Int} {v3 : Int}  {h : gi_H} (e : b_X12_levelOf_4 n r4 v0 v1 v2 v3 h = some res) : gx_Z mX12_levelOf al al 0 0 4 [(0, .ref v0), (1, .int (gI v1)), (2, .int (gI v2)), (3, .int (gI v3))] [] (gi_cv h) (.inl (some (.int (gI res)))) (gi_cv h) := by
  refine gx_iload_n dX12_levelOf_4 rfl 3 rfl ?_
  refine gx_aload_n dX12_levelOf_5 rfl 0 rfl ?_
  refine gx_iload_n dX12_levelOf_6 rfl 1 rfl ?_
  refine gx_bE e (fun _ hu1 e => ?_)
  refine gx_bE e (fun q2 hq2 e => ?_)
  refine gx_callV (n := 1) (st := [.int (gI v3)]) (As := [.int (gI v1)]) (b := v0) dX12_levelOf_7 (z_X12_sizeOf hq2) rfl ⟨rfl, gw_cw_X12_sizeOf, gw_14, gp_X12_sizeOf, ⟨Nat.le_of_ble_eq_true rfl, Nat.le_of_ble_eq_true rfl⟩⟩ (gi_isS hu1) (by decide) gw_1579 gw_1581 gs_71 rfl ⟨Nat.le_of_ble_eq_true rfl, Nat.le_of_ble_eq_true rfl⟩ (Nat.le_of_ble_eq_true rfl) (gy_k1 (x := .int (gI q2)) (kc2 := 0) (ks2 := 0) ⟨rfl, rfl⟩ ?_) gy_kn
  refine gx_bE e (fun _ g3 e => ?_)
  refine gx_bE e (fun _ g4 e => ?_)
  refine gx_iE e (fun c5 e => ?_) (fun c5 e => ?_)
  · refine gy_icmp_ge (tgt := 46) (gi_rgS g3) (gi_rgS g4) dX12_levelOf_10 (by decide) (fun _ => ?_) (fun z => absurd c5 z)
    refine gx_iload_n dX12_levelOf_46 rfl 2 rfl ?_
    cases e
    exact gx_iret dX12_levelOf_47 rfl ⟨Nat.le_of_ble_eq_true rfl, Nat.le_of_ble_eq_true rfl⟩ (fun z => z)
  · refine gy_icmp_ge (tgt := 46) (gi_rgS g3) (gi_rgS g4) dX12_levelOf_10 (by decide) (fun z => absurd z c5) (fun _ => ?_)
    refine gx_aload_n dX12_levelOf_13 rfl 0 rfl ?_
    refine gx_iload_n dX12_levelOf_14 rfl 1 rfl ?_
    refine gx_iload_n dX12_levelOf_15 rfl 3 rfl ?_
    refine gx_bE e (fun _ hu6 e => ?_)
    refine gx_bE e (fun q7 hq7 e => ?_)
    refine gx_callV (n := 2) (st := []) (As := [.int (gI v1), .int (gI v3)]) (b := v0) dX12_levelOf_16 (z_X12_symbol hq7) rfl ⟨rfl, gw_cw_X12_symbol, gw_14, gp_X12_symbol, ⟨Nat.le_of_ble_eq_true rfl, Nat.le_of_ble_eq_true rfl⟩⟩ (gi_isS hu6) (by decide) gw_1575 gw_1577 gs_70 rfl ⟨Nat.le_of_ble_eq_true rfl, Nat.le_of_ble_eq_true rfl⟩ (Nat.le_of_ble_eq_true rfl) (gy_k1 (x := .int (gI q7)) (kc2 := 0) (ks2 := 0) ⟨rfl, rfl⟩ ?_) gy_kn
    refine gy_bipush dX12_levelOf_19 gcb_16 ?_
    refine gx_bE e (fun _ g8 e => ?_)
    refine gx_iE e (fun c9 e => ?_) (fun c9 e => ?_)
    · refine gy_icmp_ge (tgt := 38) (gi_rgS g8) (by decide) dX12_levelOf_21 (by decide) (fun _ => ?_) (fun z => absurd c9 z)
      refine gx_iload_n dX12_levelOf_38 rfl 2 rfl ?_
      refine gx_sub (ls2 := [(0, .ref v0), (1, .int (gI v1)), (3, .int (gI v3))]) [0, 1, 3] rfl ?_
      exact zb_X12_levelOf_39 hr4 e
    · refine gy_icmp_ge (tgt := 38) (gi_rgS g8) (by decide) dX12_levelOf_21 (by decide) (fun z => absurd z c9) (fun _ => ?_)
      refine gx_aload_n dX12_levelOf_24 rfl 0 rfl ?_
      refine gx_bE e (fun t11 ht11 e => ?_)
      refine gy_fR ht11 dX12_levelOf_25 gf_RX12_37_10_10 (by decide) gkN_10_10 gkR_10_10 ?_
      refine gx_aload_n dX12_levelOf_28 rfl 0 rfl ?_
      refine gx_iload_n dX12_levelOf_29 rfl 1 rfl ?_
      refine gx_iload_n dX12_levelOf_30 rfl 3 rfl ?_
      refine gx_bE e (fun _ hu12 e => ?_)
      refine gx_bE e (fun q13 hq13 e => ?_)
      refine gx_callV (n := 2) (st := [.ref t11]) (As := [.int (gI v1), .int (gI v3)]) (b := v0) dX12_levelOf_31 (z_X12_symbol hq13) rfl ⟨rfl, gw_cw_X12_symbol, gw_14, gp_X12_symbol, ⟨Nat.le_of_ble_eq_true rfl, Nat.le_of_ble_eq_true rfl⟩⟩ (gi_isS hu12) (by decide) gw_1575 gw_1577 gs_70 rfl ⟨Nat.le_of_ble_eq_true rfl, Nat.le_of_ble_eq_true rfl⟩ (Nat.le_of_ble_eq_true rfl) (gy_k1 (x := .int (gI q13)) (kc2 := 0) (ks2 := 0) ⟨rfl, rfl⟩ ?_) gy_kn
      refine gx_bE e (fun t14 ht14 e => ?_)
      refine gy_l1 ht14 dX12_levelOf_34 ?_
      refine gx_goto (tgt := 39) dX12_levelOf_35 (by decide) ?_
      refine gx_sub (ls2 := [(0, .ref v0), (1, .int (gI v1)), (3, .int (gI v3))]) [0, 1, 3] rfl ?_
      exact zb_X12_levelOf_39 hr4 e
def l_X12_levelOf_4 (n : Nat)  : Nat → Nat → Int → Int → Int → gi_H → Option (Int)
  | 0, _, _, _, _, _ => none
  | k + 1, v0, v1, v2, v3, h => b_X12_levelOf_4 n  (l_X12_levelOf_4 n  k) v0 v1 v2 v3 h
theorem zl_X12_levelOf_4 {al : Bool} {n : Nat}  {res : Int}  : ∀ (k : Nat) (v0 : Nat) (v1 : Int) (v2 : Int) (v3 : Int) (h : gi_H), l_X12_levelOf_4 n  k v0 v1 v2 v3 h = some res → gx_Z mX12_levelOf al al 0 0 4 [(0, .ref v0), (1, .int (gI v1)), (2, .int (gI v2)), (3, .int (gI v3))] [] (gi_cv h) (.inl (some (.int (gI res)))) (gi_cv h)
  | 0, _, _, _, _, _, e => gx_0E e
  | k + 1, _, _, _, _, _, e => zb_X12_levelOf_4 (n := n)  (zl_X12_levelOf_4  k) e
set_option maxRecDepth 100000 in
def f_X12_levelOf (n : Nat) (v0 : Nat) (v1 : Int) (h : gi_H) : Option (Int) :=
  l_X12_levelOf_4 n  n v0 v1 (0 : Int) (0 : Int) h
set_option maxRecDepth 100000 in
theorem z_X12_levelOf {al : Bool} {n : Nat} {v0 : Nat} {v1 : Int} {h : gi_H} {res : Int} (e : f_X12_levelOf n v0 v1 h = some res) : gx_Cw mX12_levelOf al [.ref v0, .int (gI v1)] (gi_cv h) (.inl (some (.int (gI res)))) (gi_cv h) := by
  refine gx_enter (by decide +kernel) rfl (Nat.le_of_ble_eq_true rfl) ?_
  show gx_Z mX12_levelOf al al 0 0 0 [(0, .ref v0), (1, .int (gI v1))] [] (gi_cv h) (.inl (some (.int (gI res)))) (gi_cv h)
  refine gy_iconst dX12_levelOf_0 ?_
  refine gx_istore_n (ls2 := [(2, .int (gI (0 : Int))), (0, .ref v0), (1, .int (gI v1))]) dX12_levelOf_1 rfl (Nat.le_of_ble_eq_true rfl) rfl ?_
  refine gy_iconst dX12_levelOf_2 ?_
  refine gx_istore_n (ls2 := [(3, .int (gI (0 : Int))), (2, .int (gI (0 : Int))), (0, .ref v0), (1, .int (gI v1))]) dX12_levelOf_3 rfl (Nat.le_of_ble_eq_true rfl) rfl ?_
  refine gx_sub (ls2 := [(0, .ref v0), (1, .int (gI v1)), (2, .int (gI (0 : Int))), (3, .int (gI (0 : Int)))]) [2, 3, 1, 0] rfl ?_
  exact zl_X12_levelOf_4  n _ _ _ _ _ e
/-! X12_cell  -/
set_option maxRecDepth 100000 in
def b_X12_cell_227 (n : Nat)  (v9 : Int) (s0 : Int) (h : gi_H) : Option (Int) :=
  some ((s0 + v9) + (1 : Int))
set_option maxRecDepth 100000 in
theorem zb_X12_cell_227 {al : Bool} {n : Nat}  {res : Int}  {v9 : Int} {s0 : Int} {h : gi_H} (e : b_X12_cell_227 n v9 s0 h = some res) : gx_Z mX12_cell al al 0 0 227 [(9, .int (gI v9))] [.int (gI s0)] (gi_cv h) (.inl (some (.int (gI res)))) (gi_cv h) := by
  refine gx_iload dX12_cell_227 0 rfl ?_
  refine gy_iadd dX12_cell_229 ?_
  refine gy_iconst dX12_cell_230 ?_
  refine gy_iadd dX12_cell_231 ?_
  cases e
  exact gx_iret dX12_cell_232 rfl ⟨Nat.le_of_ble_eq_true rfl, Nat.le_of_ble_eq_true rfl⟩ (fun z => z)
set_option maxRecDepth 100000 in
def b_X12_cell_294 (n : Nat)   (s0 : Int) (h : gi_H) : Option (Int) :=
  some (((20000 : Int) + s0) + (1 : Int))
set_option maxRecDepth 100000 in
theorem zb_X12_cell_294 {al : Bool} {n : Nat}  {res : Int}   {s0 : Int} {h : gi_H} (e : b_X12_cell_294 n s0 h = some res) : gx_Z mX12_cell al al 0 0 294 [] [.int (gI s0)] (gi_cv h) (.inl (some (.int (gI res)))) (gi_cv h) := by
  refine gx_istore (ls2 := [(12, .int (gI s0))]) dX12_cell_294 (Nat.le_of_ble_eq_true rfl) rfl ?_
  refine gy_sipush dX12_cell_296 gcs_20000 ?_
  refine gx_iload dX12_cell_299 0 rfl ?_
  refine gy_iadd dX12_cell_301 ?_
  refine gy_iconst dX12_cell_302 ?_
  refine gy_iadd dX12_cell_303 ?_
  cases e
  exact gx_iret dX12_cell_304 rfl ⟨Nat.le_of_ble_eq_true rfl, Nat.le_of_ble_eq_true rfl⟩ (fun z => z)
set_option maxRecDepth 100000 in
def b_X12_cell_267 (n : Nat)  (v5 : Int)  (h : gi_H) : Option (Int) :=
  b_X12_cell_294 n  v5 h
set_option maxRecDepth 100000 in
theorem zb_X12_cell_267 {al : Bool} {n : Nat}  {res : Int}  {v5 : Int}  {h : gi_H} (e : b_X12_cell_267 n v5 h = some res) : gx_Z mX12_cell al al 0 0 267 [(5, .int (gI v5))] [] (gi_cv h) (.inl (some (.int (gI res)))) (gi_cv h) := by
  refine gx_iload dX12_cell_267 0 rfl ?_
  refine gx_goto (tgt := 294) dX12_cell_269 (by decide) ?_
  refine gx_sub (ls2 := []) [] rfl ?_
  exact zb_X12_cell_294  e
set_option maxRecDepth 100000 in
def b_X12_cell_287 (n : Nat)    (h : gi_H) : Option (Int) :=
  b_X12_cell_294 n  (2000 : Int) h
set_option maxRecDepth 100000 in
theorem zb_X12_cell_287 {al : Bool} {n : Nat}  {res : Int}    {h : gi_H} (e : b_X12_cell_287 n  h = some res) : gx_Z mX12_cell al al 0 0 287 [] [] (gi_cv h) (.inl (some (.int (gI res)))) (gi_cv h) := by
  refine gy_sipush dX12_cell_287 gcs_2000 ?_
  refine gx_goto (tgt := 294) dX12_cell_290 (by decide) ?_
  exact zb_X12_cell_294  e
set_option maxRecDepth 100000 in
def b_X12_cell_272 (n : Nat)  (v0 : Nat) (v3 : Int) (v11 : Int)  (h : gi_H) : Option (Int) :=
  Option.bind (gi_rg v11) fun _ => if v11 < 0 then (b_X12_cell_287 n   h) else (Option.bind (gi_gR h v0 10 11) fun t42 => Option.bind (gi_aI h 1 t42 v3) fun t43 => Option.bind (gi_rg t43) fun _ => if t43 = (1 : Int) then (b_X12_cell_287 n   h) else (b_X12_cell_294 n  (-1 : Int) h))
set_option maxRecDepth 100000 in
theorem zb_X12_cell_272 {al : Bool} {n : Nat}  {res : Int}  {v0 : Nat} {v3 : Int} {v11 : Int}  {h : gi_H} (e : b_X12_cell_272 n v0 v3 v11 h = some res) : gx_Z mX12_cell al al 0 0 272 [(0, .ref v0), (3, .int (gI v3)), (11, .int (gI v11))] [] (gi_cv h) (.inl (some (.int (gI res)))) (gi_cv h) := by
  refine gx_iload dX12_cell_272 2 rfl ?_
  refine gx_bE e (fun _ g40 e => ?_)
  refine gx_iE e (fun c41 e => ?_) (fun c41 e => ?_)
  · refine gy_if_lt (tgt := 287) (gi_rgS g40) dX12_cell_274 (by decide) (fun _ => ?_) (fun z => absurd c41 z)
    refine gx_sub (ls2 := []) [] rfl ?_
    exact zb_X12_cell_287  e
  · refine gy_if_lt (tgt := 287) (gi_rgS g40) dX12_cell_274 (by decide) (fun z => absurd z c41) (fun _ => ?_)
    refine gx_aload_n dX12_cell_277 rfl 0 rfl ?_
    refine gx_bE e (fun t42 ht42 e => ?_)
    refine gy_fR ht42 dX12_cell_278 gf_RX12_40_10_11 (by decide) gkN_10_11 gkR_10_11 ?_
    refine gx_iload_n dX12_cell_281 rfl 1 rfl ?_
    refine gx_bE e (fun t43 ht43 e => ?_)
    refine gy_l1 ht43 dX12_cell_282 ?_
    refine gy_iconst dX12_cell_283 ?_
    refine gx_bE e (fun _ g44 e => ?_)
    refine gx_iE e (fun c45 e => ?_) (fun c45 e => ?_)
    · refine gy_icmp_ne (tgt := 293) (gi_rgS g44) (by decide) dX12_cell_284 (by decide) (fun z => absurd c45 z) (fun _ => ?_)
      refine gx_sub (ls2 := []) [] rfl ?_
      exact zb_X12_cell_287  e
    · refine gy_icmp_ne (tgt := 293) (gi_rgS g44) (by decide) dX12_cell_284 (by decide) (fun _ => ?_) (fun z => absurd z c45)
      refine gy_iconst dX12_cell_293 ?_
      refine gx_sub (ls2 := []) [] rfl ?_
      exact zb_X12_cell_294  e
set_option maxRecDepth 100000 in
def b_X12_cell_207 (n : Nat)  (v0 : Nat) (v3 : Int) (v5 : Int) (v8 : Int) (v9 : Int) (s0 : Int) (h : gi_H) : Option (Int) :=
  Option.bind (gi_rg s0) fun _ => if s0 = 0 then (Option.bind (gi_rg v8) fun _ => if v8 ≤ (1 : Int) then (b_X12_cell_227 n  v9 (0 : Int) h) else (b_X12_cell_227 n  v9 (10000 : Int) h)) else (Option.bind (gi_is h v0 10) fun _ => Option.bind (f_X12_levelOf n v0 v5 h) fun q29 => Option.bind (gi_gR h v0 10 10) fun t30 => Option.bind (gi_aI h 1 t30 v3) fun t31 => gx_nm (q29 - t31) fun t32 => Option.bind (gi_rg t32) fun _ => if 0 < t32 then (b_X12_cell_267 n  v5 h) else (if t32 = 0 then (Option.bind (gi_gR h v0 10 11) fun t36 => Option.bind (gi_aI h 1 t36 v3) fun t37 => Option.bind (gi_rg t37) fun _ => if t37 = 0 then (b_X12_cell_267 n  v5 h) else (b_X12_cell_272 n  v0 v3 t32 h)) else (b_X12_cell_272 n  v0 v3 t32 h)))
set_option maxRecDepth 100000 in
theorem zb_X12_cell_207 {al : Bool} {n : Nat}  {res : Int}  {v0 : Nat} {v3 : Int} {v5 : Int} {v8 : Int} {v9 : Int} {s0 : Int} {h : gi_H} (e : b_X12_cell_207 n v0 v3 v5 v8 v9 s0 h = some res) : gx_Z mX12_cell al al 0 0 207 [(0, .ref v0), (3, .int (gI v3)), (5, .int (gI v5)), (8, .int (gI v8)), (9, .int (gI v9))] [.int (gI s0)] (gi_cv h) (.inl (some (.int (gI res)))) (gi_cv h) := by
  refine gx_istore (ls2 := [(10, .int (gI s0)), (0, .ref v0), (3, .int (gI v3)), (5, .int (gI v5)), (8, .int (gI v8)), (9, .int (gI v9))]) dX12_cell_207 (Nat.le_of_ble_eq_true rfl) rfl ?_
  refine gx_iload dX12_cell_209 0 rfl ?_
  refine gx_bE e (fun _ g24 e => ?_)
  refine gx_iE e (fun c25 e => ?_) (fun c25 e => ?_)
  · refine gy_if_ne (tgt := 233) (gi_rgS g24) dX12_cell_211 (by decide) (fun z => absurd c25 z) (fun _ => ?_)
    refine gx_iload dX12_cell_214 4 rfl ?_
    refine gy_iconst dX12_cell_216 ?_
    refine gx_bE e (fun _ g26 e => ?_)
    refine gx_iE e (fun c27 e => ?_) (fun c27 e => ?_)
    · refine gy_icmp_le (tgt := 226) (gi_rgS g26) (by decide) dX12_cell_217 (by decide) (fun _ => ?_) (fun z => absurd c27 z)
      refine gy_iconst dX12_cell_226 ?_
      refine gx_sub (ls2 := [(9, .int (gI v9))]) [5] rfl ?_
      exact zb_X12_cell_227  e
    · refine gy_icmp_le (tgt := 226) (gi_rgS g26) (by decide) dX12_cell_217 (by decide) (fun z => absurd z c27) (fun _ => ?_)
      refine gy_sipush dX12_cell_220 gcs_10000 ?_
      refine gx_goto (tgt := 227) dX12_cell_223 (by decide) ?_
      refine gx_sub (ls2 := [(9, .int (gI v9))]) [5] rfl ?_
      exact zb_X12_cell_227  e
  · refine gy_if_ne (tgt := 233) (gi_rgS g24) dX12_cell_211 (by decide) (fun _ => ?_) (fun z => absurd z c25)
    refine gx_aload_n dX12_cell_233 rfl 1 rfl ?_
    refine gx_iload dX12_cell_234 3 rfl ?_
    refine gx_bE e (fun _ hu28 e => ?_)
    refine gx_bE e (fun q29 hq29 e => ?_)
    refine gx_callV (n := 1) (st := []) (As := [.int (gI v5)]) (b := v0) dX12_cell_236 (z_X12_levelOf hq29) rfl ⟨rfl, gw_cw_X12_levelOf, gw_14, gp_X12_levelOf, ⟨Nat.le_of_ble_eq_true rfl, Nat.le_of_ble_eq_true rfl⟩⟩ (gi_isS hu28) (by decide) gw_1727 gw_1729 gs_97 rfl ⟨Nat.le_of_ble_eq_true rfl, Nat.le_of_ble_eq_true rfl⟩ (Nat.le_of_ble_eq_true rfl) (gy_k1 (x := .int (gI q29)) (kc2 := 0) (ks2 := 0) ⟨rfl, rfl⟩ ?_) gy_kn
    refine gx_aload_n dX12_cell_239 rfl 1 rfl ?_
    refine gx_bE e (fun t30 ht30 e => ?_)
    refine gy_fR ht30 dX12_cell_240 gf_RX12_37_10_10 (by decide) gkN_10_10 gkR_10_10 ?_
    refine gx_iload_n dX12_cell_243 rfl 2 rfl ?_
    refine gx_bE e (fun t31 ht31 e => ?_)
    refine gy_l1 ht31 dX12_cell_244 ?_
    refine gy_isub dX12_cell_245 ?_
    refine gx_nE e (fun t32 ht32 e => ?_)
    rw [ht32]
    refine gx_istore (ls2 := [(11, .int (gI t32)), (10, .int (gI s0)), (0, .ref v0), (3, .int (gI v3)), (5, .int (gI v5)), (8, .int (gI v8)), (9, .int (gI v9))]) dX12_cell_246 (Nat.le_of_ble_eq_true rfl) rfl ?_
    refine gx_iload dX12_cell_248 0 rfl ?_
    refine gx_bE e (fun _ g33 e => ?_)
    refine gx_iE e (fun c34 e => ?_) (fun c34 e => ?_)
    · refine gy_if_gt (tgt := 267) (gi_rgS g33) dX12_cell_250 (by decide) (fun _ => ?_) (fun z => absurd c34 z)
      refine gx_sub (ls2 := [(5, .int (gI v5))]) [4] rfl ?_
      exact zb_X12_cell_267  e
    · refine gy_if_gt (tgt := 267) (gi_rgS g33) dX12_cell_250 (by decide) (fun z => absurd z c34) (fun _ => ?_)
      refine gx_iload dX12_cell_253 0 rfl ?_
      refine gx_iE e (fun c35 e => ?_) (fun c35 e => ?_)
      · refine gy_if_ne (tgt := 272) (gi_rgS g33) dX12_cell_255 (by decide) (fun z => absurd c35 z) (fun _ => ?_)
        refine gx_aload_n dX12_cell_258 rfl 2 rfl ?_
        refine gx_bE e (fun t36 ht36 e => ?_)
        refine gy_fR ht36 dX12_cell_259 gf_RX12_40_10_11 (by decide) gkN_10_11 gkR_10_11 ?_
        refine gx_iload_n dX12_cell_262 rfl 3 rfl ?_
        refine gx_bE e (fun t37 ht37 e => ?_)
        refine gy_l1 ht37 dX12_cell_263 ?_
        refine gx_bE e (fun _ g38 e => ?_)
        refine gx_iE e (fun c39 e => ?_) (fun c39 e => ?_)
        · refine gy_if_ne (tgt := 272) (gi_rgS g38) dX12_cell_264 (by decide) (fun z => absurd c39 z) (fun _ => ?_)
          refine gx_sub (ls2 := [(5, .int (gI v5))]) [4] rfl ?_
          exact zb_X12_cell_267  e
        · refine gy_if_ne (tgt := 272) (gi_rgS g38) dX12_cell_264 (by decide) (fun _ => ?_) (fun z => absurd z c39)
          refine gx_sub (ls2 := [(0, .ref v0), (3, .int (gI v3)), (11, .int (gI t32))]) [2, 3, 0] rfl ?_
          exact zb_X12_cell_272  e
      · refine gy_if_ne (tgt := 272) (gi_rgS g33) dX12_cell_255 (by decide) (fun _ => ?_) (fun z => absurd z c35)
        refine gx_sub (ls2 := [(0, .ref v0), (3, .int (gI v3)), (11, .int (gI t32))]) [2, 3, 0] rfl ?_
        exact zb_X12_cell_272  e
set_option maxRecDepth 100000 in
def b_X12_cell_206 (n : Nat)  (v0 : Nat) (v3 : Int) (v5 : Int) (v8 : Int) (v9 : Int)  (h : gi_H) : Option (Int) :=
  b_X12_cell_207 n  v0 v3 v5 v8 v9 (0 : Int) h
set_option maxRecDepth 100000 in
theorem zb_X12_cell_206 {al : Bool} {n : Nat}  {res : Int}  {v0 : Nat} {v3 : Int} {v5 : Int} {v8 : Int} {v9 : Int}  {h : gi_H} (e : b_X12_cell_206 n v0 v3 v5 v8 v9 h = some res) : gx_Z mX12_cell al al 0 0 206 [(0, .ref v0), (3, .int (gI v3)), (5, .int (gI v5)), (8, .int (gI v8)), (9, .int (gI v9))] [] (gi_cv h) (.inl (some (.int (gI res)))) (gi_cv h) := by
  refine gy_iconst dX12_cell_206 ?_
  exact zb_X12_cell_207  e
set_option maxRecDepth 100000 in
def b_X12_cell_155 (n : Nat)  (v0 : Nat) (v3 : Int) (v4 : Int) (v5 : Int) (v6 : Int) (v8 : Int) (s0 : Int) (h : gi_H) : Option (Int) :=
  Option.bind (gi_rg v8) fun _ => if v8 = (2 : Int) then (Option.bind (gi_rg v6) fun _ => if v6 = 0 then (b_X12_cell_206 n  v0 v3 v5 v8 s0 h) else (Option.bind (gi_rg v4) fun _ => if v4 = (1 : Int) then (Option.bind (gi_gR h v0 10 10) fun t48 => Option.bind (gi_aI h 1 t48 v3) fun t49 => Option.bind (gi_rg t49) fun _ => if t49 ≤ 0 then (b_X12_cell_206 n  v0 v3 v5 v8 s0 h) else (Option.bind (gi_is h v0 10) fun _ => Option.bind (f_X12_lastTerminal n v0 v5 h) fun q53 => Option.bind (gi_rg q53) fun _ => if q53 = (-1 : Int) then (b_X12_cell_206 n  v0 v3 v5 v8 s0 h) else (Option.bind (gi_is h v0 10) fun _ => Option.bind (f_X12_levelOf n v0 v5 h) fun q57 => Option.bind (gi_rg q57) fun _ => if q57 ≤ 0 then (b_X12_cell_206 n  v0 v3 v5 v8 s0 h) else (b_X12_cell_207 n  v0 v3 v5 v8 s0 (1 : Int) h)))) else (b_X12_cell_206 n  v0 v3 v5 v8 s0 h))) else (b_X12_cell_206 n  v0 v3 v5 v8 s0 h)
set_option maxRecDepth 100000 in
theorem zb_X12_cell_155 {al : Bool} {n : Nat}  {res : Int}  {v0 : Nat} {v3 : Int} {v4 : Int} {v5 : Int} {v6 : Int} {v8 : Int} {s0 : Int} {h : gi_H} (e : b_X12_cell_155 n v0 v3 v4 v5 v6 v8 s0 h = some res) : gx_Z mX12_cell al al 0 0 155 [(0, .ref v0), (3, .int (gI v3)), (4, .int (gI v4)), (5, .int (gI v5)), (6, .int (gI v6)), (8, .int (gI v8))] [.int (gI s0)] (gi_cv h) (.inl (some (.int (gI res)))) (gi_cv h) := by
  refine gx_istore (ls2 := [(9, .int (gI s0)), (0, .ref v0), (3, .int (gI v3)), (4, .int (gI v4)), (5, .int (gI v5)), (6, .int (gI v6)), (8, .int (gI v8))]) dX12_cell_155 (Nat.le_of_ble_eq_true rfl) rfl ?_
  refine gx_iload dX12_cell_157 6 rfl ?_
  refine gy_iconst dX12_cell_159 ?_
  refine gx_bE e (fun _ g20 e => ?_)
  refine gx_iE e (fun c21 e => ?_) (fun c21 e => ?_)
  · refine gy_icmp_ne (tgt := 206) (gi_rgS g20) (by decide) dX12_cell_160 (by decide) (fun z => absurd c21 z) (fun _ => ?_)
    refine gx_iload dX12_cell_163 5 rfl ?_
    refine gx_bE e (fun _ g22 e => ?_)
    refine gx_iE e (fun c23 e => ?_) (fun c23 e => ?_)
    · refine gy_if_eq (tgt := 206) (gi_rgS g22) dX12_cell_165 (by decide) (fun _ => ?_) (fun z => absurd c23 z)
      refine gx_sub (ls2 := [(0, .ref v0), (3, .int (gI v3)), (5, .int (gI v5)), (8, .int (gI v8)), (9, .int (gI s0))]) [1, 2, 4, 6, 0] rfl ?_
      exact zb_X12_cell_206  e
    · refine gy_if_eq (tgt := 206) (gi_rgS g22) dX12_cell_165 (by decide) (fun z => absurd z c23) (fun _ => ?_)
      refine gx_iload dX12_cell_168 3 rfl ?_
      refine gy_iconst dX12_cell_170 ?_
      refine gx_bE e (fun _ g46 e => ?_)
      refine gx_iE e (fun c47 e => ?_) (fun c47 e => ?_)
      · refine gy_icmp_ne (tgt := 206) (gi_rgS g46) (by decide) dX12_cell_171 (by decide) (fun z => absurd c47 z) (fun _ => ?_)
        refine gx_aload_n dX12_cell_174 rfl 1 rfl ?_
        refine gx_bE e (fun t48 ht48 e => ?_)
        refine gy_fR ht48 dX12_cell_175 gf_RX12_37_10_10 (by decide) gkN_10_10 gkR_10_10 ?_
        refine gx_iload_n dX12_cell_178 rfl 2 rfl ?_
        refine gx_bE e (fun t49 ht49 e => ?_)
        refine gy_l1 ht49 dX12_cell_179 ?_
        refine gx_bE e (fun _ g50 e => ?_)
        refine gx_iE e (fun c51 e => ?_) (fun c51 e => ?_)
        · refine gy_if_le (tgt := 206) (gi_rgS g50) dX12_cell_180 (by decide) (fun _ => ?_) (fun z => absurd c51 z)
          refine gx_sub (ls2 := [(0, .ref v0), (3, .int (gI v3)), (5, .int (gI v5)), (8, .int (gI v8)), (9, .int (gI s0))]) [1, 2, 4, 6, 0] rfl ?_
          exact zb_X12_cell_206  e
        · refine gy_if_le (tgt := 206) (gi_rgS g50) dX12_cell_180 (by decide) (fun z => absurd z c51) (fun _ => ?_)
          refine gx_aload_n dX12_cell_183 rfl 1 rfl ?_
          refine gx_iload dX12_cell_184 4 rfl ?_
          refine gx_bE e (fun _ hu52 e => ?_)
          refine gx_bE e (fun q53 hq53 e => ?_)
          refine gx_callV (n := 1) (st := []) (As := [.int (gI v5)]) (b := v0) dX12_cell_186 (z_X12_lastTerminal hq53) rfl ⟨rfl, gw_cw_X12_lastTerminal, gw_14, gp_X12_lastTerminal, ⟨Nat.le_of_ble_eq_true rfl, Nat.le_of_ble_eq_true rfl⟩⟩ (gi_isS hu52) (by decide) gw_1723 gw_1725 gs_96 rfl ⟨Nat.le_of_ble_eq_true rfl, Nat.le_of_ble_eq_true rfl⟩ (Nat.le_of_ble_eq_true rfl) (gy_k1 (x := .int (gI q53)) (kc2 := 0) (ks2 := 0) ⟨rfl, rfl⟩ ?_) gy_kn
          refine gy_iconst dX12_cell_189 ?_
          refine gx_bE e (fun _ g54 e => ?_)
          refine gx_iE e (fun c55 e => ?_) (fun c55 e => ?_)
          · refine gy_icmp_eq (tgt := 206) (gi_rgS g54) (by decide) dX12_cell_190 (by decide) (fun _ => ?_) (fun z => absurd c55 z)
            refine gx_sub (ls2 := [(0, .ref v0), (3, .int (gI v3)), (5, .int (gI v5)), (8, .int (gI v8)), (9, .int (gI s0))]) [1, 2, 4, 6, 0] rfl ?_
            exact zb_X12_cell_206  e
          · refine gy_icmp_eq (tgt := 206) (gi_rgS g54) (by decide) dX12_cell_190 (by decide) (fun z => absurd z c55) (fun _ => ?_)
            refine gx_aload_n dX12_cell_193 rfl 1 rfl ?_
            refine gx_iload dX12_cell_194 4 rfl ?_
            refine gx_bE e (fun _ hu56 e => ?_)
            refine gx_bE e (fun q57 hq57 e => ?_)
            refine gx_callV (n := 1) (st := []) (As := [.int (gI v5)]) (b := v0) dX12_cell_196 (z_X12_levelOf hq57) rfl ⟨rfl, gw_cw_X12_levelOf, gw_14, gp_X12_levelOf, ⟨Nat.le_of_ble_eq_true rfl, Nat.le_of_ble_eq_true rfl⟩⟩ (gi_isS hu56) (by decide) gw_1727 gw_1729 gs_97 rfl ⟨Nat.le_of_ble_eq_true rfl, Nat.le_of_ble_eq_true rfl⟩ (Nat.le_of_ble_eq_true rfl) (gy_k1 (x := .int (gI q57)) (kc2 := 0) (ks2 := 0) ⟨rfl, rfl⟩ ?_) gy_kn
            refine gx_bE e (fun _ g58 e => ?_)
            refine gx_iE e (fun c59 e => ?_) (fun c59 e => ?_)
            · refine gy_if_le (tgt := 206) (gi_rgS g58) dX12_cell_199 (by decide) (fun _ => ?_) (fun z => absurd c59 z)
              refine gx_sub (ls2 := [(0, .ref v0), (3, .int (gI v3)), (5, .int (gI v5)), (8, .int (gI v8)), (9, .int (gI s0))]) [1, 2, 4, 6, 0] rfl ?_
              exact zb_X12_cell_206  e
            · refine gy_if_le (tgt := 206) (gi_rgS g58) dX12_cell_199 (by decide) (fun z => absurd z c59) (fun _ => ?_)
              refine gy_iconst dX12_cell_202 ?_
              refine gx_goto (tgt := 207) dX12_cell_203 (by decide) ?_
              refine gx_sub (ls2 := [(0, .ref v0), (3, .int (gI v3)), (5, .int (gI v5)), (8, .int (gI v8)), (9, .int (gI s0))]) [1, 2, 4, 6, 0] rfl ?_
              exact zb_X12_cell_207  e
      · refine gy_icmp_ne (tgt := 206) (gi_rgS g46) (by decide) dX12_cell_171 (by decide) (fun _ => ?_) (fun z => absurd z c47)
        refine gx_sub (ls2 := [(0, .ref v0), (3, .int (gI v3)), (5, .int (gI v5)), (8, .int (gI v8)), (9, .int (gI s0))]) [1, 2, 4, 6, 0] rfl ?_
        exact zb_X12_cell_206  e
  · refine gy_icmp_ne (tgt := 206) (gi_rgS g20) (by decide) dX12_cell_160 (by decide) (fun _ => ?_) (fun z => absurd z c21)
    refine gx_sub (ls2 := [(0, .ref v0), (3, .int (gI v3)), (5, .int (gI v5)), (8, .int (gI v8)), (9, .int (gI s0))]) [1, 2, 4, 6, 0] rfl ?_
    exact zb_X12_cell_206  e
set_option maxRecDepth 100000 in
def b_X12_cell_128 (n : Nat)  (v0 : Nat) (v3 : Int) (v4 : Int) (v5 : Int) (v6 : Int) (v7 : Int) (s0 : Int) (s1 : Int) (h : gi_H) : Option (Int) :=
  gx_nm (s0 + s1) fun t15 => Option.bind (gi_rg v7) fun _ => if v7 = 0 then (Option.bind (gi_rg v6) fun _ => if v6 = 0 then (b_X12_cell_155 n  v0 v3 v4 v5 v6 t15 v5 h) else (b_X12_cell_155 n  v0 v3 v4 v5 v6 t15 (2000 : Int) h)) else (b_X12_cell_155 n  v0 v3 v4 v5 v6 t15 (1000 : Int) h)
set_option maxRecDepth 100000 in
theorem zb_X12_cell_128 {al : Bool} {n : Nat}  {res : Int}  {v0 : Nat} {v3 : Int} {v4 : Int} {v5 : Int} {v6 : Int} {v7 : Int} {s0 : Int} {s1 : Int} {h : gi_H} (e : b_X12_cell_128 n v0 v3 v4 v5 v6 v7 s0 s1 h = some res) : gx_Z mX12_cell al al 0 0 128 [(0, .ref v0), (3, .int (gI v3)), (4, .int (gI v4)), (5, .int (gI v5)), (6, .int (gI v6)), (7, .int (gI v7))] [.int (gI s1), .int (gI s0)] (gi_cv h) (.inl (some (.int (gI res)))) (gi_cv h) := by
  refine gy_iadd dX12_cell_128 ?_
  refine gx_nE e (fun t15 ht15 e => ?_)
  rw [ht15]
  refine gx_istore (ls2 := [(8, .int (gI t15)), (0, .ref v0), (3, .int (gI v3)), (4, .int (gI v4)), (5, .int (gI v5)), (6, .int (gI v6)), (7, .int (gI v7))]) dX12_cell_129 (Nat.le_of_ble_eq_true rfl) rfl ?_
  refine gx_iload dX12_cell_131 6 rfl ?_
  refine gx_bE e (fun _ g16 e => ?_)
  refine gx_iE e (fun c17 e => ?_) (fun c17 e => ?_)
  · refine gy_if_eq (tgt := 142) (gi_rgS g16) dX12_cell_133 (by decide) (fun _ => ?_) (fun z => absurd c17 z)
    refine gx_iload dX12_cell_142 5 rfl ?_
    refine gx_bE e (fun _ g18 e => ?_)
    refine gx_iE e (fun c19 e => ?_) (fun c19 e => ?_)
    · refine gy_if_eq (tgt := 153) (gi_rgS g18) dX12_cell_144 (by decide) (fun _ => ?_) (fun z => absurd c19 z)
      refine gx_iload dX12_cell_153 4 rfl ?_
      refine gx_sub (ls2 := [(0, .ref v0), (3, .int (gI v3)), (4, .int (gI v4)), (5, .int (gI v5)), (6, .int (gI v6)), (8, .int (gI t15))]) [1, 2, 3, 4, 5, 0] rfl ?_
      exact zb_X12_cell_155  e
    · refine gy_if_eq (tgt := 153) (gi_rgS g18) dX12_cell_144 (by decide) (fun z => absurd z c19) (fun _ => ?_)
      refine gy_sipush dX12_cell_147 gcs_2000 ?_
      refine gx_goto (tgt := 155) dX12_cell_150 (by decide) ?_
      refine gx_sub (ls2 := [(0, .ref v0), (3, .int (gI v3)), (4, .int (gI v4)), (5, .int (gI v5)), (6, .int (gI v6)), (8, .int (gI t15))]) [1, 2, 3, 4, 5, 0] rfl ?_
      exact zb_X12_cell_155  e
  · refine gy_if_eq (tgt := 142) (gi_rgS g16) dX12_cell_133 (by decide) (fun z => absurd z c17) (fun _ => ?_)
    refine gy_sipush dX12_cell_136 gcs_1000 ?_
    refine gx_goto (tgt := 155) dX12_cell_139 (by decide) ?_
    refine gx_sub (ls2 := [(0, .ref v0), (3, .int (gI v3)), (4, .int (gI v4)), (5, .int (gI v5)), (6, .int (gI v6)), (8, .int (gI t15))]) [1, 2, 3, 4, 5, 0] rfl ?_
    exact zb_X12_cell_155  e
set_option maxRecDepth 100000 in
def b_X12_cell_117 (n : Nat)  (v0 : Nat) (v3 : Int) (v4 : Int) (v5 : Int) (v6 : Int) (v7 : Int) (s0 : Int) (s1 : Int) (h : gi_H) : Option (Int) :=
  Option.bind (gi_rg v7) fun _ => if v7 = 0 then (b_X12_cell_128 n  v0 v3 v4 v5 v6 v7 (s0 + s1) (0 : Int) h) else (b_X12_cell_128 n  v0 v3 v4 v5 v6 v7 (s0 + s1) (1 : Int) h)
set_option maxRecDepth 100000 in
theorem zb_X12_cell_117 {al : Bool} {n : Nat}  {res : Int}  {v0 : Nat} {v3 : Int} {v4 : Int} {v5 : Int} {v6 : Int} {v7 : Int} {s0 : Int} {s1 : Int} {h : gi_H} (e : b_X12_cell_117 n v0 v3 v4 v5 v6 v7 s0 s1 h = some res) : gx_Z mX12_cell al al 0 0 117 [(0, .ref v0), (3, .int (gI v3)), (4, .int (gI v4)), (5, .int (gI v5)), (6, .int (gI v6)), (7, .int (gI v7))] [.int (gI s1), .int (gI s0)] (gi_cv h) (.inl (some (.int (gI res)))) (gi_cv h) := by
  refine gy_iadd dX12_cell_117 ?_
  refine gx_iload dX12_cell_118 5 rfl ?_
  refine gx_bE e (fun _ g13 e => ?_)
  refine gx_iE e (fun c14 e => ?_) (fun c14 e => ?_)
  · refine gy_if_eq (tgt := 127) (gi_rgS g13) dX12_cell_120 (by decide) (fun _ => ?_) (fun z => absurd c14 z)
    refine gy_iconst dX12_cell_127 ?_
    exact zb_X12_cell_128  e
  · refine gy_if_eq (tgt := 127) (gi_rgS g13) dX12_cell_120 (by decide) (fun z => absurd z c14) (fun _ => ?_)
    refine gy_iconst dX12_cell_123 ?_
    refine gx_goto (tgt := 128) dX12_cell_124 (by decide) ?_
    exact zb_X12_cell_128  e
set_option maxRecDepth 100000 in
def b_X12_cell_92 (n : Nat)  (v0 : Nat) (v1 : Int) (v2 : Int) (v3 : Int) (v4 : Int) (v5 : Int) (s0 : Int) (h : gi_H) : Option (Int) :=
  Option.bind (gi_is h v0 10) fun _ => Option.bind (f_X12_reduces v0 v1 v2 (24 : Int) v3 h) fun q10 => Option.bind (gi_rg s0) fun _ => if s0 = 0 then (b_X12_cell_117 n  v0 v3 v4 v5 s0 q10 v4 (0 : Int) h) else (b_X12_cell_117 n  v0 v3 v4 v5 s0 q10 v4 (1 : Int) h)
set_option maxRecDepth 100000 in
theorem zb_X12_cell_92 {al : Bool} {n : Nat}  {res : Int}  {v0 : Nat} {v1 : Int} {v2 : Int} {v3 : Int} {v4 : Int} {v5 : Int} {s0 : Int} {h : gi_H} (e : b_X12_cell_92 n v0 v1 v2 v3 v4 v5 s0 h = some res) : gx_Z mX12_cell al al 0 0 92 [(0, .ref v0), (1, .int (gI v1)), (2, .int (gI v2)), (3, .int (gI v3)), (4, .int (gI v4)), (5, .int (gI v5))] [.int (gI s0)] (gi_cv h) (.inl (some (.int (gI res)))) (gi_cv h) := by
  refine gx_istore (ls2 := [(6, .int (gI s0)), (0, .ref v0), (1, .int (gI v1)), (2, .int (gI v2)), (3, .int (gI v3)), (4, .int (gI v4)), (5, .int (gI v5))]) dX12_cell_92 (Nat.le_of_ble_eq_true rfl) rfl ?_
  refine gx_aload_n dX12_cell_94 rfl 1 rfl ?_
  refine gx_iload_n dX12_cell_95 rfl 2 rfl ?_
  refine gx_iload_n dX12_cell_96 rfl 3 rfl ?_
  refine gy_bipush dX12_cell_97 gcb_24 ?_
  refine gx_iload_n dX12_cell_99 rfl 4 rfl ?_
  refine gx_bE e (fun _ hu9 e => ?_)
  refine gx_bE e (fun q10 hq10 e => ?_)
  refine gx_callV (n := 4) (st := []) (As := [.int (gI v1), .int (gI v2), .int (gI (24 : Int)), .int (gI v3)]) (b := v0) dX12_cell_100 (z_X12_reduces hq10) rfl ⟨rfl, gw_cw_X12_reduces, gw_14, gp_X12_reduces, ⟨Nat.le_of_ble_eq_true rfl, Nat.le_of_ble_eq_true rfl⟩⟩ (gi_isS hu9) (by decide) gw_1715 gw_1717 gs_94 rfl ⟨Nat.le_of_ble_eq_true rfl, Nat.le_of_ble_eq_true rfl⟩ (Nat.le_of_ble_eq_true rfl) (gy_k1 (x := .int (gI q10)) (kc2 := 0) (ks2 := 0) ⟨rfl, rfl⟩ ?_) gy_kn
  refine gx_istore (ls2 := [(7, .int (gI q10)), (6, .int (gI s0)), (0, .ref v0), (1, .int (gI v1)), (2, .int (gI v2)), (3, .int (gI v3)), (4, .int (gI v4)), (5, .int (gI v5))]) dX12_cell_103 (Nat.le_of_ble_eq_true rfl) rfl ?_
  refine gx_iload dX12_cell_105 6 rfl ?_
  refine gx_iload dX12_cell_107 1 rfl ?_
  refine gx_bE e (fun _ g11 e => ?_)
  refine gx_iE e (fun c12 e => ?_) (fun c12 e => ?_)
  · refine gy_if_eq (tgt := 116) (gi_rgS g11) dX12_cell_109 (by decide) (fun _ => ?_) (fun z => absurd c12 z)
    refine gy_iconst dX12_cell_116 ?_
    refine gx_sub (ls2 := [(0, .ref v0), (3, .int (gI v3)), (4, .int (gI v4)), (5, .int (gI v5)), (6, .int (gI s0)), (7, .int (gI q10))]) [2, 5, 6, 7, 1, 0] rfl ?_
    exact zb_X12_cell_117  e
  · refine gy_if_eq (tgt := 116) (gi_rgS g11) dX12_cell_109 (by decide) (fun z => absurd z c12) (fun _ => ?_)
    refine gy_iconst dX12_cell_112 ?_
    refine gx_goto (tgt := 117) dX12_cell_113 (by decide) ?_
    refine gx_sub (ls2 := [(0, .ref v0), (3, .int (gI v3)), (4, .int (gI v4)), (5, .int (gI v5)), (6, .int (gI s0)), (7, .int (gI q10))]) [2, 5, 6, 7, 1, 0] rfl ?_
    exact zb_X12_cell_117  e
set_option maxRecDepth 100000 in
def b_X12_cell_91 (n : Nat)  (v0 : Nat) (v1 : Int) (v2 : Int) (v3 : Int) (v4 : Int) (v5 : Int)  (h : gi_H) : Option (Int) :=
  b_X12_cell_92 n  v0 v1 v2 v3 v4 v5 (0 : Int) h
set_option maxRecDepth 100000 in
theorem zb_X12_cell_91 {al : Bool} {n : Nat}  {res : Int}  {v0 : Nat} {v1 : Int} {v2 : Int} {v3 : Int} {v4 : Int} {v5 : Int}  {h : gi_H} (e : b_X12_cell_91 n v0 v1 v2 v3 v4 v5 h = some res) : gx_Z mX12_cell al al 0 0 91 [(0, .ref v0), (1, .int (gI v1)), (2, .int (gI v2)), (3, .int (gI v3)), (4, .int (gI v4)), (5, .int (gI v5))] [] (gi_cv h) (.inl (some (.int (gI res)))) (gi_cv h) := by
  refine gy_iconst dX12_cell_91 ?_
  exact zb_X12_cell_92  e
set_option maxRecDepth 100000 in
def b_X12_cell_70 (n : Nat)  (v0 : Nat) (v1 : Int) (v2 : Int) (v3 : Int) (v4 : Int) (v5 : Int)  (h : gi_H) : Option (Int) :=
  Option.bind (gi_rg v3) fun _ => if (8 : Int) ≤ v3 then (b_X12_cell_91 n  v0 v1 v2 v3 v4 v5 h) else (Option.bind (gi_is h v0 10) fun _ => Option.bind (f_X12_goTo v0 v1 v2 v3 h) fun q61 => Option.bind (gi_rg q61) fun _ => if q61 = (-1 : Int) then (b_X12_cell_91 n  v0 v1 v2 v3 v4 v5 h) else (b_X12_cell_92 n  v0 v1 v2 v3 v4 v5 (1 : Int) h))
set_option maxRecDepth 100000 in
theorem zb_X12_cell_70 {al : Bool} {n : Nat}  {res : Int}  {v0 : Nat} {v1 : Int} {v2 : Int} {v3 : Int} {v4 : Int} {v5 : Int}  {h : gi_H} (e : b_X12_cell_70 n v0 v1 v2 v3 v4 v5 h = some res) : gx_Z mX12_cell al al 0 0 70 [(0, .ref v0), (1, .int (gI v1)), (2, .int (gI v2)), (3, .int (gI v3)), (4, .int (gI v4)), (5, .int (gI v5))] [] (gi_cv h) (.inl (some (.int (gI res)))) (gi_cv h) := by
  refine gx_iload_n dX12_cell_70 rfl 3 rfl ?_
  refine gy_bipush dX12_cell_71 gcb_8 ?_
  refine gx_bE e (fun _ g7 e => ?_)
  refine gx_iE e (fun c8 e => ?_) (fun c8 e => ?_)
  · refine gy_icmp_ge (tgt := 91) (gi_rgS g7) (by decide) dX12_cell_73 (by decide) (fun _ => ?_) (fun z => absurd c8 z)
    exact zb_X12_cell_91  e
  · refine gy_icmp_ge (tgt := 91) (gi_rgS g7) (by decide) dX12_cell_73 (by decide) (fun z => absurd z c8) (fun _ => ?_)
    refine gx_aload_n dX12_cell_76 rfl 0 rfl ?_
    refine gx_iload_n dX12_cell_77 rfl 1 rfl ?_
    refine gx_iload_n dX12_cell_78 rfl 2 rfl ?_
    refine gx_iload_n dX12_cell_79 rfl 3 rfl ?_
    refine gx_bE e (fun _ hu60 e => ?_)
    refine gx_bE e (fun q61 hq61 e => ?_)
    refine gx_callV (n := 3) (st := []) (As := [.int (gI v1), .int (gI v2), .int (gI v3)]) (b := v0) dX12_cell_80 (z_X12_goTo hq61) rfl ⟨rfl, gw_cw_X12_goTo, gw_14, gp_X12_goTo, ⟨Nat.le_of_ble_eq_true rfl, Nat.le_of_ble_eq_true rfl⟩⟩ (gi_isS hu60) (by decide) gw_1719 gw_1721 gs_95 rfl ⟨Nat.le_of_ble_eq_true rfl, Nat.le_of_ble_eq_true rfl⟩ (Nat.le_of_ble_eq_true rfl) (gy_k1 (x := .int (gI q61)) (kc2 := 0) (ks2 := 0) ⟨rfl, rfl⟩ ?_) gy_kn
    refine gy_iconst dX12_cell_83 ?_
    refine gx_bE e (fun _ g62 e => ?_)
    refine gx_iE e (fun c63 e => ?_) (fun c63 e => ?_)
    · refine gy_icmp_eq (tgt := 91) (gi_rgS g62) (by decide) dX12_cell_84 (by decide) (fun _ => ?_) (fun z => absurd c63 z)
      exact zb_X12_cell_91  e
    · refine gy_icmp_eq (tgt := 91) (gi_rgS g62) (by decide) dX12_cell_84 (by decide) (fun z => absurd z c63) (fun _ => ?_)
      refine gy_iconst dX12_cell_87 ?_
      refine gx_goto (tgt := 92) dX12_cell_88 (by decide) ?_
      exact zb_X12_cell_92  e
set_option maxRecDepth 100000 in
def b_X12_cell_62 (n : Nat) (r19 : Nat → Int → Int → Int → Int → Int → Int → gi_H → Option (Int)) (v0 : Nat) (v1 : Int) (v2 : Int) (v3 : Int) (v4 : Int) (v6 : Int) (s0 : Int) (h : gi_H) : Option (Int) :=
  gx_nm (v6 + (-1 : Int)) fun t71 => r19 v0 v1 v2 v3 v4 s0 t71 h
set_option maxRecDepth 100000 in
theorem zb_X12_cell_62 {al : Bool} {n : Nat} {r19 : Nat → Int → Int → Int → Int → Int → Int → gi_H → Option (Int)} {res : Int} (hr19 : ∀ (x0 : Nat) (x1 : Int) (x2 : Int) (x3 : Int) (x4 : Int) (x5 : Int) (x6 : Int) (hh : gi_H), r19 x0 x1 x2 x3 x4 x5 x6 hh = some res → gx_Z mX12_cell al al 0 0 19 [(0, .ref x0), (1, .int (gI x1)), (2, .int (gI x2)), (3, .int (gI x3)), (4, .int (gI x4)), (5, .int (gI x5)), (6, .int (gI x6))] [] (gi_cv hh) (.inl (some (.int (gI res)))) (gi_cv hh)) {v0 : Nat} {v1 : Int} {v2 : Int} {v3 : Int} {v4 : Int} {v6 : Int} {s0 : Int} {h : gi_H} (e : b_X12_cell_62 n r19 v0 v1 v2 v3 v4 v6 s0 h = some res) : gx_Z mX12_cell al al 0 0 62 [(0, .ref v0), (1, .int (gI v1)), (2, .int (gI v2)), (3, .int (gI v3)), (4, .int (gI v4)), (6, .int (gI v6))] [.int (gI s0)] (gi_cv h) (.inl (some (.int (gI res)))) (gi_cv h) := by
  refine gx_istore (ls2 := [(5, .int (gI s0)), (0, .ref v0), (1, .int (gI v1)), (2, .int (gI v2)), (3, .int (gI v3)), (4, .int (gI v4)), (6, .int (gI v6))]) dX12_cell_62 (Nat.le_of_ble_eq_true rfl) rfl ?_
  refine gx_nE e (fun t71 ht71 e => ?_)
  refine gy_iinc (v := t71) (ls2 := [(6, .int (gI t71)), (5, .int (gI s0)), (0, .ref v0), (1, .int (gI v1)), (2, .int (gI v2)), (3, .int (gI v3)), (4, .int (gI v4))]) dX12_cell_64 6 rfl ht71 (Nat.le_of_ble_eq_true rfl) rfl ?_
  refine gx_goto (tgt := 19) dX12_cell_67 (by decide) ?_
  refine gx_sub (ls2 := [(0, .ref v0), (1, .int (gI v1)), (2, .int (gI v2)), (3, .int (gI v3)), (4, .int (gI v4)), (5, .int (gI s0)), (6, .int (gI t71))]) [2, 3, 4, 5, 6, 1, 0] rfl ?_
  exact hr19 _ _ _ _ _ _ _ _ e
set_option maxRecDepth 100000 in
def b_X12_cell_47 (n : Nat) (r19 : Nat → Int → Int → Int → Int → Int → Int → gi_H → Option (Int)) (v0 : Nat) (v1 : Int) (v2 : Int) (v3 : Int) (v5 : Int) (v6 : Int) (v7 : Int) (s0 : Int) (s1 : Int) (h : gi_H) : Option (Int) :=
  gx_nm (s0 + s1) fun t68 => Option.bind (gi_rg v7) fun _ => if v7 = 0 then (b_X12_cell_62 n r19 v0 v1 v2 v3 t68 v6 v5 h) else (b_X12_cell_62 n r19 v0 v1 v2 v3 t68 v6 v6 h)
set_option maxRecDepth 100000 in
theorem zb_X12_cell_47 {al : Bool} {n : Nat} {r19 : Nat → Int → Int → Int → Int → Int → Int → gi_H → Option (Int)} {res : Int} (hr19 : ∀ (x0 : Nat) (x1 : Int) (x2 : Int) (x3 : Int) (x4 : Int) (x5 : Int) (x6 : Int) (hh : gi_H), r19 x0 x1 x2 x3 x4 x5 x6 hh = some res → gx_Z mX12_cell al al 0 0 19 [(0, .ref x0), (1, .int (gI x1)), (2, .int (gI x2)), (3, .int (gI x3)), (4, .int (gI x4)), (5, .int (gI x5)), (6, .int (gI x6))] [] (gi_cv hh) (.inl (some (.int (gI res)))) (gi_cv hh)) {v0 : Nat} {v1 : Int} {v2 : Int} {v3 : Int} {v5 : Int} {v6 : Int} {v7 : Int} {s0 : Int} {s1 : Int} {h : gi_H} (e : b_X12_cell_47 n r19 v0 v1 v2 v3 v5 v6 v7 s0 s1 h = some res) : gx_Z mX12_cell al al 0 0 47 [(0, .ref v0), (1, .int (gI v1)), (2, .int (gI v2)), (3, .int (gI v3)), (5, .int (gI v5)), (6, .int (gI v6)), (7, .int (gI v7))] [.int (gI s1), .int (gI s0)] (gi_cv h) (.inl (some (.int (gI res)))) (gi_cv h) := by
  refine gy_iadd dX12_cell_47 ?_
  refine gx_nE e (fun t68 ht68 e => ?_)
  rw [ht68]
  refine gx_istore (ls2 := [(4, .int (gI t68)), (0, .ref v0), (1, .int (gI v1)), (2, .int (gI v2)), (3, .int (gI v3)), (5, .int (gI v5)), (6, .int (gI v6)), (7, .int (gI v7))]) dX12_cell_48 (Nat.le_of_ble_eq_true rfl) rfl ?_
  refine gx_iload dX12_cell_50 7 rfl ?_
  refine gx_bE e (fun _ g69 e => ?_)
  refine gx_iE e (fun c70 e => ?_) (fun c70 e => ?_)
  · refine gy_if_eq (tgt := 60) (gi_rgS g69) dX12_cell_52 (by decide) (fun _ => ?_) (fun z => absurd c70 z)
    refine gx_iload dX12_cell_60 5 rfl ?_
    refine gx_sub (ls2 := [(0, .ref v0), (1, .int (gI v1)), (2, .int (gI v2)), (3, .int (gI v3)), (4, .int (gI t68)), (6, .int (gI v6))]) [1, 2, 3, 4, 0, 6] rfl ?_
    exact zb_X12_cell_62 hr19 e
  · refine gy_if_eq (tgt := 60) (gi_rgS g69) dX12_cell_52 (by decide) (fun z => absurd z c70) (fun _ => ?_)
    refine gx_iload dX12_cell_55 6 rfl ?_
    refine gx_goto (tgt := 62) dX12_cell_57 (by decide) ?_
    refine gx_sub (ls2 := [(0, .ref v0), (1, .int (gI v1)), (2, .int (gI v2)), (3, .int (gI v3)), (4, .int (gI t68)), (6, .int (gI v6))]) [1, 2, 3, 4, 0, 6] rfl ?_
    exact zb_X12_cell_62 hr19 e
set_option maxRecDepth 100000 in
def b_X12_cell_19 (n : Nat) (r19 : Nat → Int → Int → Int → Int → Int → Int → gi_H → Option (Int)) (v0 : Nat) (v1 : Int) (v2 : Int) (v3 : Int) (v4 : Int) (v5 : Int) (v6 : Int)  (h : gi_H) : Option (Int) :=
  Option.bind (gi_rg v6) fun _ => if v6 < 0 then (b_X12_cell_70 n  v0 v1 v2 v3 v4 v5 h) else (Option.bind (gi_is h v0 10) fun _ => Option.bind (f_X12_reduces v0 v1 v2 v6 v3 h) fun q65 => Option.bind (gi_rg q65) fun _ => if q65 = 0 then (b_X12_cell_47 n r19 v0 v1 v2 v3 v5 v6 q65 v4 (0 : Int) h) else (b_X12_cell_47 n r19 v0 v1 v2 v3 v5 v6 q65 v4 (1 : Int) h))
set_option maxRecDepth 100000 in
theorem zb_X12_cell_19 {al : Bool} {n : Nat} {r19 : Nat → Int → Int → Int → Int → Int → Int → gi_H → Option (Int)} {res : Int} (hr19 : ∀ (x0 : Nat) (x1 : Int) (x2 : Int) (x3 : Int) (x4 : Int) (x5 : Int) (x6 : Int) (hh : gi_H), r19 x0 x1 x2 x3 x4 x5 x6 hh = some res → gx_Z mX12_cell al al 0 0 19 [(0, .ref x0), (1, .int (gI x1)), (2, .int (gI x2)), (3, .int (gI x3)), (4, .int (gI x4)), (5, .int (gI x5)), (6, .int (gI x6))] [] (gi_cv hh) (.inl (some (.int (gI res)))) (gi_cv hh)) {v0 : Nat} {v1 : Int} {v2 : Int} {v3 : Int} {v4 : Int} {v5 : Int} {v6 : Int}  {h : gi_H} (e : b_X12_cell_19 n r19 v0 v1 v2 v3 v4 v5 v6 h = some res) : gx_Z mX12_cell al al 0 0 19 [(0, .ref v0), (1, .int (gI v1)), (2, .int (gI v2)), (3, .int (gI v3)), (4, .int (gI v4)), (5, .int (gI v5)), (6, .int (gI v6))] [] (gi_cv h) (.inl (some (.int (gI res)))) (gi_cv h) := by
  refine gx_iload dX12_cell_19 6 rfl ?_
  refine gx_bE e (fun _ g5 e => ?_)
  refine gx_iE e (fun c6 e => ?_) (fun c6 e => ?_)
  · refine gy_if_lt (tgt := 70) (gi_rgS g5) dX12_cell_21 (by decide) (fun _ => ?_) (fun z => absurd c6 z)
    refine gx_sub (ls2 := [(0, .ref v0), (1, .int (gI v1)), (2, .int (gI v2)), (3, .int (gI v3)), (4, .int (gI v4)), (5, .int (gI v5))]) [0, 1, 2, 3, 4, 5] rfl ?_
    exact zb_X12_cell_70  e
  · refine gy_if_lt (tgt := 70) (gi_rgS g5) dX12_cell_21 (by decide) (fun z => absurd z c6) (fun _ => ?_)
    refine gx_aload_n dX12_cell_24 rfl 0 rfl ?_
    refine gx_iload_n dX12_cell_25 rfl 1 rfl ?_
    refine gx_iload_n dX12_cell_26 rfl 2 rfl ?_
    refine gx_iload dX12_cell_27 6 rfl ?_
    refine gx_iload_n dX12_cell_29 rfl 3 rfl ?_
    refine gx_bE e (fun _ hu64 e => ?_)
    refine gx_bE e (fun q65 hq65 e => ?_)
    refine gx_callV (n := 4) (st := []) (As := [.int (gI v1), .int (gI v2), .int (gI v6), .int (gI v3)]) (b := v0) dX12_cell_30 (z_X12_reduces hq65) rfl ⟨rfl, gw_cw_X12_reduces, gw_14, gp_X12_reduces, ⟨Nat.le_of_ble_eq_true rfl, Nat.le_of_ble_eq_true rfl⟩⟩ (gi_isS hu64) (by decide) gw_1715 gw_1717 gs_94 rfl ⟨Nat.le_of_ble_eq_true rfl, Nat.le_of_ble_eq_true rfl⟩ (Nat.le_of_ble_eq_true rfl) (gy_k1 (x := .int (gI q65)) (kc2 := 0) (ks2 := 0) ⟨rfl, rfl⟩ ?_) gy_kn
    refine gx_istore (ls2 := [(7, .int (gI q65)), (0, .ref v0), (1, .int (gI v1)), (2, .int (gI v2)), (3, .int (gI v3)), (4, .int (gI v4)), (5, .int (gI v5)), (6, .int (gI v6))]) dX12_cell_33 (Nat.le_of_ble_eq_true rfl) rfl ?_
    refine gx_iload dX12_cell_35 5 rfl ?_
    refine gx_iload dX12_cell_37 0 rfl ?_
    refine gx_bE e (fun _ g66 e => ?_)
    refine gx_iE e (fun c67 e => ?_) (fun c67 e => ?_)
    · refine gy_if_eq (tgt := 46) (gi_rgS g66) dX12_cell_39 (by decide) (fun _ => ?_) (fun z => absurd c67 z)
      refine gy_iconst dX12_cell_46 ?_
      refine gx_sub (ls2 := [(0, .ref v0), (1, .int (gI v1)), (2, .int (gI v2)), (3, .int (gI v3)), (5, .int (gI v5)), (6, .int (gI v6)), (7, .int (gI q65))]) [1, 2, 3, 4, 6, 7, 0] rfl ?_
      exact zb_X12_cell_47 hr19 e
    · refine gy_if_eq (tgt := 46) (gi_rgS g66) dX12_cell_39 (by decide) (fun z => absurd z c67) (fun _ => ?_)
      refine gy_iconst dX12_cell_42 ?_
      refine gx_goto (tgt := 47) dX12_cell_43 (by decide) ?_
      refine gx_sub (ls2 := [(0, .ref v0), (1, .int (gI v1)), (2, .int (gI v2)), (3, .int (gI v3)), (5, .int (gI v5)), (6, .int (gI v6)), (7, .int (gI q65))]) [1, 2, 3, 4, 6, 7, 0] rfl ?_
      exact zb_X12_cell_47 hr19 e
def l_X12_cell_19 (n : Nat)  : Nat → Nat → Int → Int → Int → Int → Int → Int → gi_H → Option (Int)
  | 0, _, _, _, _, _, _, _, _ => none
  | k + 1, v0, v1, v2, v3, v4, v5, v6, h => b_X12_cell_19 n  (l_X12_cell_19 n  k) v0 v1 v2 v3 v4 v5 v6 h
theorem zl_X12_cell_19 {al : Bool} {n : Nat}  {res : Int}  : ∀ (k : Nat) (v0 : Nat) (v1 : Int) (v2 : Int) (v3 : Int) (v4 : Int) (v5 : Int) (v6 : Int) (h : gi_H), l_X12_cell_19 n  k v0 v1 v2 v3 v4 v5 v6 h = some res → gx_Z mX12_cell al al 0 0 19 [(0, .ref v0), (1, .int (gI v1)), (2, .int (gI v2)), (3, .int (gI v3)), (4, .int (gI v4)), (5, .int (gI v5)), (6, .int (gI v6))] [] (gi_cv h) (.inl (some (.int (gI res)))) (gi_cv h)
  | 0, _, _, _, _, _, _, _, _, e => gx_0E e
  | k + 1, _, _, _, _, _, _, _, _, e => zb_X12_cell_19 (n := n)  (zl_X12_cell_19  k) e
set_option maxRecDepth 100000 in
def f_X12_cell (n : Nat) (v0 : Nat) (v1 : Int) (v2 : Int) (v3 : Int) (h : gi_H) : Option (Int) :=
  Option.bind (gi_gR h v0 10 3) fun t1 => Option.bind (gi_gI h v0 10 9) fun t2 => Option.bind (gi_aI h 1 t1 t2) fun t3 => gx_nm (t3 - (1 : Int)) fun t4 => l_X12_cell_19 n  n v0 v1 v2 v3 (0 : Int) (-1 : Int) t4 h
set_option maxRecDepth 100000 in
theorem z_X12_cell {al : Bool} {n : Nat} {v0 : Nat} {v1 : Int} {v2 : Int} {v3 : Int} {h : gi_H} {res : Int} (e : f_X12_cell n v0 v1 v2 v3 h = some res) : gx_Cw mX12_cell al [.ref v0, .int (gI v1), .int (gI v2), .int (gI v3)] (gi_cv h) (.inl (some (.int (gI res)))) (gi_cv h) := by
  refine gx_enter (by decide +kernel) rfl (Nat.le_of_ble_eq_true rfl) ?_
  show gx_Z mX12_cell al al 0 0 0 [(0, .ref v0), (1, .int (gI v1)), (2, .int (gI v2)), (3, .int (gI v3))] [] (gi_cv h) (.inl (some (.int (gI res)))) (gi_cv h)
  refine gy_iconst dX12_cell_0 ?_
  refine gx_istore (ls2 := [(4, .int (gI (0 : Int))), (0, .ref v0), (1, .int (gI v1)), (2, .int (gI v2)), (3, .int (gI v3))]) dX12_cell_1 (Nat.le_of_ble_eq_true rfl) rfl ?_
  refine gy_iconst dX12_cell_3 ?_
  refine gx_istore (ls2 := [(5, .int (gI (-1 : Int))), (4, .int (gI (0 : Int))), (0, .ref v0), (1, .int (gI v1)), (2, .int (gI v2)), (3, .int (gI v3))]) dX12_cell_4 (Nat.le_of_ble_eq_true rfl) rfl ?_
  refine gx_aload_n dX12_cell_6 rfl 2 rfl ?_
  refine gx_bE e (fun t1 ht1 e => ?_)
  refine gy_fR ht1 dX12_cell_7 gf_RX12_19_10_3 (by decide) gkN_10_3 gkR_10_3 ?_
  refine gx_aload_n dX12_cell_10 rfl 2 rfl ?_
  refine gx_bE e (fun t2 ht2 e => ?_)
  refine gy_fI ht2 dX12_cell_11 gf_RX12_139_10_9 (by decide) gkN_10_9 gkR_10_9 ?_
  refine gx_bE e (fun t3 ht3 e => ?_)
  refine gy_l1 ht3 dX12_cell_14 ?_
  refine gy_iconst dX12_cell_15 ?_
  refine gy_isub dX12_cell_16 ?_
  refine gx_nE e (fun t4 ht4 e => ?_)
  rw [ht4]
  refine gx_istore (ls2 := [(6, .int (gI t4)), (5, .int (gI (-1 : Int))), (4, .int (gI (0 : Int))), (0, .ref v0), (1, .int (gI v1)), (2, .int (gI v2)), (3, .int (gI v3))]) dX12_cell_17 (Nat.le_of_ble_eq_true rfl) rfl ?_
  refine gx_sub (ls2 := [(0, .ref v0), (1, .int (gI v1)), (2, .int (gI v2)), (3, .int (gI v3)), (4, .int (gI (0 : Int))), (5, .int (gI (-1 : Int))), (6, .int (gI t4))]) [3, 4, 5, 6, 2, 1, 0] rfl ?_
  exact zl_X12_cell_19  n _ _ _ _ _ _ _ _ e
/-! X12_counts  -/
set_option maxRecDepth 100000 in
def b_X12_counts_51 (n : Nat) (r13 : Nat → Int → Int → Int → gi_H → Option (Int × gi_H)) (v0 : Nat) (v2 : Int) (v4 : Int) (s0 : Int) (s1 : Int) (h : gi_H) : Option (Int × gi_H) :=
  gx_nm (s0 + s1) fun t15 => gx_nm (v4 + (1 : Int)) fun t16 => r13 v0 v2 t15 t16 h
set_option maxRecDepth 100000 in
theorem zb_X12_counts_51 {al : Bool} {n : Nat} {r13 : Nat → Int → Int → Int → gi_H → Option (Int × gi_H)} {res : Int} {h1 : gi_H} (hr13 : ∀ (x0 : Nat) (x2 : Int) (x3 : Int) (x4 : Int) (hh : gi_H), r13 x0 x2 x3 x4 hh = some (res, h1) → gx_Z mX12_counts al al 0 0 13 [(0, .ref x0), (2, .int (gI x2)), (3, .int (gI x3)), (4, .int (gI x4))] [] (gi_cv hh) (.inl (some (.int (gI res)))) (gi_cv h1)) {v0 : Nat} {v2 : Int} {v4 : Int} {s0 : Int} {s1 : Int} {h : gi_H} (e : b_X12_counts_51 n r13 v0 v2 v4 s0 s1 h = some (res, h1)) : gx_Z mX12_counts al al 0 0 51 [(0, .ref v0), (2, .int (gI v2)), (4, .int (gI v4))] [.int (gI s1), .int (gI s0)] (gi_cv h) (.inl (some (.int (gI res)))) (gi_cv h1) := by
  refine gy_iadd dX12_counts_51 ?_
  refine gx_nE e (fun t15 ht15 e => ?_)
  rw [ht15]
  refine gx_istore_n (ls2 := [(3, .int (gI t15)), (0, .ref v0), (2, .int (gI v2)), (4, .int (gI v4))]) dX12_counts_52 rfl (Nat.le_of_ble_eq_true rfl) rfl ?_
  refine gx_nE e (fun t16 ht16 e => ?_)
  refine gy_iinc (v := t16) (ls2 := [(4, .int (gI t16)), (3, .int (gI t15)), (0, .ref v0), (2, .int (gI v2))]) dX12_counts_53 3 rfl ht16 (Nat.le_of_ble_eq_true rfl) rfl ?_
  refine gx_goto (tgt := 13) dX12_counts_56 (by decide) ?_
  refine gx_sub (ls2 := [(0, .ref v0), (2, .int (gI v2)), (3, .int (gI t15)), (4, .int (gI t16))]) [2, 3, 1, 0] rfl ?_
  exact hr13 _ _ _ _ _ e
set_option maxRecDepth 100000 in
def b_X12_counts_50 (n : Nat) (r13 : Nat → Int → Int → Int → gi_H → Option (Int × gi_H)) (v0 : Nat) (v2 : Int) (v4 : Int) (s0 : Int) (h : gi_H) : Option (Int × gi_H) :=
  b_X12_counts_51 n r13 v0 v2 v4 s0 (0 : Int) h
set_option maxRecDepth 100000 in
theorem zb_X12_counts_50 {al : Bool} {n : Nat} {r13 : Nat → Int → Int → Int → gi_H → Option (Int × gi_H)} {res : Int} {h1 : gi_H} (hr13 : ∀ (x0 : Nat) (x2 : Int) (x3 : Int) (x4 : Int) (hh : gi_H), r13 x0 x2 x3 x4 hh = some (res, h1) → gx_Z mX12_counts al al 0 0 13 [(0, .ref x0), (2, .int (gI x2)), (3, .int (gI x3)), (4, .int (gI x4))] [] (gi_cv hh) (.inl (some (.int (gI res)))) (gi_cv h1)) {v0 : Nat} {v2 : Int} {v4 : Int} {s0 : Int} {h : gi_H} (e : b_X12_counts_50 n r13 v0 v2 v4 s0 h = some (res, h1)) : gx_Z mX12_counts al al 0 0 50 [(0, .ref v0), (2, .int (gI v2)), (4, .int (gI v4))] [.int (gI s0)] (gi_cv h) (.inl (some (.int (gI res)))) (gi_cv h1) := by
  refine gy_iconst dX12_counts_50 ?_
  exact zb_X12_counts_51 hr13 e
set_option maxRecDepth 100000 in
def b_X12_counts_13 (n : Nat) (r13 : Nat → Int → Int → Int → gi_H → Option (Int × gi_H)) (v0 : Nat) (v2 : Int) (v3 : Int) (v4 : Int)  (h : gi_H) : Option (Int × gi_H) :=
  Option.bind (gi_rg v4) fun _ => if (144 : Int) ≤ v4 then (some (v3, h)) else (Option.bind (gi_rg v2) fun _ => if v2 = 0 then (Option.bind (gi_dg v4 (9 : Int)) fun _ => Option.bind (gi_dg v4 (9 : Int)) fun _ => Option.bind (gi_is h v0 10) fun _ => Option.bind (f_X12_predicted n v0 (v4 / (9 : Int)) (v4 % (9 : Int)) h) fun q12 => Option.bind (gi_rg q12) fun _ => if q12 < (200 : Int) then (b_X12_counts_50 n r13 v0 v2 v4 v3 h) else (b_X12_counts_51 n r13 v0 v2 v4 v3 (1 : Int) h)) else (b_X12_counts_50 n r13 v0 v2 v4 v3 h))
set_option maxRecDepth 100000 in
theorem zb_X12_counts_13 {al : Bool} {n : Nat} {r13 : Nat → Int → Int → Int → gi_H → Option (Int × gi_H)} {res : Int} {h1 : gi_H} (hr13 : ∀ (x0 : Nat) (x2 : Int) (x3 : Int) (x4 : Int) (hh : gi_H), r13 x0 x2 x3 x4 hh = some (res, h1) → gx_Z mX12_counts al al 0 0 13 [(0, .ref x0), (2, .int (gI x2)), (3, .int (gI x3)), (4, .int (gI x4))] [] (gi_cv hh) (.inl (some (.int (gI res)))) (gi_cv h1)) {v0 : Nat} {v2 : Int} {v3 : Int} {v4 : Int}  {h : gi_H} (e : b_X12_counts_13 n r13 v0 v2 v3 v4 h = some (res, h1)) : gx_Z mX12_counts al al 0 0 13 [(0, .ref v0), (2, .int (gI v2)), (3, .int (gI v3)), (4, .int (gI v4))] [] (gi_cv h) (.inl (some (.int (gI res)))) (gi_cv h1) := by
  refine gx_iload dX12_counts_13 3 rfl ?_
  refine gy_sipush dX12_counts_15 gcs_144 ?_
  refine gx_bE e (fun _ g5 e => ?_)
  refine gx_iE e (fun c6 e => ?_) (fun c6 e => ?_)
  · refine gy_icmp_ge (tgt := 59) (gi_rgS g5) (by decide) dX12_counts_18 (by decide) (fun _ => ?_) (fun z => absurd c6 z)
    refine gx_iload_n dX12_counts_59 rfl 2 rfl ?_
    cases e
    exact gx_iret dX12_counts_60 rfl ⟨Nat.le_of_ble_eq_true rfl, Nat.le_of_ble_eq_true rfl⟩ (fun z => z)
  · refine gy_icmp_ge (tgt := 59) (gi_rgS g5) (by decide) dX12_counts_18 (by decide) (fun z => absurd z c6) (fun _ => ?_)
    refine gx_iload_n dX12_counts_21 rfl 2 rfl ?_
    refine gx_iload_n dX12_counts_22 rfl 1 rfl ?_
    refine gx_bE e (fun _ g7 e => ?_)
    refine gx_iE e (fun c8 e => ?_) (fun c8 e => ?_)
    · refine gy_if_ne (tgt := 50) (gi_rgS g7) dX12_counts_23 (by decide) (fun z => absurd c8 z) (fun _ => ?_)
      refine gx_aload_n dX12_counts_26 rfl 0 rfl ?_
      refine gx_iload dX12_counts_27 3 rfl ?_
      refine gy_bipush dX12_counts_29 gcb_9 ?_
      refine gx_bE e (fun _ hu9 e => ?_)
      refine gy_idiv hu9 dX12_counts_31 ?_
      refine gx_iload dX12_counts_32 3 rfl ?_
      refine gy_bipush dX12_counts_34 gcb_9 ?_
      refine gx_bE e (fun _ hu10 e => ?_)
      refine gy_irem hu10 dX12_counts_36 ?_
      refine gx_bE e (fun _ hu11 e => ?_)
      refine gx_bE e (fun q12 hq12 e => ?_)
      refine gx_callV (n := 2) (st := [.int (gI v3)]) (As := [.int (gI (v4 / (9 : Int))), .int (gI (v4 % (9 : Int)))]) (b := v0) dX12_counts_37 (z_X12_predicted hq12) rfl ⟨rfl, gw_cw_X12_predicted, gw_14, gp_X12_predicted, ⟨Nat.le_of_ble_eq_true rfl, Nat.le_of_ble_eq_true rfl⟩⟩ (gi_isS hu11) (by decide) gw_1699 gw_1701 gs_91 rfl ⟨Nat.le_of_ble_eq_true rfl, Nat.le_of_ble_eq_true rfl⟩ (Nat.le_of_ble_eq_true rfl) (gy_k1 (x := .int (gI q12)) (kc2 := 0) (ks2 := 0) ⟨rfl, rfl⟩ ?_) gy_kn
      refine gy_sipush dX12_counts_40 gcs_200 ?_
      refine gx_bE e (fun _ g13 e => ?_)
      refine gx_iE e (fun c14 e => ?_) (fun c14 e => ?_)
      · refine gy_icmp_lt (tgt := 50) (gi_rgS g13) (by decide) dX12_counts_43 (by decide) (fun _ => ?_) (fun z => absurd c14 z)
        refine gx_sub (ls2 := [(0, .ref v0), (2, .int (gI v2)), (4, .int (gI v4))]) [0, 1, 3] rfl ?_
        exact zb_X12_counts_50 hr13 e
      · refine gy_icmp_lt (tgt := 50) (gi_rgS g13) (by decide) dX12_counts_43 (by decide) (fun z => absurd z c14) (fun _ => ?_)
        refine gy_iconst dX12_counts_46 ?_
        refine gx_goto (tgt := 51) dX12_counts_47 (by decide) ?_
        refine gx_sub (ls2 := [(0, .ref v0), (2, .int (gI v2)), (4, .int (gI v4))]) [0, 1, 3] rfl ?_
        exact zb_X12_counts_51 hr13 e
    · refine gy_if_ne (tgt := 50) (gi_rgS g7) dX12_counts_23 (by decide) (fun _ => ?_) (fun z => absurd z c8)
      refine gx_sub (ls2 := [(0, .ref v0), (2, .int (gI v2)), (4, .int (gI v4))]) [0, 1, 3] rfl ?_
      exact zb_X12_counts_50 hr13 e
def l_X12_counts_13 (n : Nat)  : Nat → Nat → Int → Int → Int → gi_H → Option (Int × gi_H)
  | 0, _, _, _, _, _ => none
  | k + 1, v0, v2, v3, v4, h => b_X12_counts_13 n  (l_X12_counts_13 n  k) v0 v2 v3 v4 h
theorem zl_X12_counts_13 {al : Bool} {n : Nat}  {res : Int} {h1 : gi_H}  : ∀ (k : Nat) (v0 : Nat) (v2 : Int) (v3 : Int) (v4 : Int) (h : gi_H), l_X12_counts_13 n  k v0 v2 v3 v4 h = some (res, h1) → gx_Z mX12_counts al al 0 0 13 [(0, .ref v0), (2, .int (gI v2)), (3, .int (gI v3)), (4, .int (gI v4))] [] (gi_cv h) (.inl (some (.int (gI res)))) (gi_cv h1)
  | 0, _, _, _, _, _, e => gx_0E e
  | k + 1, _, _, _, _, _, e => zb_X12_counts_13 (n := n)  (zl_X12_counts_13  k) e
set_option maxRecDepth 100000 in
def b_X12_counts_132 (n : Nat)  (v3 : Int) (v4 : Int)  (h : gi_H) : Option (Int × gi_H) :=
  Option.bind (gi_rg v4) fun _ => if v4 = (-2 : Int) then (some ((-2 : Int), h)) else (some (v3, h))
set_option maxRecDepth 100000 in
theorem zb_X12_counts_132 {al : Bool} {n : Nat}  {res : Int} {h1 : gi_H}  {v3 : Int} {v4 : Int}  {h : gi_H} (e : b_X12_counts_132 n v3 v4 h = some (res, h1)) : gx_Z mX12_counts al al 0 0 132 [(3, .int (gI v3)), (4, .int (gI v4))] [] (gi_cv h) (.inl (some (.int (gI res)))) (gi_cv h1) := by
  refine gx_iload dX12_counts_132 1 rfl ?_
  refine gy_bipush dX12_counts_134 gcb_m2 ?_
  refine gx_bE e (fun _ g22 e => ?_)
  refine gx_iE e (fun c23 e => ?_) (fun c23 e => ?_)
  · refine gy_icmp_ne (tgt := 144) (gi_rgS g22) (by decide) dX12_counts_136 (by decide) (fun z => absurd c23 z) (fun _ => ?_)
    refine gy_bipush dX12_counts_139 gcb_m2 ?_
    refine gx_goto (tgt := 145) dX12_counts_141 (by decide) ?_
    cases e
    exact gx_iret dX12_counts_145 rfl ⟨Nat.le_of_ble_eq_true rfl, Nat.le_of_ble_eq_true rfl⟩ (fun z => z)
  · refine gy_icmp_ne (tgt := 144) (gi_rgS g22) (by decide) dX12_counts_136 (by decide) (fun _ => ?_) (fun z => absurd z c23)
    refine gx_iload_n dX12_counts_144 rfl 0 rfl ?_
    cases e
    exact gx_iret dX12_counts_145 rfl ⟨Nat.le_of_ble_eq_true rfl, Nat.le_of_ble_eq_true rfl⟩ (fun z => z)
set_option maxRecDepth 100000 in
def b_X12_counts_124 (n : Nat) (r71 : Nat → Int → Int → Int → Int → Int → gi_H → Option (Int × gi_H)) (v0 : Nat) (v1 : Int) (v2 : Int) (v4 : Int) (v5 : Int) (s0 : Int) (s1 : Int) (h : gi_H) : Option (Int × gi_H) :=
  gx_nm (s0 + s1) fun t30 => gx_nm (v5 + (1 : Int)) fun t31 => r71 v0 v1 v2 t30 v4 t31 h
set_option maxRecDepth 100000 in
theorem zb_X12_counts_124 {al : Bool} {n : Nat} {r71 : Nat → Int → Int → Int → Int → Int → gi_H → Option (Int × gi_H)} {res : Int} {h1 : gi_H} (hr71 : ∀ (x0 : Nat) (x1 : Int) (x2 : Int) (x3 : Int) (x4 : Int) (x5 : Int) (hh : gi_H), r71 x0 x1 x2 x3 x4 x5 hh = some (res, h1) → gx_Z mX12_counts al al 0 0 71 [(0, .ref x0), (1, .int (gI x1)), (2, .int (gI x2)), (3, .int (gI x3)), (4, .int (gI x4)), (5, .int (gI x5))] [] (gi_cv hh) (.inl (some (.int (gI res)))) (gi_cv h1)) {v0 : Nat} {v1 : Int} {v2 : Int} {v4 : Int} {v5 : Int} {s0 : Int} {s1 : Int} {h : gi_H} (e : b_X12_counts_124 n r71 v0 v1 v2 v4 v5 s0 s1 h = some (res, h1)) : gx_Z mX12_counts al al 0 0 124 [(0, .ref v0), (1, .int (gI v1)), (2, .int (gI v2)), (4, .int (gI v4)), (5, .int (gI v5))] [.int (gI s1), .int (gI s0)] (gi_cv h) (.inl (some (.int (gI res)))) (gi_cv h1) := by
  refine gy_iadd dX12_counts_124 ?_
  refine gx_nE e (fun t30 ht30 e => ?_)
  rw [ht30]
  refine gx_istore_n (ls2 := [(3, .int (gI t30)), (0, .ref v0), (1, .int (gI v1)), (2, .int (gI v2)), (4, .int (gI v4)), (5, .int (gI v5))]) dX12_counts_125 rfl (Nat.le_of_ble_eq_true rfl) rfl ?_
  refine gx_nE e (fun t31 ht31 e => ?_)
  refine gy_iinc (v := t31) (ls2 := [(5, .int (gI t31)), (3, .int (gI t30)), (0, .ref v0), (1, .int (gI v1)), (2, .int (gI v2)), (4, .int (gI v4))]) dX12_counts_126 5 rfl ht31 (Nat.le_of_ble_eq_true rfl) rfl ?_
  refine gx_goto (tgt := 71) dX12_counts_129 (by decide) ?_
  refine gx_sub (ls2 := [(0, .ref v0), (1, .int (gI v1)), (2, .int (gI v2)), (3, .int (gI t30)), (4, .int (gI v4)), (5, .int (gI t31))]) [2, 3, 4, 1, 5, 0] rfl ?_
  exact hr71 _ _ _ _ _ _ _ e
set_option maxRecDepth 100000 in
def b_X12_counts_119 (n : Nat) (r71 : Nat → Int → Int → Int → Int → Int → gi_H → Option (Int × gi_H)) (v0 : Nat) (v1 : Int) (v2 : Int) (v4 : Int) (v5 : Int) (s0 : Int) (h : gi_H) : Option (Int × gi_H) :=
  b_X12_counts_124 n r71 v0 v1 v2 v4 v5 s0 (1 : Int) h
set_option maxRecDepth 100000 in
theorem zb_X12_counts_119 {al : Bool} {n : Nat} {r71 : Nat → Int → Int → Int → Int → Int → gi_H → Option (Int × gi_H)} {res : Int} {h1 : gi_H} (hr71 : ∀ (x0 : Nat) (x1 : Int) (x2 : Int) (x3 : Int) (x4 : Int) (x5 : Int) (hh : gi_H), r71 x0 x1 x2 x3 x4 x5 hh = some (res, h1) → gx_Z mX12_counts al al 0 0 71 [(0, .ref x0), (1, .int (gI x1)), (2, .int (gI x2)), (3, .int (gI x3)), (4, .int (gI x4)), (5, .int (gI x5))] [] (gi_cv hh) (.inl (some (.int (gI res)))) (gi_cv h1)) {v0 : Nat} {v1 : Int} {v2 : Int} {v4 : Int} {v5 : Int} {s0 : Int} {h : gi_H} (e : b_X12_counts_119 n r71 v0 v1 v2 v4 v5 s0 h = some (res, h1)) : gx_Z mX12_counts al al 0 0 119 [(0, .ref v0), (1, .int (gI v1)), (2, .int (gI v2)), (4, .int (gI v4)), (5, .int (gI v5))] [.int (gI s0)] (gi_cv h) (.inl (some (.int (gI res)))) (gi_cv h1) := by
  refine gy_iconst dX12_counts_119 ?_
  refine gx_goto (tgt := 124) dX12_counts_120 (by decide) ?_
  exact zb_X12_counts_124 hr71 e
set_option maxRecDepth 100000 in
def b_X12_counts_123 (n : Nat) (r71 : Nat → Int → Int → Int → Int → Int → gi_H → Option (Int × gi_H)) (v0 : Nat) (v1 : Int) (v2 : Int) (v4 : Int) (v5 : Int) (s0 : Int) (h : gi_H) : Option (Int × gi_H) :=
  b_X12_counts_124 n r71 v0 v1 v2 v4 v5 s0 (0 : Int) h
set_option maxRecDepth 100000 in
theorem zb_X12_counts_123 {al : Bool} {n : Nat} {r71 : Nat → Int → Int → Int → Int → Int → gi_H → Option (Int × gi_H)} {res : Int} {h1 : gi_H} (hr71 : ∀ (x0 : Nat) (x1 : Int) (x2 : Int) (x3 : Int) (x4 : Int) (x5 : Int) (hh : gi_H), r71 x0 x1 x2 x3 x4 x5 hh = some (res, h1) → gx_Z mX12_counts al al 0 0 71 [(0, .ref x0), (1, .int (gI x1)), (2, .int (gI x2)), (3, .int (gI x3)), (4, .int (gI x4)), (5, .int (gI x5))] [] (gi_cv hh) (.inl (some (.int (gI res)))) (gi_cv h1)) {v0 : Nat} {v1 : Int} {v2 : Int} {v4 : Int} {v5 : Int} {s0 : Int} {h : gi_H} (e : b_X12_counts_123 n r71 v0 v1 v2 v4 v5 s0 h = some (res, h1)) : gx_Z mX12_counts al al 0 0 123 [(0, .ref v0), (1, .int (gI v1)), (2, .int (gI v2)), (4, .int (gI v4)), (5, .int (gI v5))] [.int (gI s0)] (gi_cv h) (.inl (some (.int (gI res)))) (gi_cv h1) := by
  refine gy_iconst dX12_counts_123 ?_
  exact zb_X12_counts_124 hr71 e
set_option maxRecDepth 100000 in
def b_X12_counts_71 (n : Nat) (r71 : Nat → Int → Int → Int → Int → Int → gi_H → Option (Int × gi_H)) (v0 : Nat) (v1 : Int) (v2 : Int) (v3 : Int) (v4 : Int) (v5 : Int)  (h : gi_H) : Option (Int × gi_H) :=
  Option.bind (gi_rg v5) fun _ => Option.bind (gi_rg ((9 : Int) * v4)) fun _ => if ((9 : Int) * v4) ≤ v5 then (b_X12_counts_132 n  v3 v4 h) else (Option.bind (gi_dg v5 (9 : Int)) fun _ => Option.bind (gi_dg v5 (9 : Int)) fun _ => Option.bind (gi_is h v0 10) fun _ => Option.bind (f_X12_cell n v0 v1 (v5 / (9 : Int)) (v5 % (9 : Int)) h) fun q27 => Option.bind (gi_rg q27) fun _ => if (20000 : Int) ≤ q27 then (b_X12_counts_119 n r71 v0 v1 v2 v4 v5 v3 h) else (Option.bind (gi_rg v2) fun _ => if v2 = 0 then (if q27 < (10000 : Int) then (b_X12_counts_123 n r71 v0 v1 v2 v4 v5 v3 h) else (b_X12_counts_119 n r71 v0 v1 v2 v4 v5 v3 h)) else (b_X12_counts_123 n r71 v0 v1 v2 v4 v5 v3 h)))
set_option maxRecDepth 100000 in
theorem zb_X12_counts_71 {al : Bool} {n : Nat} {r71 : Nat → Int → Int → Int → Int → Int → gi_H → Option (Int × gi_H)} {res : Int} {h1 : gi_H} (hr71 : ∀ (x0 : Nat) (x1 : Int) (x2 : Int) (x3 : Int) (x4 : Int) (x5 : Int) (hh : gi_H), r71 x0 x1 x2 x3 x4 x5 hh = some (res, h1) → gx_Z mX12_counts al al 0 0 71 [(0, .ref x0), (1, .int (gI x1)), (2, .int (gI x2)), (3, .int (gI x3)), (4, .int (gI x4)), (5, .int (gI x5))] [] (gi_cv hh) (.inl (some (.int (gI res)))) (gi_cv h1)) {v0 : Nat} {v1 : Int} {v2 : Int} {v3 : Int} {v4 : Int} {v5 : Int}  {h : gi_H} (e : b_X12_counts_71 n r71 v0 v1 v2 v3 v4 v5 h = some (res, h1)) : gx_Z mX12_counts al al 0 0 71 [(0, .ref v0), (1, .int (gI v1)), (2, .int (gI v2)), (3, .int (gI v3)), (4, .int (gI v4)), (5, .int (gI v5))] [] (gi_cv h) (.inl (some (.int (gI res)))) (gi_cv h1) := by
  refine gx_iload dX12_counts_71 5 rfl ?_
  refine gy_bipush dX12_counts_73 gcb_9 ?_
  refine gx_iload dX12_counts_75 4 rfl ?_
  refine gy_imul dX12_counts_77 ?_
  refine gx_bE e (fun _ g19 e => ?_)
  refine gx_bE e (fun _ g20 e => ?_)
  refine gx_iE e (fun c21 e => ?_) (fun c21 e => ?_)
  · refine gy_icmp_ge (tgt := 132) (gi_rgS g19) (gi_rgS g20) dX12_counts_78 (by decide) (fun _ => ?_) (fun z => absurd c21 z)
    refine gx_sub (ls2 := [(3, .int (gI v3)), (4, .int (gI v4))]) [3, 4] rfl ?_
    exact zb_X12_counts_132  e
  · refine gy_icmp_ge (tgt := 132) (gi_rgS g19) (gi_rgS g20) dX12_counts_78 (by decide) (fun z => absurd z c21) (fun _ => ?_)
    refine gx_aload_n dX12_counts_81 rfl 0 rfl ?_
    refine gx_iload_n dX12_counts_82 rfl 1 rfl ?_
    refine gx_iload dX12_counts_83 5 rfl ?_
    refine gy_bipush dX12_counts_85 gcb_9 ?_
    refine gx_bE e (fun _ hu24 e => ?_)
    refine gy_idiv hu24 dX12_counts_87 ?_
    refine gx_iload dX12_counts_88 5 rfl ?_
    refine gy_bipush dX12_counts_90 gcb_9 ?_
    refine gx_bE e (fun _ hu25 e => ?_)
    refine gy_irem hu25 dX12_counts_92 ?_
    refine gx_bE e (fun _ hu26 e => ?_)
    refine gx_bE e (fun q27 hq27 e => ?_)
    refine gx_callV (n := 3) (st := []) (As := [.int (gI v1), .int (gI (v5 / (9 : Int))), .int (gI (v5 % (9 : Int)))]) (b := v0) dX12_counts_93 (z_X12_cell hq27) rfl ⟨rfl, gw_cw_X12_cell, gw_14, gp_X12_cell, ⟨Nat.le_of_ble_eq_true rfl, Nat.le_of_ble_eq_true rfl⟩⟩ (gi_isS hu26) (by decide) gw_1711 gw_1713 gs_93 rfl ⟨Nat.le_of_ble_eq_true rfl, Nat.le_of_ble_eq_true rfl⟩ (Nat.le_of_ble_eq_true rfl) (gy_k1 (x := .int (gI q27)) (kc2 := 0) (ks2 := 0) ⟨rfl, rfl⟩ ?_) gy_kn
    refine gx_istore (ls2 := [(6, .int (gI q27)), (0, .ref v0), (1, .int (gI v1)), (2, .int (gI v2)), (3, .int (gI v3)), (4, .int (gI v4)), (5, .int (gI v5))]) dX12_counts_96 (Nat.le_of_ble_eq_true rfl) rfl ?_
    refine gx_iload_n dX12_counts_98 rfl 4 rfl ?_
    refine gx_iload dX12_counts_99 0 rfl ?_
    refine gy_sipush dX12_counts_101 gcs_20000 ?_
    refine gx_bE e (fun _ g28 e => ?_)
    refine gx_iE e (fun c29 e => ?_) (fun c29 e => ?_)
    · refine gy_icmp_ge (tgt := 119) (gi_rgS g28) (by decide) dX12_counts_104 (by decide) (fun _ => ?_) (fun z => absurd c29 z)
      refine gx_sub (ls2 := [(0, .ref v0), (1, .int (gI v1)), (2, .int (gI v2)), (4, .int (gI v4)), (5, .int (gI v5))]) [1, 2, 3, 5, 6] rfl ?_
      exact zb_X12_counts_119 hr71 e
    · refine gy_icmp_ge (tgt := 119) (gi_rgS g28) (by decide) dX12_counts_104 (by decide) (fun z => absurd z c29) (fun _ => ?_)
      refine gx_iload_n dX12_counts_107 rfl 3 rfl ?_
      refine gx_bE e (fun _ g32 e => ?_)
      refine gx_iE e (fun c33 e => ?_) (fun c33 e => ?_)
      · refine gy_if_ne (tgt := 123) (gi_rgS g32) dX12_counts_108 (by decide) (fun z => absurd c33 z) (fun _ => ?_)
        refine gx_iload dX12_counts_111 0 rfl ?_
        refine gy_sipush dX12_counts_113 gcs_10000 ?_
        refine gx_iE e (fun c34 e => ?_) (fun c34 e => ?_)
        · refine gy_icmp_lt (tgt := 123) (gi_rgS g28) (by decide) dX12_counts_116 (by decide) (fun _ => ?_) (fun z => absurd c34 z)
          refine gx_sub (ls2 := [(0, .ref v0), (1, .int (gI v1)), (2, .int (gI v2)), (4, .int (gI v4)), (5, .int (gI v5))]) [1, 2, 3, 5, 6] rfl ?_
          exact zb_X12_counts_123 hr71 e
        · refine gy_icmp_lt (tgt := 123) (gi_rgS g28) (by decide) dX12_counts_116 (by decide) (fun z => absurd z c34) (fun _ => ?_)
          refine gx_sub (ls2 := [(0, .ref v0), (1, .int (gI v1)), (2, .int (gI v2)), (4, .int (gI v4)), (5, .int (gI v5))]) [1, 2, 3, 5, 6] rfl ?_
          exact zb_X12_counts_119 hr71 e
      · refine gy_if_ne (tgt := 123) (gi_rgS g32) dX12_counts_108 (by decide) (fun _ => ?_) (fun z => absurd z c33)
        refine gx_sub (ls2 := [(0, .ref v0), (1, .int (gI v1)), (2, .int (gI v2)), (4, .int (gI v4)), (5, .int (gI v5))]) [1, 2, 3, 5, 6] rfl ?_
        exact zb_X12_counts_123 hr71 e
def l_X12_counts_71 (n : Nat)  : Nat → Nat → Int → Int → Int → Int → Int → gi_H → Option (Int × gi_H)
  | 0, _, _, _, _, _, _, _ => none
  | k + 1, v0, v1, v2, v3, v4, v5, h => b_X12_counts_71 n  (l_X12_counts_71 n  k) v0 v1 v2 v3 v4 v5 h
theorem zl_X12_counts_71 {al : Bool} {n : Nat}  {res : Int} {h1 : gi_H}  : ∀ (k : Nat) (v0 : Nat) (v1 : Int) (v2 : Int) (v3 : Int) (v4 : Int) (v5 : Int) (h : gi_H), l_X12_counts_71 n  k v0 v1 v2 v3 v4 v5 h = some (res, h1) → gx_Z mX12_counts al al 0 0 71 [(0, .ref v0), (1, .int (gI v1)), (2, .int (gI v2)), (3, .int (gI v3)), (4, .int (gI v4)), (5, .int (gI v5))] [] (gi_cv h) (.inl (some (.int (gI res)))) (gi_cv h1)
  | 0, _, _, _, _, _, _, _, e => gx_0E e
  | k + 1, _, _, _, _, _, _, _, e => zb_X12_counts_71 (n := n)  (zl_X12_counts_71  k) e
set_option maxRecDepth 100000 in
def f_X12_counts (n : Nat) (v0 : Nat) (v1 : Int) (v2 : Int) (h : gi_H) : Option (Int × gi_H) :=
  Option.bind (gi_rg v1) fun _ => if v1 = 0 then (Option.bind (gi_is h v0 10) fun _ => Option.bind (f_X12_finds n v0 h) fun q4 => l_X12_counts_13 n  n v0 v2 (0 : Int) (0 : Int) q4) else (Option.bind (gi_is h v0 10) fun _ => Option.bind (f_X12_states n v0 v1 h) fun q18 => l_X12_counts_71 n  n v0 v1 v2 (0 : Int) q18.1 (0 : Int) q18.2)
set_option maxRecDepth 100000 in
theorem z_X12_counts {al : Bool} {n : Nat} {v0 : Nat} {v1 : Int} {v2 : Int} {h : gi_H} {res : Int} {h1 : gi_H} (e : f_X12_counts n v0 v1 v2 h = some (res, h1)) : gx_Cw mX12_counts al [.ref v0, .int (gI v1), .int (gI v2)] (gi_cv h) (.inl (some (.int (gI res)))) (gi_cv h1) := by
  refine gx_enter (by decide +kernel) rfl (Nat.le_of_ble_eq_true rfl) ?_
  show gx_Z mX12_counts al al 0 0 0 [(0, .ref v0), (1, .int (gI v1)), (2, .int (gI v2))] [] (gi_cv h) (.inl (some (.int (gI res)))) (gi_cv h1)
  refine gy_iconst dX12_counts_0 ?_
  refine gx_istore_n (ls2 := [(3, .int (gI (0 : Int))), (0, .ref v0), (1, .int (gI v1)), (2, .int (gI v2))]) dX12_counts_1 rfl (Nat.le_of_ble_eq_true rfl) rfl ?_
  refine gx_iload_n dX12_counts_2 rfl 2 rfl ?_
  refine gx_bE e (fun _ g1 e => ?_)
  refine gx_iE e (fun c2 e => ?_) (fun c2 e => ?_)
  · refine gy_if_ne (tgt := 61) (gi_rgS g1) dX12_counts_3 (by decide) (fun z => absurd c2 z) (fun _ => ?_)
    refine gx_aload_n dX12_counts_6 rfl 1 rfl ?_
    refine gx_bE e (fun _ hu3 e => ?_)
    refine gx_bE e (fun q4 hq4 e => ?_)
    refine gx_callV (n := 0) (st := []) (As := []) (b := v0) dX12_counts_7 (z_X12_finds hq4) rfl ⟨rfl, gw_cw_X12_finds, gw_14, gp_X12_finds, ⟨Nat.le_of_ble_eq_true rfl, Nat.le_of_ble_eq_true rfl⟩⟩ (gi_isS hu3) (by decide) gw_1587 gw_1589 gs_72 rfl ⟨Nat.le_of_ble_eq_true rfl, Nat.le_of_ble_eq_true rfl⟩ (Nat.le_of_ble_eq_true rfl) (gy_k0 (kc2 := 0) (ks2 := 0) ⟨rfl, rfl⟩ ?_) gy_kn
    refine gy_iconst dX12_counts_10 ?_
    refine gx_istore (ls2 := [(4, .int (gI (0 : Int))), (3, .int (gI (0 : Int))), (0, .ref v0), (1, .int (gI v1)), (2, .int (gI v2))]) dX12_counts_11 (Nat.le_of_ble_eq_true rfl) rfl ?_
    refine gx_sub (ls2 := [(0, .ref v0), (2, .int (gI v2)), (3, .int (gI (0 : Int))), (4, .int (gI (0 : Int)))]) [2, 4, 1, 0] rfl ?_
    exact zl_X12_counts_13  n _ _ _ _ _ e
  · refine gy_if_ne (tgt := 61) (gi_rgS g1) dX12_counts_3 (by decide) (fun _ => ?_) (fun z => absurd z c2)
    refine gx_aload_n dX12_counts_61 rfl 1 rfl ?_
    refine gx_iload_n dX12_counts_62 rfl 2 rfl ?_
    refine gx_bE e (fun _ hu17 e => ?_)
    refine gx_bE e (fun q18 hq18 e => ?_)
    refine gx_callV (n := 1) (st := []) (As := [.int (gI v1)]) (b := v0) dX12_counts_63 (z_X12_states hq18) rfl ⟨rfl, gw_cw_X12_states, gw_14, gp_X12_states, ⟨Nat.le_of_ble_eq_true rfl, Nat.le_of_ble_eq_true rfl⟩⟩ (gi_isS hu17) (by decide) gw_1652 gw_1654 gs_80 rfl ⟨Nat.le_of_ble_eq_true rfl, Nat.le_of_ble_eq_true rfl⟩ (Nat.le_of_ble_eq_true rfl) (gy_k1 (x := .int (gI q18.1)) (kc2 := 0) (ks2 := 0) ⟨rfl, rfl⟩ ?_) gy_kn
    refine gx_istore (ls2 := [(4, .int (gI q18.1)), (3, .int (gI (0 : Int))), (0, .ref v0), (1, .int (gI v1)), (2, .int (gI v2))]) dX12_counts_66 (Nat.le_of_ble_eq_true rfl) rfl ?_
    refine gy_iconst dX12_counts_68 ?_
    refine gx_istore (ls2 := [(5, .int (gI (0 : Int))), (4, .int (gI q18.1)), (3, .int (gI (0 : Int))), (0, .ref v0), (1, .int (gI v1)), (2, .int (gI v2))]) dX12_counts_69 (Nat.le_of_ble_eq_true rfl) rfl ?_
    refine gx_sub (ls2 := [(0, .ref v0), (1, .int (gI v1)), (2, .int (gI v2)), (3, .int (gI (0 : Int))), (4, .int (gI q18.1)), (5, .int (gI (0 : Int)))]) [3, 4, 5, 2, 1, 0] rfl ?_
    exact zl_X12_counts_71  n _ _ _ _ _ _ _ e
