/-! X4_dropLastRule  -/
set_option maxRecDepth 100000 in
def f_X4_dropLastRule (v0 : Nat) (h : gi_H) : Option (Int × gi_H) :=
  Option.bind (gi_gI h v0 3 6) fun t1 => Option.bind (gi_rg t1) fun _ => if t1 ≤ 0 then (some ((0 : Int), h)) else (Option.bind (gi_gI h v0 3 6) fun t4 => Option.bind (gi_rg t4) fun _ => if t4 ≤ (24 : Int) then (Option.bind (gi_gI h v0 3 6) fun t7 => Option.bind (gi_pI h v0 3 6 (t7 - (1 : Int))) fun h8 => Option.bind (gi_gR h8 v0 3 5) fun t9 => Option.bind (gi_gI h8 v0 3 6) fun t10 => Option.bind (gi_aI h8 1 t9 t10) fun t11 => Option.bind (gi_pI h8 v0 3 3 t11) fun h12 => some ((1 : Int), h12)) else (some ((0 : Int), h)))
set_option maxRecDepth 100000 in
theorem z_X4_dropLastRule {al : Bool} {v0 : Nat} {h : gi_H} {res : Int} {h1 : gi_H} (e : f_X4_dropLastRule v0 h = some (res, h1)) : gx_Cw mX4_dropLastRule al [.ref v0] (gi_cv h) (.inl (some (.int (gI res)))) (gi_cv h1) := by
  refine gx_enter (by decide +kernel) rfl (Nat.le_of_ble_eq_true rfl) ?_
  show gx_Z mX4_dropLastRule al al 0 0 0 [(0, .ref v0)] [] (gi_cv h) (.inl (some (.int (gI res)))) (gi_cv h1)
  refine gx_aload_n dX4_dropLastRule_0 rfl 0 rfl ?_
  refine gx_bE e (fun t1 ht1 e => ?_)
  refine gy_fI ht1 dX4_dropLastRule_1 gf_RX4_46_3_6 (by decide) gkN_3_6 gkR_3_6 ?_
  refine gx_bE e (fun _ g2 e => ?_)
  refine gx_iE e (fun c3 e => ?_) (fun c3 e => ?_)
  · refine gy_if_le (tgt := 16) (gi_rgS g2) dX4_dropLastRule_4 (by decide) (fun _ => ?_) (fun z => absurd c3 z)
    refine gy_iconst dX4_dropLastRule_16 ?_
    cases e
    exact gx_zret (by decide +kernel) dX4_dropLastRule_17 rfl ⟨Nat.le_of_ble_eq_true rfl, Nat.le_of_ble_eq_true rfl⟩ (fun z => z)
  · refine gy_if_le (tgt := 16) (gi_rgS g2) dX4_dropLastRule_4 (by decide) (fun z => absurd z c3) (fun _ => ?_)
    refine gx_aload_n dX4_dropLastRule_7 rfl 0 rfl ?_
    refine gx_bE e (fun t4 ht4 e => ?_)
    refine gy_fI ht4 dX4_dropLastRule_8 gf_RX4_46_3_6 (by decide) gkN_3_6 gkR_3_6 ?_
    refine gy_bipush dX4_dropLastRule_11 gcb_24 ?_
    refine gx_bE e (fun _ g5 e => ?_)
    refine gx_iE e (fun c6 e => ?_) (fun c6 e => ?_)
    · refine gy_icmp_le (tgt := 18) (gi_rgS g5) (by decide) dX4_dropLastRule_13 (by decide) (fun _ => ?_) (fun z => absurd c6 z)
      refine gx_aload_n dX4_dropLastRule_18 rfl 0 rfl ?_
      refine gx_dup dX4_dropLastRule_19 rfl ?_
      refine gx_bE e (fun t7 ht7 e => ?_)
      refine gy_fI ht7 dX4_dropLastRule_20 gf_RX4_46_3_6 (by decide) gkN_3_6 gkR_3_6 ?_
      refine gy_iconst dX4_dropLastRule_23 ?_
      refine gy_isub dX4_dropLastRule_24 ?_
      refine gx_bE e (fun h8 hh8 e => ?_)
      refine gy_qI hh8 dX4_dropLastRule_25 gf_RX4_46_3_6 (by decide) gkN_3_6 rfl (Or.inl rfl) ?_
      refine gx_aload_n dX4_dropLastRule_28 rfl 0 rfl ?_
      refine gx_aload_n dX4_dropLastRule_29 rfl 0 rfl ?_
      refine gx_bE e (fun t9 ht9 e => ?_)
      refine gy_fR ht9 dX4_dropLastRule_30 gf_RX4_27_3_5 (by decide) gkN_3_5 gkR_3_5 ?_
      refine gx_aload_n dX4_dropLastRule_33 rfl 0 rfl ?_
      refine gx_bE e (fun t10 ht10 e => ?_)
      refine gy_fI ht10 dX4_dropLastRule_34 gf_RX4_46_3_6 (by decide) gkN_3_6 gkR_3_6 ?_
      refine gx_bE e (fun t11 ht11 e => ?_)
      refine gy_l1 ht11 dX4_dropLastRule_37 ?_
      refine gx_bE e (fun h12 hh12 e => ?_)
      refine gy_qI hh12 dX4_dropLastRule_38 gf_RX4_42_3_3 (by decide) gkN_3_3 rfl (Or.inl rfl) ?_
      refine gy_iconst dX4_dropLastRule_41 ?_
      cases e
      exact gx_zret (by decide +kernel) dX4_dropLastRule_42 rfl ⟨Nat.le_of_ble_eq_true rfl, Nat.le_of_ble_eq_true rfl⟩ (fun z => z)
    · refine gy_icmp_le (tgt := 18) (gi_rgS g5) (by decide) dX4_dropLastRule_13 (by decide) (fun z => absurd z c6) (fun _ => ?_)
      refine gy_iconst dX4_dropLastRule_16 ?_
      cases e
      exact gx_zret (by decide +kernel) dX4_dropLastRule_17 rfl ⟨Nat.le_of_ble_eq_true rfl, Nat.le_of_ble_eq_true rfl⟩ (fun z => z)
/-! X11_undo  -/
set_option maxRecDepth 100000 in
def f_X11_undo (v0 : Nat) (h : gi_H) : Option ((Int ⊕ String) × gi_H) :=
  Option.bind (gi_gR h v0 9 1) fun t1 => Option.bind (gi_is h t1 3) fun _ => Option.bind (f_X4_dropLastRule t1 h) fun q3 => Option.bind (gi_rg q3.1) fun _ => if q3.1 = 0 then (some (.inr gx_ISE, q3.2)) else (Option.bind (gi_is q3.2 v0 9) fun _ => Option.bind (f_X11_forget v0 q3.2) fun q7 => Option.bind (gi_gR q7 v0 9 1) fun t8 => Option.bind (gi_is q7 t8 3) fun _ => Option.bind (f_X4_count t8 q7) fun q10 => some (.inl q10, q7))
set_option maxRecDepth 100000 in
theorem z_X11_undo {v0 : Nat} {h : gi_H} {res : Int ⊕ String} {h1 : gi_H} (e : f_X11_undo v0 h = some (res, h1)) : gx_Cw mX11_undo false [.ref v0] (gi_cv h) (gx_oI res) (gi_cv h1) := by
  refine gx_enter (by decide +kernel) rfl (Nat.le_of_ble_eq_true rfl) ?_
  show gx_Z mX11_undo false false 0 0 0 [(0, .ref v0)] [] (gi_cv h) (gx_oI res) (gi_cv h1)
  refine gx_aload_n dX11_undo_0 rfl 0 rfl ?_
  refine gx_bE e (fun t1 ht1 e => ?_)
  refine gy_fR ht1 dX11_undo_1 gf_RX11_35_9_1 (by decide) gkN_9_1 gkR_9_1 ?_
  refine gx_bE e (fun _ hu2 e => ?_)
  refine gx_bE e (fun q3 hq3 e => ?_)
  refine gx_callV (n := 0) (st := []) (As := []) (b := t1) dX11_undo_4 (z_X4_dropLastRule hq3) rfl ⟨rfl, gw_cw_X4_dropLastRule, gw_3, gp_X4_dropLastRule, ⟨Nat.le_of_ble_eq_true rfl, Nat.le_of_ble_eq_true rfl⟩⟩ (gi_isS hu2) (by decide) gw_840 gw_841 gw_842 rfl ⟨Nat.le_of_ble_eq_true rfl, Nat.le_of_ble_eq_true rfl⟩ (Nat.le_of_ble_eq_true rfl) (gy_k1 (x := .int (gI q3.1)) (kc2 := 0) (ks2 := 0) ⟨rfl, rfl⟩ ?_) gy_kn
  refine gx_bE e (fun _ g4 e => ?_)
  refine gx_iE e (fun c5 e => ?_) (fun c5 e => ?_)
  · refine gy_if_ne (tgt := 20) (gi_rgS g4) dX11_undo_7 (by decide) (fun z => absurd c5 z) (fun _ => ?_)
    cases e
    exact gx_throw rfl gt_116_149_120 rfl dX11_undo_10 dX11_undo_13 dX11_undo_14 dX11_undo_16 dX11_undo_19 (Nat.le_of_ble_eq_true rfl) (Nat.le_of_ble_eq_true rfl) ⟨Nat.le_of_ble_eq_true rfl, Nat.le_of_ble_eq_true rfl⟩
  · refine gy_if_ne (tgt := 20) (gi_rgS g4) dX11_undo_7 (by decide) (fun _ => ?_) (fun z => absurd z c5)
    refine gx_aload_n dX11_undo_20 rfl 0 rfl ?_
    refine gx_bE e (fun _ hu6 e => ?_)
    refine gx_bE e (fun q7 hq7 e => ?_)
    refine gx_callV (n := 0) (st := []) (As := []) (b := v0) dX11_undo_21 (z_X11_forget hq7) rfl ⟨rfl, gw_cw_X11_forget, gw_1, gp_X11_forget, ⟨Nat.le_of_ble_eq_true rfl, Nat.le_of_ble_eq_true rfl⟩⟩ (gi_isS hu6) (by decide) gw_821 gw_823 gs_24 rfl ⟨Nat.le_of_ble_eq_true rfl, Nat.le_of_ble_eq_true rfl⟩ (Nat.le_of_ble_eq_true rfl) (gy_k0 (kc2 := 0) (ks2 := 0) ⟨rfl, rfl⟩ ?_) gy_kn
    refine gx_aload_n dX11_undo_24 rfl 0 rfl ?_
    refine gx_bE e (fun t8 ht8 e => ?_)
    refine gy_fR ht8 dX11_undo_25 gf_RX11_35_9_1 (by decide) gkN_9_1 gkR_9_1 ?_
    refine gx_bE e (fun _ hu9 e => ?_)
    refine gx_bE e (fun q10 hq10 e => ?_)
    refine gx_callV (n := 0) (st := []) (As := []) (b := t8) dX11_undo_28 (z_X4_count hq10) rfl ⟨rfl, gw_cw_X4_count, gw_3, gp_X4_count, ⟨Nat.le_of_ble_eq_true rfl, Nat.le_of_ble_eq_true rfl⟩⟩ (gi_isS hu9) (by decide) gw_383 gw_384 gw_385 rfl ⟨Nat.le_of_ble_eq_true rfl, Nat.le_of_ble_eq_true rfl⟩ (Nat.le_of_ble_eq_true rfl) (gy_k1 (x := .int (gI q10)) (kc2 := 0) (ks2 := 0) ⟨rfl, rfl⟩ ?_) gy_kn
    cases e
    exact gx_iret dX11_undo_31 rfl ⟨Nat.le_of_ble_eq_true rfl, Nat.le_of_ble_eq_true rfl⟩ (fun z => z)
/-! L_undo  -/
set_option maxRecDepth 100000 in
def f_L_undo (v0 : Nat) (h : gi_H) : Option (Int × gi_H) :=
  Option.bind (gi_is h v0 9) fun _ => Option.bind (f_X11_undo v0 h) fun q2 => gx_sm q2.1 (fun t3 => some (t3, q2.2)) (fun t3 => if t3 = gx_ISE then (some ((-103 : Int), q2.2)) else (none))
set_option maxRecDepth 100000 in
theorem z_L_undo {v0 : Nat} {h : gi_H} {res : Int} {h1 : gi_H} (e : f_L_undo v0 h = some (res, h1)) : gx_Cw mL_undo false [.ref v0] (gi_cv h) (.inl (some (.int (gI res)))) (gi_cv h1) := by
  refine gx_enter (by decide +kernel) rfl (Nat.le_of_ble_eq_true rfl) ?_
  show gx_Z mL_undo false false 0 0 0 [(0, .ref v0)] [] (gi_cv h) (.inl (some (.int (gI res)))) (gi_cv h1)
  refine gx_aload_n dL_undo_0 rfl 0 rfl ?_
  refine gx_bE e (fun _ hu1 e => ?_)
  refine gx_bE e (fun q2 hq2 e => ?_)
  refine gx_smE e (fun t3 ht3 e => ?_) (fun t3 ht3 e => ?_)
  · have zq2 := z_X11_undo hq2
    rw [ht3] at zq2
    refine gx_callV (n := 0) (st := []) (As := []) (b := v0) dL_undo_1 zq2 rfl ⟨rfl, gw_cw_X11_undo, gw_1, gp_X11_undo, ⟨Nat.le_of_ble_eq_true rfl, Nat.le_of_ble_eq_true rfl⟩⟩ (gi_isS hu1) (by decide) gw_836 gw_837 gw_838 rfl ⟨Nat.le_of_ble_eq_true rfl, Nat.le_of_ble_eq_true rfl⟩ (Nat.le_of_ble_eq_true rfl) (gy_k1 (x := .int (gI t3)) (kc2 := 1) (ks2 := 6) ⟨rfl, rfl⟩ ?_) gy_kn
    cases e
    exact gx_iret dL_undo_4 rfl ⟨Nat.le_of_ble_eq_true rfl, Nat.le_of_ble_eq_true rfl⟩ (fun z => z)
  · have zq2 := z_X11_undo hq2
    rw [ht3] at zq2
    refine gx_callV (n := 0) (st := []) (As := []) (b := v0) dL_undo_1 zq2 rfl ⟨rfl, gw_cw_X11_undo, gw_1, gp_X11_undo, ⟨Nat.le_of_ble_eq_true rfl, Nat.le_of_ble_eq_true rfl⟩⟩ (gi_isS hu1) (by decide) gw_836 gw_837 gw_838 rfl ⟨Nat.le_of_ble_eq_true rfl, Nat.le_of_ble_eq_true rfl⟩ (Nat.le_of_ble_eq_true rfl) gy_kN (gy_kE (kc2 := 1) (ks2 := 6) ⟨rfl, rfl⟩ ?_)
    refine gx_iE e (fun c4 e => ?_) (fun c4 e => ?_)
    · rw [c4]
      refine gx_catch (ls2 := [(0, .ref v0)]) [] (x := (0, 4, 5, 17)) rfl (fun z hz => by cases hz) (by decide +kernel) (by decide) gw_655 (by decide +kernel) (Nat.le_of_ble_eq_true rfl) (Or.inl ⟨1, rfl, rfl, dL_undo_5⟩) rfl ?_
      refine gy_bipush dL_undo_6 gcb_m103 ?_
      cases e
      exact gx_iret dL_undo_8 rfl ⟨Nat.le_of_ble_eq_true rfl, Nat.le_of_ble_eq_true rfl⟩ (fun z => z)
    cases e
/-! X11_use  -/
set_option maxRecDepth 100000 in
def b_X11_use_9    (h : gi_H) : Option ((Int ⊕ String) × gi_H) :=
  some (.inr gx_IOB, h)
set_option maxRecDepth 100000 in
theorem zb_X11_use_9  {res : Int ⊕ String} {h1 : gi_H}    {h : gi_H} (e : b_X11_use_9  h = some (res, h1)) : gx_Z mX11_use false false 0 0 9 [] [] (gi_cv h) (gx_oI res) (gi_cv h1) := by
  cases e
  exact gx_throw rfl gt_151_153_155 rfl dX11_use_9 dX11_use_12 dX11_use_13 dX11_use_15 dX11_use_18 (Nat.le_of_ble_eq_true rfl) (Nat.le_of_ble_eq_true rfl) ⟨Nat.le_of_ble_eq_true rfl, Nat.le_of_ble_eq_true rfl⟩
set_option maxRecDepth 100000 in
def f_X11_use (v0 : Nat) (v1 : Int) (h : gi_H) : Option ((Int ⊕ String) × gi_H) :=
  Option.bind (gi_rg v1) fun _ => if v1 < 0 then (b_X11_use_9   h) else (if v1 ≤ (1 : Int) then (Option.bind (gi_gI h v0 9 3) fun t4 => Option.bind (gi_rg t4) fun _ => if v1 = t4 then (some (.inl t4, h)) else (Option.bind (gi_gR h v0 9 1) fun t7 => Option.bind (gi_gR h v0 9 2) fun t8 => Option.bind (gi_pR h v0 9 1 t8) fun h9 => Option.bind (gi_pR h9 v0 9 2 t7) fun h10 => Option.bind (gi_pI h10 v0 9 3 v1) fun h11 => Option.bind (gi_is h11 v0 9) fun _ => Option.bind (f_X11_forget v0 h11) fun q13 => some (.inl t4, q13))) else (b_X11_use_9   h))
set_option maxRecDepth 100000 in
theorem z_X11_use {v0 : Nat} {v1 : Int} {h : gi_H} {res : Int ⊕ String} {h1 : gi_H} (e : f_X11_use v0 v1 h = some (res, h1)) : gx_Cw mX11_use false [.ref v0, .int (gI v1)] (gi_cv h) (gx_oI res) (gi_cv h1) := by
  refine gx_enter (by decide +kernel) rfl (Nat.le_of_ble_eq_true rfl) ?_
  show gx_Z mX11_use false false 0 0 0 [(0, .ref v0), (1, .int (gI v1))] [] (gi_cv h) (gx_oI res) (gi_cv h1)
  refine gx_iload_n dX11_use_0 rfl 1 rfl ?_
  refine gx_bE e (fun _ g1 e => ?_)
  refine gx_iE e (fun c2 e => ?_) (fun c2 e => ?_)
  · refine gy_if_lt (tgt := 9) (gi_rgS g1) dX11_use_1 (by decide) (fun _ => ?_) (fun z => absurd c2 z)
    refine gx_sub (ls2 := []) [] rfl ?_
    exact zb_X11_use_9  e
  · refine gy_if_lt (tgt := 9) (gi_rgS g1) dX11_use_1 (by decide) (fun z => absurd z c2) (fun _ => ?_)
    refine gx_iload_n dX11_use_4 rfl 1 rfl ?_
    refine gy_iconst dX11_use_5 ?_
    refine gx_iE e (fun c3 e => ?_) (fun c3 e => ?_)
    · refine gy_icmp_le (tgt := 19) (gi_rgS g1) (by decide) dX11_use_6 (by decide) (fun _ => ?_) (fun z => absurd c3 z)
      refine gx_aload_n dX11_use_19 rfl 0 rfl ?_
      refine gx_bE e (fun t4 ht4 e => ?_)
      refine gy_fI ht4 dX11_use_20 gf_RX11_156_9_3 (by decide) gkN_9_3 gkR_9_3 ?_
      refine gx_istore_n (ls2 := [(2, .int (gI t4)), (0, .ref v0), (1, .int (gI v1))]) dX11_use_23 rfl (Nat.le_of_ble_eq_true rfl) rfl ?_
      refine gx_iload_n dX11_use_24 rfl 2 rfl ?_
      refine gx_iload_n dX11_use_25 rfl 0 rfl ?_
      refine gx_bE e (fun _ g5 e => ?_)
      refine gx_iE e (fun c6 e => ?_) (fun c6 e => ?_)
      · refine gy_icmp_eq (tgt := 56) (gi_rgS g1) (gi_rgS g5) dX11_use_26 (by decide) (fun _ => ?_) (fun z => absurd c6 z)
        refine gx_iload_n dX11_use_56 rfl 0 rfl ?_
        cases e
        exact gx_iret dX11_use_57 rfl ⟨Nat.le_of_ble_eq_true rfl, Nat.le_of_ble_eq_true rfl⟩ (fun z => z)
      · refine gy_icmp_eq (tgt := 56) (gi_rgS g1) (gi_rgS g5) dX11_use_26 (by decide) (fun z => absurd z c6) (fun _ => ?_)
        refine gx_aload_n dX11_use_29 rfl 1 rfl ?_
        refine gx_bE e (fun t7 ht7 e => ?_)
        refine gy_fR ht7 dX11_use_30 gf_RX11_35_9_1 (by decide) gkN_9_1 gkR_9_1 ?_
        refine gx_astore_n (ls2 := [(3, .ref t7), (2, .int (gI t4)), (0, .ref v0), (1, .int (gI v1))]) dX11_use_33 rfl (Nat.le_of_ble_eq_true rfl) rfl ?_
        refine gx_aload_n dX11_use_34 rfl 2 rfl ?_
        refine gx_aload_n dX11_use_35 rfl 2 rfl ?_
        refine gx_bE e (fun t8 ht8 e => ?_)
        refine gy_fR ht8 dX11_use_36 gf_RX11_39_9_2 (by decide) gkN_9_2 gkR_9_2 ?_
        refine gx_bE e (fun h9 hh9 e => ?_)
        refine gy_qR hh9 dX11_use_39 gf_RX11_35_9_1 (by decide) gkN_9_1 gkR_9_1 (Or.inl rfl) ?_
        refine gx_aload_n dX11_use_42 rfl 2 rfl ?_
        refine gx_aload_n dX11_use_43 rfl 0 rfl ?_
        refine gx_bE e (fun h10 hh10 e => ?_)
        refine gy_qR hh10 dX11_use_44 gf_RX11_39_9_2 (by decide) gkN_9_2 gkR_9_2 (Or.inl rfl) ?_
        refine gx_aload_n dX11_use_47 rfl 2 rfl ?_
        refine gx_iload_n dX11_use_48 rfl 3 rfl ?_
        refine gx_bE e (fun h11 hh11 e => ?_)
        refine gy_qI hh11 dX11_use_49 gf_RX11_156_9_3 (by decide) gkN_9_3 rfl (Or.inl rfl) ?_
        refine gx_aload_n dX11_use_52 rfl 2 rfl ?_
        refine gx_bE e (fun _ hu12 e => ?_)
        refine gx_bE e (fun q13 hq13 e => ?_)
        refine gx_callV (n := 0) (st := []) (As := []) (b := v0) dX11_use_53 (z_X11_forget hq13) rfl ⟨rfl, gw_cw_X11_forget, gw_1, gp_X11_forget, ⟨Nat.le_of_ble_eq_true rfl, Nat.le_of_ble_eq_true rfl⟩⟩ (gi_isS hu12) (by decide) gw_821 gw_823 gs_24 rfl ⟨Nat.le_of_ble_eq_true rfl, Nat.le_of_ble_eq_true rfl⟩ (Nat.le_of_ble_eq_true rfl) (gy_k0 (kc2 := 0) (ks2 := 0) ⟨rfl, rfl⟩ ?_) gy_kn
        refine gx_iload_n dX11_use_56 rfl 1 rfl ?_
        cases e
        exact gx_iret dX11_use_57 rfl ⟨Nat.le_of_ble_eq_true rfl, Nat.le_of_ble_eq_true rfl⟩ (fun z => z)
    · refine gy_icmp_le (tgt := 19) (gi_rgS g1) (by decide) dX11_use_6 (by decide) (fun z => absurd z c3) (fun _ => ?_)
      refine gx_sub (ls2 := []) [] rfl ?_
      exact zb_X11_use_9  e
/-! L_use  -/
set_option maxRecDepth 100000 in
def f_L_use (v0 : Nat) (v1 : Int) (h : gi_H) : Option (Int × gi_H) :=
  Option.bind (gi_is h v0 9) fun _ => Option.bind (f_X11_use v0 v1 h) fun q2 => gx_sm q2.1 (fun t3 => some (t3, q2.2)) (fun t3 => if t3 = gx_IOB then (some ((-101 : Int), q2.2)) else (none))
set_option maxRecDepth 100000 in
theorem z_L_use {v0 : Nat} {v1 : Int} {h : gi_H} {res : Int} {h1 : gi_H} (e : f_L_use v0 v1 h = some (res, h1)) : gx_Cw mL_use false [.ref v0, .int (gI v1)] (gi_cv h) (.inl (some (.int (gI res)))) (gi_cv h1) := by
  refine gx_enter (by decide +kernel) rfl (Nat.le_of_ble_eq_true rfl) ?_
  show gx_Z mL_use false false 0 0 0 [(0, .ref v0), (1, .int (gI v1))] [] (gi_cv h) (.inl (some (.int (gI res)))) (gi_cv h1)
  refine gx_aload_n dL_use_0 rfl 0 rfl ?_
  refine gx_iload_n dL_use_1 rfl 1 rfl ?_
  refine gx_bE e (fun _ hu1 e => ?_)
  refine gx_bE e (fun q2 hq2 e => ?_)
  refine gx_smE e (fun t3 ht3 e => ?_) (fun t3 ht3 e => ?_)
  · have zq2 := z_X11_use hq2
    rw [ht3] at zq2
    refine gx_callV (n := 1) (st := []) (As := [.int (gI v1)]) (b := v0) dL_use_2 zq2 rfl ⟨rfl, gw_cw_X11_use, gw_1, gp_X11_use, ⟨Nat.le_of_ble_eq_true rfl, Nat.le_of_ble_eq_true rfl⟩⟩ (gi_isS hu1) (by decide) gw_867 gw_868 gw_869 rfl ⟨Nat.le_of_ble_eq_true rfl, Nat.le_of_ble_eq_true rfl⟩ (Nat.le_of_ble_eq_true rfl) (gy_k1 (x := .int (gI t3)) (kc2 := 1) (ks2 := 6) ⟨rfl, rfl⟩ ?_) gy_kn
    cases e
    exact gx_iret dL_use_5 rfl ⟨Nat.le_of_ble_eq_true rfl, Nat.le_of_ble_eq_true rfl⟩ (fun z => z)
  · have zq2 := z_X11_use hq2
    rw [ht3] at zq2
    refine gx_callV (n := 1) (st := []) (As := [.int (gI v1)]) (b := v0) dL_use_2 zq2 rfl ⟨rfl, gw_cw_X11_use, gw_1, gp_X11_use, ⟨Nat.le_of_ble_eq_true rfl, Nat.le_of_ble_eq_true rfl⟩⟩ (gi_isS hu1) (by decide) gw_867 gw_868 gw_869 rfl ⟨Nat.le_of_ble_eq_true rfl, Nat.le_of_ble_eq_true rfl⟩ (Nat.le_of_ble_eq_true rfl) gy_kN (gy_kE (kc2 := 1) (ks2 := 6) ⟨rfl, rfl⟩ ?_)
    refine gx_iE e (fun c4 e => ?_) (fun c4 e => ?_)
    · rw [c4]
      refine gx_catch (ls2 := [(0, .ref v0), (1, .int (gI v1))]) [] (x := (0, 5, 6, 33)) rfl (fun z hz => by cases hz) (by decide +kernel) (by decide) gw_866 (by decide +kernel) (Nat.le_of_ble_eq_true rfl) (Or.inl ⟨2, rfl, rfl, dL_use_6⟩) rfl ?_
      refine gy_bipush dL_use_7 gcb_m101 ?_
      cases e
      exact gx_iret dL_use_9 rfl ⟨Nat.le_of_ble_eq_true rfl, Nat.le_of_ble_eq_true rfl⟩ (fun z => z)
    cases e
/-! X4_admitAll  -/
set_option maxRecDepth 100000 in
def b_X4_admitAll_70 (n : Nat)  (v0 : Nat) (v3 : Int) (v4 : Int)  (h : gi_H) : Option (Int × gi_H) :=
  Option.bind (gi_pI h v0 3 3 v3) fun h12 => Option.bind (gi_pI h12 v0 3 6 v4) fun h13 => some ((0 : Int), h13)
set_option maxRecDepth 100000 in
theorem zb_X4_admitAll_70 {al : Bool} {n : Nat}  {res : Int} {h1 : gi_H}  {v0 : Nat} {v3 : Int} {v4 : Int}  {h : gi_H} (e : b_X4_admitAll_70 n v0 v3 v4 h = some (res, h1)) : gx_Z mX4_admitAll al al 0 0 70 [(0, .ref v0), (3, .int (gI v3)), (4, .int (gI v4))] [] (gi_cv h) (.inl (some (.int (gI res)))) (gi_cv h1) := by
  refine gx_aload_n dX4_admitAll_70 rfl 0 rfl ?_
  refine gx_iload_n dX4_admitAll_71 rfl 1 rfl ?_
  refine gx_bE e (fun h12 hh12 e => ?_)
  refine gy_qI hh12 dX4_admitAll_72 gf_RX4_42_3_3 (by decide) gkN_3_3 rfl (Or.inl rfl) ?_
  refine gx_aload_n dX4_admitAll_75 rfl 0 rfl ?_
  refine gx_iload dX4_admitAll_76 2 rfl ?_
  refine gx_bE e (fun h13 hh13 e => ?_)
  refine gy_qI hh13 dX4_admitAll_78 gf_RX4_46_3_6 (by decide) gkN_3_6 rfl (Or.inl rfl) ?_
  refine gy_iconst dX4_admitAll_81 ?_
  cases e
  exact gx_zret (by decide +kernel) dX4_admitAll_82 rfl ⟨Nat.le_of_ble_eq_true rfl, Nat.le_of_ble_eq_true rfl⟩ (fun z => z)
set_option maxRecDepth 100000 in
def b_X4_admitAll_54 (n : Nat) (r14 : Nat → Nat → Int → Int → Int → Int → gi_H → Option (Int × gi_H)) (v0 : Nat) (v1 : Nat) (v2 : Int) (v3 : Int) (v4 : Int) (v5 : Int) (v6 : Option Nat)  (h : gi_H) : Option (Int × gi_H) :=
  if v6 = none then (b_X4_admitAll_70 n  v0 v3 v4 h) else (Option.bind (gi_gR h v0 3 8) fun t14 => Option.bind (gi_is h v0 3) fun _ => Option.bind (f_X4_admit n v0 t14 h) fun q16 => Option.bind (gi_rg q16.1) fun _ => if q16.1 = 0 then (b_X4_admitAll_70 n  v0 v3 v4 q16.2) else (gx_nm (v5 + (1 : Int)) fun t19 => r14 v0 v1 v2 v3 v4 t19 q16.2))
set_option maxRecDepth 100000 in
theorem zb_X4_admitAll_54 {al : Bool} {n : Nat} {r14 : Nat → Nat → Int → Int → Int → Int → gi_H → Option (Int × gi_H)} {res : Int} {h1 : gi_H} (hr14 : ∀ (x0 : Nat) (x1 : Nat) (x2 : Int) (x3 : Int) (x4 : Int) (x5 : Int) (hh : gi_H), r14 x0 x1 x2 x3 x4 x5 hh = some (res, h1) → gx_Z mX4_admitAll al al 0 0 14 [(0, .ref x0), (1, .ref x1), (2, .int (gI x2)), (3, .int (gI x3)), (4, .int (gI x4)), (5, .int (gI x5))] [] (gi_cv hh) (.inl (some (.int (gI res)))) (gi_cv h1)) {v0 : Nat} {v1 : Nat} {v2 : Int} {v3 : Int} {v4 : Int} {v5 : Int} {v6 : Option Nat}  {h : gi_H} (e : b_X4_admitAll_54 n r14 v0 v1 v2 v3 v4 v5 v6 h = some (res, h1)) : gx_Z mX4_admitAll al al 0 0 54 [(0, .ref v0), (1, .ref v1), (2, .int (gI v2)), (3, .int (gI v3)), (4, .int (gI v4)), (5, .int (gI v5)), (6, va_rf v6)] [] (gi_cv h) (.inl (some (.int (gI res)))) (gi_cv h1) := by
  refine gx_aloadq dX4_admitAll_54 6 rfl ?_
  refine gx_iE e (fun c11 e => ?_) (fun c11 e => ?_)
  · refine gx_ifnull (tgt := 70) dX4_admitAll_56 (by decide) (fun _ => ?_) (fun z => absurd c11 z)
    refine gx_sub (ls2 := [(0, .ref v0), (3, .int (gI v3)), (4, .int (gI v4))]) [0, 3, 4] rfl ?_
    exact zb_X4_admitAll_70  e
  · refine gx_ifnull (tgt := 70) dX4_admitAll_56 (by decide) (fun z => absurd z c11) (fun _ => ?_)
    refine gx_aload_n dX4_admitAll_59 rfl 0 rfl ?_
    refine gx_aload_n dX4_admitAll_60 rfl 0 rfl ?_
    refine gx_bE e (fun t14 ht14 e => ?_)
    refine gy_fR ht14 dX4_admitAll_61 gf_RX4_31_3_8 (by decide) gkN_3_8 gkR_3_8 ?_
    refine gx_bE e (fun _ hu15 e => ?_)
    refine gx_bE e (fun q16 hq16 e => ?_)
    refine gx_callV (n := 1) (st := []) (As := [.ref t14]) (b := v0) dX4_admitAll_64 (z_X4_admit hq16) rfl ⟨rfl, gw_cw_X4_admit, gw_3, gp_X4_admit, ⟨Nat.le_of_ble_eq_true rfl, Nat.le_of_ble_eq_true rfl⟩⟩ (gi_isS hu15) (by decide) gw_857 gw_767 gw_768 rfl ⟨Nat.le_of_ble_eq_true rfl, Nat.le_of_ble_eq_true rfl⟩ (Nat.le_of_ble_eq_true rfl) (gy_k1 (x := .int (gI q16.1)) (kc2 := 0) (ks2 := 0) ⟨rfl, rfl⟩ ?_) gy_kn
    refine gx_bE e (fun _ g17 e => ?_)
    refine gx_iE e (fun c18 e => ?_) (fun c18 e => ?_)
    · refine gy_if_ne (tgt := 83) (gi_rgS g17) dX4_admitAll_67 (by decide) (fun z => absurd c18 z) (fun _ => ?_)
      refine gx_sub (ls2 := [(0, .ref v0), (3, .int (gI v3)), (4, .int (gI v4))]) [0, 3, 4] rfl ?_
      exact zb_X4_admitAll_70  e
    · refine gy_if_ne (tgt := 83) (gi_rgS g17) dX4_admitAll_67 (by decide) (fun _ => ?_) (fun z => absurd z c18)
      refine gx_nE e (fun t19 ht19 e => ?_)
      refine gy_iinc (v := t19) (ls2 := [(5, .int (gI t19)), (0, .ref v0), (1, .ref v1), (2, .int (gI v2)), (3, .int (gI v3)), (4, .int (gI v4)), (6, va_rf v6)]) dX4_admitAll_83 5 rfl ht19 (Nat.le_of_ble_eq_true rfl) rfl ?_
      refine gx_goto (tgt := 14) dX4_admitAll_86 (by decide) ?_
      refine gx_sub (ls2 := [(0, .ref v0), (1, .ref v1), (2, .int (gI v2)), (3, .int (gI v3)), (4, .int (gI v4)), (5, .int (gI t19))]) [1, 2, 3, 4, 5, 0] rfl ?_
      exact hr14 _ _ _ _ _ _ _ e
set_option maxRecDepth 100000 in
def b_X4_admitAll_14 (n : Nat) (r14 : Nat → Nat → Int → Int → Int → Int → gi_H → Option (Int × gi_H)) (v0 : Nat) (v1 : Nat) (v2 : Int) (v3 : Int) (v4 : Int) (v5 : Int)  (h : gi_H) : Option (Int × gi_H) :=
  Option.bind (gi_gI h v1 3 6) fun t3 => Option.bind (gi_rg v5) fun _ => Option.bind (gi_rg t3) fun _ => if t3 ≤ v5 then (some ((1 : Int), h)) else (if (24 : Int) ≤ v5 then (some ((1 : Int), h)) else (Option.bind (gi_gR h v1 3 4) fun t8 => Option.bind (gi_aR h t8 v5) fun t9 => if t9 = none then (b_X4_admitAll_54 n r14 v0 v1 v2 v3 v4 v5 t9 h) else (Option.bind (gi_gR h v0 3 8) fun t20 => Option.bind t9 fun t21 => Option.bind (gi_is h t20 7) fun _ => Option.bind (f_X8_copyRenamed n t20 t21 v2 h) fun q23 => b_X4_admitAll_54 n r14 v0 v1 v2 v3 v4 v5 (some t21) q23)))
set_option maxRecDepth 100000 in
theorem zb_X4_admitAll_14 {al : Bool} {n : Nat} {r14 : Nat → Nat → Int → Int → Int → Int → gi_H → Option (Int × gi_H)} {res : Int} {h1 : gi_H} (hr14 : ∀ (x0 : Nat) (x1 : Nat) (x2 : Int) (x3 : Int) (x4 : Int) (x5 : Int) (hh : gi_H), r14 x0 x1 x2 x3 x4 x5 hh = some (res, h1) → gx_Z mX4_admitAll al al 0 0 14 [(0, .ref x0), (1, .ref x1), (2, .int (gI x2)), (3, .int (gI x3)), (4, .int (gI x4)), (5, .int (gI x5))] [] (gi_cv hh) (.inl (some (.int (gI res)))) (gi_cv h1)) {v0 : Nat} {v1 : Nat} {v2 : Int} {v3 : Int} {v4 : Int} {v5 : Int}  {h : gi_H} (e : b_X4_admitAll_14 n r14 v0 v1 v2 v3 v4 v5 h = some (res, h1)) : gx_Z mX4_admitAll al al 0 0 14 [(0, .ref v0), (1, .ref v1), (2, .int (gI v2)), (3, .int (gI v3)), (4, .int (gI v4)), (5, .int (gI v5))] [] (gi_cv h) (.inl (some (.int (gI res)))) (gi_cv h1) := by
  refine gx_iload dX4_admitAll_14 5 rfl ?_
  refine gx_aload_n dX4_admitAll_16 rfl 1 rfl ?_
  refine gx_bE e (fun t3 ht3 e => ?_)
  refine gy_fI ht3 dX4_admitAll_17 gf_RX4_46_3_6 (by decide) gkN_3_6 gkR_3_6 ?_
  refine gx_bE e (fun _ g4 e => ?_)
  refine gx_bE e (fun _ g5 e => ?_)
  refine gx_iE e (fun c6 e => ?_) (fun c6 e => ?_)
  · refine gy_icmp_ge (tgt := 89) (gi_rgS g4) (gi_rgS g5) dX4_admitAll_20 (by decide) (fun _ => ?_) (fun z => absurd c6 z)
    refine gy_iconst dX4_admitAll_89 ?_
    cases e
    exact gx_zret (by decide +kernel) dX4_admitAll_90 rfl ⟨Nat.le_of_ble_eq_true rfl, Nat.le_of_ble_eq_true rfl⟩ (fun z => z)
  · refine gy_icmp_ge (tgt := 89) (gi_rgS g4) (gi_rgS g5) dX4_admitAll_20 (by decide) (fun z => absurd z c6) (fun _ => ?_)
    refine gx_iload dX4_admitAll_23 5 rfl ?_
    refine gy_bipush dX4_admitAll_25 gcb_24 ?_
    refine gx_iE e (fun c7 e => ?_) (fun c7 e => ?_)
    · refine gy_icmp_ge (tgt := 89) (gi_rgS g4) (by decide) dX4_admitAll_27 (by decide) (fun _ => ?_) (fun z => absurd c7 z)
      refine gy_iconst dX4_admitAll_89 ?_
      cases e
      exact gx_zret (by decide +kernel) dX4_admitAll_90 rfl ⟨Nat.le_of_ble_eq_true rfl, Nat.le_of_ble_eq_true rfl⟩ (fun z => z)
    · refine gy_icmp_ge (tgt := 89) (gi_rgS g4) (by decide) dX4_admitAll_27 (by decide) (fun z => absurd z c7) (fun _ => ?_)
      refine gx_aload_n dX4_admitAll_30 rfl 1 rfl ?_
      refine gx_bE e (fun t8 ht8 e => ?_)
      refine gy_fR ht8 dX4_admitAll_31 gf_RX4_23_3_4 (by decide) gkN_3_4 gkR_3_4 ?_
      refine gx_iload dX4_admitAll_34 5 rfl ?_
      refine gx_bE e (fun t9 ht9 e => ?_)
      refine gy_l5 ht9 dX4_admitAll_36 ?_
      refine gx_astoreq (ls2 := [(6, va_rf t9), (0, .ref v0), (1, .ref v1), (2, .int (gI v2)), (3, .int (gI v3)), (4, .int (gI v4)), (5, .int (gI v5))]) dX4_admitAll_37 (Nat.le_of_ble_eq_true rfl) rfl ?_
      refine gx_aloadq dX4_admitAll_39 0 rfl ?_
      refine gx_iE e (fun c10 e => ?_) (fun c10 e => ?_)
      · refine gx_ifnull (tgt := 54) dX4_admitAll_41 (by decide) (fun _ => ?_) (fun z => absurd c10 z)
        refine gx_sub (ls2 := [(0, .ref v0), (1, .ref v1), (2, .int (gI v2)), (3, .int (gI v3)), (4, .int (gI v4)), (5, .int (gI v5)), (6, va_rf t9)]) [1, 2, 3, 4, 5, 6, 0] rfl ?_
        exact zb_X4_admitAll_54 hr14 e
      · refine gx_ifnull (tgt := 54) dX4_admitAll_41 (by decide) (fun z => absurd z c10) (fun _ => ?_)
        refine gx_aload_n dX4_admitAll_44 rfl 1 rfl ?_
        refine gx_bE e (fun t20 ht20 e => ?_)
        refine gy_fR ht20 dX4_admitAll_45 gf_RX4_31_3_8 (by decide) gkN_3_8 gkR_3_8 ?_
        refine gx_aloadq dX4_admitAll_48 0 rfl ?_
        refine gx_iload_n dX4_admitAll_50 rfl 3 rfl ?_
        refine gx_bE e (fun t21 ht21 e => ?_)
        rw [ht21]
        refine gx_bE e (fun _ hu22 e => ?_)
        refine gx_bE e (fun q23 hq23 e => ?_)
        refine gx_callV (n := 2) (st := []) (As := [.ref t21, .int (gI v2)]) (b := t20) dX4_admitAll_51 (z_X8_copyRenamed hq23) rfl ⟨rfl, gw_cw_X8_copyRenamed, gw_2, gp_X8_copyRenamed, ⟨Nat.le_of_ble_eq_true rfl, Nat.le_of_ble_eq_true rfl⟩⟩ (gi_isS hu22) (by decide) gw_815 gw_816 gw_817 rfl ⟨Nat.le_of_ble_eq_true rfl, Nat.le_of_ble_eq_true rfl⟩ (Nat.le_of_ble_eq_true rfl) (gy_k0 (kc2 := 0) (ks2 := 0) ⟨rfl, rfl⟩ ?_) gy_kn
        refine gx_sub (ls2 := [(0, .ref v0), (1, .ref v1), (2, .int (gI v2)), (3, .int (gI v3)), (4, .int (gI v4)), (5, .int (gI v5)), (6, va_rf (some t21))]) [1, 2, 3, 4, 5, 6, 0] rfl ?_
        exact zb_X4_admitAll_54 hr14 e
def l_X4_admitAll_14 (n : Nat)  : Nat → Nat → Nat → Int → Int → Int → Int → gi_H → Option (Int × gi_H)
  | 0, _, _, _, _, _, _, _ => none
  | k + 1, v0, v1, v2, v3, v4, v5, h => b_X4_admitAll_14 n  (l_X4_admitAll_14 n  k) v0 v1 v2 v3 v4 v5 h
theorem zl_X4_admitAll_14 {al : Bool} {n : Nat}  {res : Int} {h1 : gi_H}  : ∀ (k : Nat) (v0 : Nat) (v1 : Nat) (v2 : Int) (v3 : Int) (v4 : Int) (v5 : Int) (h : gi_H), l_X4_admitAll_14 n  k v0 v1 v2 v3 v4 v5 h = some (res, h1) → gx_Z mX4_admitAll al al 0 0 14 [(0, .ref v0), (1, .ref v1), (2, .int (gI v2)), (3, .int (gI v3)), (4, .int (gI v4)), (5, .int (gI v5))] [] (gi_cv h) (.inl (some (.int (gI res)))) (gi_cv h1)
  | 0, _, _, _, _, _, _, _, e => gx_0E e
  | k + 1, _, _, _, _, _, _, _, e => zb_X4_admitAll_14 (n := n)  (zl_X4_admitAll_14  k) e
set_option maxRecDepth 100000 in
def f_X4_admitAll (n : Nat) (v0 : Nat) (v1 : Nat) (v2 : Int) (h : gi_H) : Option (Int × gi_H) :=
  Option.bind (gi_gI h v0 3 3) fun t1 => Option.bind (gi_gI h v0 3 6) fun t2 => l_X4_admitAll_14 n  n v0 v1 v2 t1 t2 (0 : Int) h
set_option maxRecDepth 100000 in
theorem z_X4_admitAll {al : Bool} {n : Nat} {v0 : Nat} {v1 : Nat} {v2 : Int} {h : gi_H} {res : Int} {h1 : gi_H} (e : f_X4_admitAll n v0 v1 v2 h = some (res, h1)) : gx_Cw mX4_admitAll al [.ref v0, .ref v1, .int (gI v2)] (gi_cv h) (.inl (some (.int (gI res)))) (gi_cv h1) := by
  refine gx_enter (by decide +kernel) rfl (Nat.le_of_ble_eq_true rfl) ?_
  show gx_Z mX4_admitAll al al 0 0 0 [(0, .ref v0), (1, .ref v1), (2, .int (gI v2))] [] (gi_cv h) (.inl (some (.int (gI res)))) (gi_cv h1)
  refine gx_aload_n dX4_admitAll_0 rfl 0 rfl ?_
  refine gx_bE e (fun t1 ht1 e => ?_)
  refine gy_fI ht1 dX4_admitAll_1 gf_RX4_42_3_3 (by decide) gkN_3_3 gkR_3_3 ?_
  refine gx_istore_n (ls2 := [(3, .int (gI t1)), (0, .ref v0), (1, .ref v1), (2, .int (gI v2))]) dX4_admitAll_4 rfl (Nat.le_of_ble_eq_true rfl) rfl ?_
  refine gx_aload_n dX4_admitAll_5 rfl 1 rfl ?_
  refine gx_bE e (fun t2 ht2 e => ?_)
  refine gy_fI ht2 dX4_admitAll_6 gf_RX4_46_3_6 (by decide) gkN_3_6 gkR_3_6 ?_
  refine gx_istore (ls2 := [(4, .int (gI t2)), (3, .int (gI t1)), (0, .ref v0), (1, .ref v1), (2, .int (gI v2))]) dX4_admitAll_9 (Nat.le_of_ble_eq_true rfl) rfl ?_
  refine gy_iconst dX4_admitAll_11 ?_
  refine gx_istore (ls2 := [(5, .int (gI (0 : Int))), (4, .int (gI t2)), (3, .int (gI t1)), (0, .ref v0), (1, .ref v1), (2, .int (gI v2))]) dX4_admitAll_12 (Nat.le_of_ble_eq_true rfl) rfl ?_
  refine gx_sub (ls2 := [(0, .ref v0), (1, .ref v1), (2, .int (gI v2)), (3, .int (gI t1)), (4, .int (gI t2)), (5, .int (gI (0 : Int)))]) [3, 4, 5, 2, 1, 0] rfl ?_
  exact zl_X4_admitAll_14  n _ _ _ _ _ _ _ e
/-! X4_rules  -/
set_option maxRecDepth 100000 in
def f_X4_rules (v0 : Nat) (h : gi_H) : Option (Int) :=
  Option.bind (gi_gI h v0 3 6) fun t1 => some t1
set_option maxRecDepth 100000 in
theorem z_X4_rules {al : Bool} {v0 : Nat} {h : gi_H} {res : Int} (e : f_X4_rules v0 h = some res) : gx_Cw mX4_rules al [.ref v0] (gi_cv h) (.inl (some (.int (gI res)))) (gi_cv h) := by
  refine gx_enter (by decide +kernel) rfl (Nat.le_of_ble_eq_true rfl) ?_
  show gx_Z mX4_rules al al 0 0 0 [(0, .ref v0)] [] (gi_cv h) (.inl (some (.int (gI res)))) (gi_cv h)
  refine gx_aload_n dX4_rules_0 rfl 0 rfl ?_
  refine gx_bE e (fun t1 ht1 e => ?_)
  refine gy_fI ht1 dX4_rules_1 gf_RX4_46_3_6 (by decide) gkN_3_6 gkR_3_6 ?_
  cases e
  exact gx_iret dX4_rules_4 rfl ⟨Nat.le_of_ble_eq_true rfl, Nat.le_of_ble_eq_true rfl⟩ (fun z => z)
/-! X11_bring  -/
set_option maxRecDepth 100000 in
def b_X11_bring_10 (n : Nat)    (h : gi_H) : Option ((Int ⊕ String) × gi_H) :=
  some (.inr gx_IAE, h)
set_option maxRecDepth 100000 in
theorem zb_X11_bring_10 {n : Nat}  {res : Int ⊕ String} {h1 : gi_H}    {h : gi_H} (e : b_X11_bring_10 n  h = some (res, h1)) : gx_Z mX11_bring false false 0 0 10 [] [] (gi_cv h) (gx_oI res) (gi_cv h1) := by
  cases e
  exact gx_throw rfl gt_105_160_109 rfl dX11_bring_10 dX11_bring_13 dX11_bring_14 dX11_bring_16 dX11_bring_19 (Nat.le_of_ble_eq_true rfl) (Nat.le_of_ble_eq_true rfl) ⟨Nat.le_of_ble_eq_true rfl, Nat.le_of_ble_eq_true rfl⟩
set_option maxRecDepth 100000 in
def f_X11_bring (n : Nat) (v0 : Nat) (v1 : Int) (h : gi_H) : Option ((Int ⊕ String) × gi_H) :=
  Option.bind (gi_rg v1) fun _ => if v1 < 0 then (b_X11_bring_10 n   h) else (if v1 < (8 : Int) then (Option.bind (gi_gR h v0 9 1) fun t4 => Option.bind (gi_gR h v0 9 2) fun t5 => Option.bind (gi_is h t4 3) fun _ => Option.bind (f_X4_admitAll n t4 t5 v1 h) fun q7 => Option.bind (gi_rg q7.1) fun _ => if q7.1 = 0 then (some (.inr gx_ISE, q7.2)) else (Option.bind (gi_is q7.2 v0 9) fun _ => Option.bind (f_X11_forget v0 q7.2) fun q11 => Option.bind (gi_gR q11 v0 9 2) fun t12 => Option.bind (gi_is q11 t12 3) fun _ => Option.bind (f_X4_rules t12 q11) fun q14 => some (.inl q14, q11))) else (b_X11_bring_10 n   h))
set_option maxRecDepth 100000 in
theorem z_X11_bring {n : Nat} {v0 : Nat} {v1 : Int} {h : gi_H} {res : Int ⊕ String} {h1 : gi_H} (e : f_X11_bring n v0 v1 h = some (res, h1)) : gx_Cw mX11_bring false [.ref v0, .int (gI v1)] (gi_cv h) (gx_oI res) (gi_cv h1) := by
  refine gx_enter (by decide +kernel) rfl (Nat.le_of_ble_eq_true rfl) ?_
  show gx_Z mX11_bring false false 0 0 0 [(0, .ref v0), (1, .int (gI v1))] [] (gi_cv h) (gx_oI res) (gi_cv h1)
  refine gx_iload_n dX11_bring_0 rfl 1 rfl ?_
  refine gx_bE e (fun _ g1 e => ?_)
  refine gx_iE e (fun c2 e => ?_) (fun c2 e => ?_)
  · refine gy_if_lt (tgt := 10) (gi_rgS g1) dX11_bring_1 (by decide) (fun _ => ?_) (fun z => absurd c2 z)
    refine gx_sub (ls2 := []) [] rfl ?_
    exact zb_X11_bring_10  e
  · refine gy_if_lt (tgt := 10) (gi_rgS g1) dX11_bring_1 (by decide) (fun z => absurd z c2) (fun _ => ?_)
    refine gx_iload_n dX11_bring_4 rfl 1 rfl ?_
    refine gy_bipush dX11_bring_5 gcb_8 ?_
    refine gx_iE e (fun c3 e => ?_) (fun c3 e => ?_)
    · refine gy_icmp_lt (tgt := 20) (gi_rgS g1) (by decide) dX11_bring_7 (by decide) (fun _ => ?_) (fun z => absurd c3 z)
      refine gx_aload_n dX11_bring_20 rfl 0 rfl ?_
      refine gx_bE e (fun t4 ht4 e => ?_)
      refine gy_fR ht4 dX11_bring_21 gf_RX11_35_9_1 (by decide) gkN_9_1 gkR_9_1 ?_
      refine gx_aload_n dX11_bring_24 rfl 0 rfl ?_
      refine gx_bE e (fun t5 ht5 e => ?_)
      refine gy_fR ht5 dX11_bring_25 gf_RX11_39_9_2 (by decide) gkN_9_2 gkR_9_2 ?_
      refine gx_iload_n dX11_bring_28 rfl 1 rfl ?_
      refine gx_bE e (fun _ hu6 e => ?_)
      refine gx_bE e (fun q7 hq7 e => ?_)
      refine gx_callV (n := 2) (st := []) (As := [.ref t5, .int (gI v1)]) (b := t4) dX11_bring_29 (z_X4_admitAll hq7) rfl ⟨rfl, gw_cw_X4_admitAll, gw_3, gp_X4_admitAll, ⟨Nat.le_of_ble_eq_true rfl, Nat.le_of_ble_eq_true rfl⟩⟩ (gi_isS hu6) (by decide) gw_853 gw_854 gw_855 rfl ⟨Nat.le_of_ble_eq_true rfl, Nat.le_of_ble_eq_true rfl⟩ (Nat.le_of_ble_eq_true rfl) (gy_k1 (x := .int (gI q7.1)) (kc2 := 0) (ks2 := 0) ⟨rfl, rfl⟩ ?_) gy_kn
      refine gx_bE e (fun _ g8 e => ?_)
      refine gx_iE e (fun c9 e => ?_) (fun c9 e => ?_)
      · refine gy_if_ne (tgt := 45) (gi_rgS g8) dX11_bring_32 (by decide) (fun z => absurd c9 z) (fun _ => ?_)
        cases e
        exact gx_throw rfl gt_116_166_120 rfl dX11_bring_35 dX11_bring_38 dX11_bring_39 dX11_bring_41 dX11_bring_44 (Nat.le_of_ble_eq_true rfl) (Nat.le_of_ble_eq_true rfl) ⟨Nat.le_of_ble_eq_true rfl, Nat.le_of_ble_eq_true rfl⟩
      · refine gy_if_ne (tgt := 45) (gi_rgS g8) dX11_bring_32 (by decide) (fun _ => ?_) (fun z => absurd z c9)
        refine gx_aload_n dX11_bring_45 rfl 0 rfl ?_
        refine gx_bE e (fun _ hu10 e => ?_)
        refine gx_bE e (fun q11 hq11 e => ?_)
        refine gx_callV (n := 0) (st := []) (As := []) (b := v0) dX11_bring_46 (z_X11_forget hq11) rfl ⟨rfl, gw_cw_X11_forget, gw_1, gp_X11_forget, ⟨Nat.le_of_ble_eq_true rfl, Nat.le_of_ble_eq_true rfl⟩⟩ (gi_isS hu10) (by decide) gw_821 gw_823 gs_24 rfl ⟨Nat.le_of_ble_eq_true rfl, Nat.le_of_ble_eq_true rfl⟩ (Nat.le_of_ble_eq_true rfl) (gy_k0 (kc2 := 0) (ks2 := 0) ⟨rfl, rfl⟩ ?_) gy_kn
        refine gx_aload_n dX11_bring_49 rfl 0 rfl ?_
        refine gx_bE e (fun t12 ht12 e => ?_)
        refine gy_fR ht12 dX11_bring_50 gf_RX11_39_9_2 (by decide) gkN_9_2 gkR_9_2 ?_
        refine gx_bE e (fun _ hu13 e => ?_)
        refine gx_bE e (fun q14 hq14 e => ?_)
        refine gx_callV (n := 0) (st := []) (As := []) (b := t12) dX11_bring_53 (z_X4_rules hq14) rfl ⟨rfl, gw_cw_X4_rules, gw_3, gp_X4_rules, ⟨Nat.le_of_ble_eq_true rfl, Nat.le_of_ble_eq_true rfl⟩⟩ (gi_isS hu13) (by decide) gw_859 gw_860 gw_861 rfl ⟨Nat.le_of_ble_eq_true rfl, Nat.le_of_ble_eq_true rfl⟩ (Nat.le_of_ble_eq_true rfl) (gy_k1 (x := .int (gI q14)) (kc2 := 0) (ks2 := 0) ⟨rfl, rfl⟩ ?_) gy_kn
        cases e
        exact gx_iret dX11_bring_56 rfl ⟨Nat.le_of_ble_eq_true rfl, Nat.le_of_ble_eq_true rfl⟩ (fun z => z)
    · refine gy_icmp_lt (tgt := 20) (gi_rgS g1) (by decide) dX11_bring_7 (by decide) (fun z => absurd z c3) (fun _ => ?_)
      refine gx_sub (ls2 := []) [] rfl ?_
      exact zb_X11_bring_10  e
/-! L_bring  -/
set_option maxRecDepth 100000 in
def f_L_bring (n : Nat) (v0 : Nat) (v1 : Int) (h : gi_H) : Option (Int × gi_H) :=
  Option.bind (gi_is h v0 9) fun _ => Option.bind (f_X11_bring n v0 v1 h) fun q2 => gx_sm q2.1 (fun t3 => some (t3, q2.2)) (fun t3 => if t3 = gx_IAE then (some ((-102 : Int), q2.2)) else (if t3 = gx_ISE then (some ((-103 : Int), q2.2)) else (none)))
set_option maxRecDepth 100000 in
theorem z_L_bring {n : Nat} {v0 : Nat} {v1 : Int} {h : gi_H} {res : Int} {h1 : gi_H} (e : f_L_bring n v0 v1 h = some (res, h1)) : gx_Cw mL_bring false [.ref v0, .int (gI v1)] (gi_cv h) (.inl (some (.int (gI res)))) (gi_cv h1) := by
  refine gx_enter (by decide +kernel) rfl (Nat.le_of_ble_eq_true rfl) ?_
  show gx_Z mL_bring false false 0 0 0 [(0, .ref v0), (1, .int (gI v1))] [] (gi_cv h) (.inl (some (.int (gI res)))) (gi_cv h1)
  refine gx_aload_n dL_bring_0 rfl 0 rfl ?_
  refine gx_iload_n dL_bring_1 rfl 1 rfl ?_
  refine gx_bE e (fun _ hu1 e => ?_)
  refine gx_bE e (fun q2 hq2 e => ?_)
  refine gx_smE e (fun t3 ht3 e => ?_) (fun t3 ht3 e => ?_)
  · have zq2 := z_X11_bring hq2
    rw [ht3] at zq2
    refine gx_callV (n := 1) (st := []) (As := [.int (gI v1)]) (b := v0) dL_bring_2 zq2 rfl ⟨rfl, gw_cw_X11_bring, gw_1, gp_X11_bring, ⟨Nat.le_of_ble_eq_true rfl, Nat.le_of_ble_eq_true rfl⟩⟩ (gi_isS hu1) (by decide) gw_848 gw_849 gw_850 rfl ⟨Nat.le_of_ble_eq_true rfl, Nat.le_of_ble_eq_true rfl⟩ (Nat.le_of_ble_eq_true rfl) (gy_k1 (x := .int (gI t3)) (kc2 := 1) (ks2 := 6) ⟨rfl, rfl⟩ ?_) gy_kn
    cases e
    exact gx_iret dL_bring_5 rfl ⟨Nat.le_of_ble_eq_true rfl, Nat.le_of_ble_eq_true rfl⟩ (fun z => z)
  · have zq2 := z_X11_bring hq2
    rw [ht3] at zq2
    refine gx_callV (n := 1) (st := []) (As := [.int (gI v1)]) (b := v0) dL_bring_2 zq2 rfl ⟨rfl, gw_cw_X11_bring, gw_1, gp_X11_bring, ⟨Nat.le_of_ble_eq_true rfl, Nat.le_of_ble_eq_true rfl⟩⟩ (gi_isS hu1) (by decide) gw_848 gw_849 gw_850 rfl ⟨Nat.le_of_ble_eq_true rfl, Nat.le_of_ble_eq_true rfl⟩ (Nat.le_of_ble_eq_true rfl) gy_kN (gy_kE (kc2 := 1) (ks2 := 6) ⟨rfl, rfl⟩ ?_)
    refine gx_iE e (fun c4 e => ?_) (fun c4 e => ?_)
    · rw [c4]
      refine gx_catch (ls2 := [(0, .ref v0), (1, .int (gI v1))]) [] (x := (0, 5, 6, 15)) rfl (fun z hz => by cases hz) (by decide +kernel) (by decide) gw_654 (by decide +kernel) (Nat.le_of_ble_eq_true rfl) (Or.inl ⟨2, rfl, rfl, dL_bring_6⟩) rfl ?_
      refine gy_bipush dL_bring_7 gcb_m102 ?_
      cases e
      exact gx_iret dL_bring_9 rfl ⟨Nat.le_of_ble_eq_true rfl, Nat.le_of_ble_eq_true rfl⟩ (fun z => z)
    refine gx_iE e (fun c5 e => ?_) (fun c5 e => ?_)
    · rw [c5]
      refine gx_catch (ls2 := [(0, .ref v0), (1, .int (gI v1))]) [(0, 5, 6, 15)] (x := (0, 5, 10, 17)) rfl (by refine List.forall_mem_cons.mpr ⟨⟨by decide, "java/lang/IllegalArgumentException", gw_654, by decide +kernel⟩, ?_⟩;  exact fun z hz => absurd hz List.not_mem_nil) (by decide +kernel) (by decide) gw_655 (by decide +kernel) (Nat.le_of_ble_eq_true rfl) (Or.inl ⟨2, rfl, rfl, dL_bring_10⟩) rfl ?_
      refine gy_bipush dL_bring_11 gcb_m103 ?_
      cases e
      exact gx_iret dL_bring_13 rfl ⟨Nat.le_of_ble_eq_true rfl, Nat.le_of_ble_eq_true rfl⟩ (fun z => z)
    cases e
/-! X4_top  -/
set_option maxRecDepth 100000 in
def f_X4_top (v0 : Nat) (h : gi_H) : Option (Int) :=
  Option.bind (gi_gI h v0 3 7) fun t1 => some t1
set_option maxRecDepth 100000 in
theorem z_X4_top {al : Bool} {v0 : Nat} {h : gi_H} {res : Int} (e : f_X4_top v0 h = some res) : gx_Cw mX4_top al [.ref v0] (gi_cv h) (.inl (some (.int (gI res)))) (gi_cv h) := by
  refine gx_enter (by decide +kernel) rfl (Nat.le_of_ble_eq_true rfl) ?_
  show gx_Z mX4_top al al 0 0 0 [(0, .ref v0)] [] (gi_cv h) (.inl (some (.int (gI res)))) (gi_cv h)
  refine gx_aload_n dX4_top_0 rfl 0 rfl ?_
  refine gx_bE e (fun t1 ht1 e => ?_)
  refine gy_fI ht1 dX4_top_1 gf_RX4_49_3_7 (by decide) gkN_3_7 gkR_3_7 ?_
  cases e
  exact gx_iret dX4_top_4 rfl ⟨Nat.le_of_ble_eq_true rfl, Nat.le_of_ble_eq_true rfl⟩ (fun z => z)
/-! X4_setTop  -/
set_option maxRecDepth 100000 in
def f_X4_setTop (v0 : Nat) (v1 : Int) (h : gi_H) : Option (gi_H) :=
  Option.bind (gi_pI h v0 3 7 v1) fun h1 => some h1
set_option maxRecDepth 100000 in
theorem z_X4_setTop {al : Bool} {v0 : Nat} {v1 : Int} {h : gi_H} {h1 : gi_H} (e : f_X4_setTop v0 v1 h = some h1) : gx_Cw mX4_setTop al [.ref v0, .int (gI v1)] (gi_cv h) (.inl none) (gi_cv h1) := by
  refine gx_enter (by decide +kernel) rfl (Nat.le_of_ble_eq_true rfl) ?_
  show gx_Z mX4_setTop al al 0 0 0 [(0, .ref v0), (1, .int (gI v1))] [] (gi_cv h) (.inl none) (gi_cv h1)
  refine gx_aload_n dX4_setTop_0 rfl 0 rfl ?_
  refine gx_iload_n dX4_setTop_1 rfl 1 rfl ?_
  refine gx_bE e (fun h1 hh1 e => ?_)
  refine gy_qI hh1 dX4_setTop_2 gf_RX4_49_3_7 (by decide) gkN_3_7 rfl (Or.inl rfl) ?_
  cases e
  exact gx_vret dX4_setTop_5 rfl ⟨Nat.le_of_ble_eq_true rfl, Nat.le_of_ble_eq_true rfl⟩ (fun z => z)
/-! X11_start  -/
set_option maxRecDepth 100000 in
def b_X11_start_10    (h : gi_H) : Option ((Int ⊕ String) × gi_H) :=
  some (.inr gx_IOB, h)
set_option maxRecDepth 100000 in
theorem zb_X11_start_10  {res : Int ⊕ String} {h1 : gi_H}    {h : gi_H} (e : b_X11_start_10  h = some (res, h1)) : gx_Z mX11_start false false 0 0 10 [] [] (gi_cv h) (gx_oI res) (gi_cv h1) := by
  cases e
  exact gx_throw rfl gt_151_171_155 rfl dX11_start_10 dX11_start_13 dX11_start_14 dX11_start_16 dX11_start_19 (Nat.le_of_ble_eq_true rfl) (Nat.le_of_ble_eq_true rfl) ⟨Nat.le_of_ble_eq_true rfl, Nat.le_of_ble_eq_true rfl⟩
set_option maxRecDepth 100000 in
def f_X11_start (v0 : Nat) (v1 : Int) (h : gi_H) : Option ((Int ⊕ String) × gi_H) :=
  Option.bind (gi_rg v1) fun _ => if v1 < 0 then (b_X11_start_10   h) else (if v1 < (8 : Int) then (Option.bind (gi_gR h v0 9 1) fun t4 => Option.bind (gi_is h t4 3) fun _ => Option.bind (f_X4_top t4 h) fun q6 => Option.bind (gi_gR h v0 9 1) fun t7 => Option.bind (gi_is h t7 3) fun _ => Option.bind (f_X4_setTop t7 v1 h) fun q9 => Option.bind (gi_is q9 v0 9) fun _ => Option.bind (f_X11_forget v0 q9) fun q11 => some (.inl q6, q11)) else (b_X11_start_10   h))
set_option maxRecDepth 100000 in
theorem z_X11_start {v0 : Nat} {v1 : Int} {h : gi_H} {res : Int ⊕ String} {h1 : gi_H} (e : f_X11_start v0 v1 h = some (res, h1)) : gx_Cw mX11_start false [.ref v0, .int (gI v1)] (gi_cv h) (gx_oI res) (gi_cv h1) := by
  refine gx_enter (by decide +kernel) rfl (Nat.le_of_ble_eq_true rfl) ?_
  show gx_Z mX11_start false false 0 0 0 [(0, .ref v0), (1, .int (gI v1))] [] (gi_cv h) (gx_oI res) (gi_cv h1)
  refine gx_iload_n dX11_start_0 rfl 1 rfl ?_
  refine gx_bE e (fun _ g1 e => ?_)
  refine gx_iE e (fun c2 e => ?_) (fun c2 e => ?_)
  · refine gy_if_lt (tgt := 10) (gi_rgS g1) dX11_start_1 (by decide) (fun _ => ?_) (fun z => absurd c2 z)
    refine gx_sub (ls2 := []) [] rfl ?_
    exact zb_X11_start_10  e
  · refine gy_if_lt (tgt := 10) (gi_rgS g1) dX11_start_1 (by decide) (fun z => absurd z c2) (fun _ => ?_)
    refine gx_iload_n dX11_start_4 rfl 1 rfl ?_
    refine gy_bipush dX11_start_5 gcb_8 ?_
    refine gx_iE e (fun c3 e => ?_) (fun c3 e => ?_)
    · refine gy_icmp_lt (tgt := 20) (gi_rgS g1) (by decide) dX11_start_7 (by decide) (fun _ => ?_) (fun z => absurd c3 z)
      refine gx_aload_n dX11_start_20 rfl 0 rfl ?_
      refine gx_bE e (fun t4 ht4 e => ?_)
      refine gy_fR ht4 dX11_start_21 gf_RX11_35_9_1 (by decide) gkN_9_1 gkR_9_1 ?_
      refine gx_bE e (fun _ hu5 e => ?_)
      refine gx_bE e (fun q6 hq6 e => ?_)
      refine gx_callV (n := 0) (st := []) (As := []) (b := t4) dX11_start_24 (z_X4_top hq6) rfl ⟨rfl, gw_cw_X4_top, gw_3, gp_X4_top, ⟨Nat.le_of_ble_eq_true rfl, Nat.le_of_ble_eq_true rfl⟩⟩ (gi_isS hu5) (by decide) gw_510 gw_430 gw_431 rfl ⟨Nat.le_of_ble_eq_true rfl, Nat.le_of_ble_eq_true rfl⟩ (Nat.le_of_ble_eq_true rfl) (gy_k1 (x := .int (gI q6)) (kc2 := 0) (ks2 := 0) ⟨rfl, rfl⟩ ?_) gy_kn
      refine gx_istore_n (ls2 := [(2, .int (gI q6)), (0, .ref v0), (1, .int (gI v1))]) dX11_start_27 rfl (Nat.le_of_ble_eq_true rfl) rfl ?_
      refine gx_aload_n dX11_start_28 rfl 1 rfl ?_
      refine gx_bE e (fun t7 ht7 e => ?_)
      refine gy_fR ht7 dX11_start_29 gf_RX11_35_9_1 (by decide) gkN_9_1 gkR_9_1 ?_
      refine gx_iload_n dX11_start_32 rfl 2 rfl ?_
      refine gx_bE e (fun _ hu8 e => ?_)
      refine gx_bE e (fun q9 hq9 e => ?_)
      refine gx_callV (n := 1) (st := []) (As := [.int (gI v1)]) (b := t7) dX11_start_33 (z_X4_setTop hq9) rfl ⟨rfl, gw_cw_X4_setTop, gw_3, gp_X4_setTop, ⟨Nat.le_of_ble_eq_true rfl, Nat.le_of_ble_eq_true rfl⟩⟩ (gi_isS hu8) (by decide) gw_895 gw_896 gw_897 rfl ⟨Nat.le_of_ble_eq_true rfl, Nat.le_of_ble_eq_true rfl⟩ (Nat.le_of_ble_eq_true rfl) (gy_k0 (kc2 := 0) (ks2 := 0) ⟨rfl, rfl⟩ ?_) gy_kn
      refine gx_aload_n dX11_start_36 rfl 1 rfl ?_
      refine gx_bE e (fun _ hu10 e => ?_)
      refine gx_bE e (fun q11 hq11 e => ?_)
      refine gx_callV (n := 0) (st := []) (As := []) (b := v0) dX11_start_37 (z_X11_forget hq11) rfl ⟨rfl, gw_cw_X11_forget, gw_1, gp_X11_forget, ⟨Nat.le_of_ble_eq_true rfl, Nat.le_of_ble_eq_true rfl⟩⟩ (gi_isS hu10) (by decide) gw_821 gw_823 gs_24 rfl ⟨Nat.le_of_ble_eq_true rfl, Nat.le_of_ble_eq_true rfl⟩ (Nat.le_of_ble_eq_true rfl) (gy_k0 (kc2 := 0) (ks2 := 0) ⟨rfl, rfl⟩ ?_) gy_kn
      refine gx_iload_n dX11_start_40 rfl 0 rfl ?_
      cases e
      exact gx_iret dX11_start_41 rfl ⟨Nat.le_of_ble_eq_true rfl, Nat.le_of_ble_eq_true rfl⟩ (fun z => z)
    · refine gy_icmp_lt (tgt := 20) (gi_rgS g1) (by decide) dX11_start_7 (by decide) (fun z => absurd z c3) (fun _ => ?_)
      refine gx_sub (ls2 := []) [] rfl ?_
      exact zb_X11_start_10  e
/-! L_start  -/
set_option maxRecDepth 100000 in
def f_L_start (v0 : Nat) (v1 : Int) (h : gi_H) : Option (Int × gi_H) :=
  Option.bind (gi_is h v0 9) fun _ => Option.bind (f_X11_start v0 v1 h) fun q2 => gx_sm q2.1 (fun t3 => some (t3, q2.2)) (fun t3 => if t3 = gx_IOB then (some ((-101 : Int), q2.2)) else (none))
set_option maxRecDepth 100000 in
theorem z_L_start {v0 : Nat} {v1 : Int} {h : gi_H} {res : Int} {h1 : gi_H} (e : f_L_start v0 v1 h = some (res, h1)) : gx_Cw mL_start false [.ref v0, .int (gI v1)] (gi_cv h) (.inl (some (.int (gI res)))) (gi_cv h1) := by
  refine gx_enter (by decide +kernel) rfl (Nat.le_of_ble_eq_true rfl) ?_
  show gx_Z mL_start false false 0 0 0 [(0, .ref v0), (1, .int (gI v1))] [] (gi_cv h) (.inl (some (.int (gI res)))) (gi_cv h1)
  refine gx_aload_n dL_start_0 rfl 0 rfl ?_
  refine gx_iload_n dL_start_1 rfl 1 rfl ?_
  refine gx_bE e (fun _ hu1 e => ?_)
  refine gx_bE e (fun q2 hq2 e => ?_)
  refine gx_smE e (fun t3 ht3 e => ?_) (fun t3 ht3 e => ?_)
  · have zq2 := z_X11_start hq2
    rw [ht3] at zq2
    refine gx_callV (n := 1) (st := []) (As := [.int (gI v1)]) (b := v0) dL_start_2 zq2 rfl ⟨rfl, gw_cw_X11_start, gw_1, gp_X11_start, ⟨Nat.le_of_ble_eq_true rfl, Nat.le_of_ble_eq_true rfl⟩⟩ (gi_isS hu1) (by decide) gw_890 gw_891 gw_892 rfl ⟨Nat.le_of_ble_eq_true rfl, Nat.le_of_ble_eq_true rfl⟩ (Nat.le_of_ble_eq_true rfl) (gy_k1 (x := .int (gI t3)) (kc2 := 1) (ks2 := 6) ⟨rfl, rfl⟩ ?_) gy_kn
    cases e
    exact gx_iret dL_start_5 rfl ⟨Nat.le_of_ble_eq_true rfl, Nat.le_of_ble_eq_true rfl⟩ (fun z => z)
  · have zq2 := z_X11_start hq2
    rw [ht3] at zq2
    refine gx_callV (n := 1) (st := []) (As := [.int (gI v1)]) (b := v0) dL_start_2 zq2 rfl ⟨rfl, gw_cw_X11_start, gw_1, gp_X11_start, ⟨Nat.le_of_ble_eq_true rfl, Nat.le_of_ble_eq_true rfl⟩⟩ (gi_isS hu1) (by decide) gw_890 gw_891 gw_892 rfl ⟨Nat.le_of_ble_eq_true rfl, Nat.le_of_ble_eq_true rfl⟩ (Nat.le_of_ble_eq_true rfl) gy_kN (gy_kE (kc2 := 1) (ks2 := 6) ⟨rfl, rfl⟩ ?_)
    refine gx_iE e (fun c4 e => ?_) (fun c4 e => ?_)
    · rw [c4]
      refine gx_catch (ls2 := [(0, .ref v0), (1, .int (gI v1))]) [] (x := (0, 5, 6, 33)) rfl (fun z hz => by cases hz) (by decide +kernel) (by decide) gw_866 (by decide +kernel) (Nat.le_of_ble_eq_true rfl) (Or.inl ⟨2, rfl, rfl, dL_start_6⟩) rfl ?_
      refine gy_bipush dL_start_7 gcb_m101 ?_
      cases e
      exact gx_iret dL_start_9 rfl ⟨Nat.le_of_ble_eq_true rfl, Nat.le_of_ble_eq_true rfl⟩ (fun z => z)
    cases e
/-! X11_isTerminal  -/
set_option maxRecDepth 100000 in
def b_X11_isTerminal_14    (h : gi_H) : Option (Int) :=
  some (0 : Int)
set_option maxRecDepth 100000 in
theorem zb_X11_isTerminal_14 {al : Bool}  {res : Int}    {h : gi_H} (e : b_X11_isTerminal_14  h = some res) : gx_Z mX11_isTerminal al al 0 0 14 [] [] (gi_cv h) (.inl (some (.int (gI res)))) (gi_cv h) := by
  refine gy_iconst dX11_isTerminal_14 ?_
  cases e
  exact gx_zret (by decide +kernel) dX11_isTerminal_15 rfl ⟨Nat.le_of_ble_eq_true rfl, Nat.le_of_ble_eq_true rfl⟩ (fun z => z)
set_option maxRecDepth 100000 in
def f_X11_isTerminal (v0 : Int) (h : gi_H) : Option (Int) :=
  Option.bind (gi_rg v0) fun _ => if v0 < 0 then (b_X11_isTerminal_14   h) else (if (8 : Int) ≤ v0 then (b_X11_isTerminal_14   h) else (some (1 : Int)))
set_option maxRecDepth 100000 in
theorem z_X11_isTerminal {al : Bool} {v0 : Int} {h : gi_H} {res : Int} (e : f_X11_isTerminal v0 h = some res) : gx_Cw mX11_isTerminal al [.int (gI v0)] (gi_cv h) (.inl (some (.int (gI res)))) (gi_cv h) := by
  refine gx_enter (by decide +kernel) rfl (Nat.le_of_ble_eq_true rfl) ?_
  show gx_Z mX11_isTerminal al al 0 0 0 [(0, .int (gI v0))] [] (gi_cv h) (.inl (some (.int (gI res)))) (gi_cv h)
  refine gx_iload_n dX11_isTerminal_0 rfl 0 rfl ?_
  refine gx_bE e (fun _ g1 e => ?_)
  refine gx_iE e (fun c2 e => ?_) (fun c2 e => ?_)
  · refine gy_if_lt (tgt := 14) (gi_rgS g1) dX11_isTerminal_1 (by decide) (fun _ => ?_) (fun z => absurd c2 z)
    refine gx_sub (ls2 := []) [] rfl ?_
    exact zb_X11_isTerminal_14  e
  · refine gy_if_lt (tgt := 14) (gi_rgS g1) dX11_isTerminal_1 (by decide) (fun z => absurd z c2) (fun _ => ?_)
    refine gx_iload_n dX11_isTerminal_4 rfl 0 rfl ?_
    refine gy_bipush dX11_isTerminal_5 gcb_8 ?_
    refine gx_iE e (fun c3 e => ?_) (fun c3 e => ?_)
    · refine gy_icmp_ge (tgt := 14) (gi_rgS g1) (by decide) dX11_isTerminal_7 (by decide) (fun _ => ?_) (fun z => absurd c3 z)
      refine gx_sub (ls2 := []) [] rfl ?_
      exact zb_X11_isTerminal_14  e
    · refine gy_icmp_ge (tgt := 14) (gi_rgS g1) (by decide) dX11_isTerminal_7 (by decide) (fun z => absurd z c3) (fun _ => ?_)
      refine gy_iconst dX11_isTerminal_10 ?_
      refine gx_goto (tgt := 15) dX11_isTerminal_11 (by decide) ?_
      cases e
      exact gx_zret (by decide +kernel) dX11_isTerminal_15 rfl ⟨Nat.le_of_ble_eq_true rfl, Nat.le_of_ble_eq_true rfl⟩ (fun z => z)
/-! X11_level  -/
set_option maxRecDepth 100000 in
def b_X11_level_16    (h : gi_H) : Option ((Int ⊕ String) × gi_H) :=
  some (.inr gx_IOB, h)
set_option maxRecDepth 100000 in
theorem zb_X11_level_16  {res : Int ⊕ String} {h1 : gi_H}    {h : gi_H} (e : b_X11_level_16  h = some (res, h1)) : gx_Z mX11_level false false 0 0 16 [] [] (gi_cv h) (gx_oI res) (gi_cv h1) := by
  cases e
  exact gx_throw rfl gt_151_184_155 rfl dX11_level_16 dX11_level_19 dX11_level_20 dX11_level_22 dX11_level_25 (Nat.le_of_ble_eq_true rfl) (Nat.le_of_ble_eq_true rfl) ⟨Nat.le_of_ble_eq_true rfl, Nat.le_of_ble_eq_true rfl⟩
set_option maxRecDepth 100000 in
def b_X11_level_35    (h : gi_H) : Option ((Int ⊕ String) × gi_H) :=
  some (.inr gx_IAE, h)
set_option maxRecDepth 100000 in
theorem zb_X11_level_35  {res : Int ⊕ String} {h1 : gi_H}    {h : gi_H} (e : b_X11_level_35  h = some (res, h1)) : gx_Z mX11_level false false 0 0 35 [] [] (gi_cv h) (gx_oI res) (gi_cv h1) := by
  cases e
  exact gx_throw rfl gt_105_186_109 rfl dX11_level_35 dX11_level_38 dX11_level_39 dX11_level_41 dX11_level_44 (Nat.le_of_ble_eq_true rfl) (Nat.le_of_ble_eq_true rfl) ⟨Nat.le_of_ble_eq_true rfl, Nat.le_of_ble_eq_true rfl⟩
set_option maxRecDepth 100000 in
def f_X11_level (v0 : Nat) (v1 : Int) (v2 : Int) (v3 : Int) (h : gi_H) : Option ((Int ⊕ String) × gi_H) :=
  Option.bind (f_X11_isTerminal v1 h) fun q1 => Option.bind (gi_rg q1) fun _ => if q1 = 0 then (b_X11_level_16   h) else (Option.bind (gi_rg v3) fun _ => if v3 < 0 then (b_X11_level_16   h) else (if v3 ≤ (2 : Int) then (Option.bind (gi_rg v2) fun _ => if v2 < 0 then (b_X11_level_35   h) else (if v2 ≤ (5 : Int) then (Option.bind (gi_gR h v0 9 4) fun t10 => Option.bind (gi_aI h 1 t10 v1) fun t11 => Option.bind (gi_gR h v0 9 4) fun t12 => Option.bind (gi_s1 h t12 v1 v2) fun h13 => Option.bind (gi_gR h13 v0 9 5) fun t14 => Option.bind (gi_s1 h13 t14 v1 v3) fun h15 => some (.inl t11, h15)) else (b_X11_level_35   h))) else (b_X11_level_16   h)))
set_option maxRecDepth 100000 in
theorem z_X11_level {v0 : Nat} {v1 : Int} {v2 : Int} {v3 : Int} {h : gi_H} {res : Int ⊕ String} {h1 : gi_H} (e : f_X11_level v0 v1 v2 v3 h = some (res, h1)) : gx_Cw mX11_level false [.ref v0, .int (gI v1), .int (gI v2), .int (gI v3)] (gi_cv h) (gx_oI res) (gi_cv h1) := by
  refine gx_enter (by decide +kernel) rfl (Nat.le_of_ble_eq_true rfl) ?_
  show gx_Z mX11_level false false 0 0 0 [(0, .ref v0), (1, .int (gI v1)), (2, .int (gI v2)), (3, .int (gI v3))] [] (gi_cv h) (gx_oI res) (gi_cv h1)
  refine gx_iload_n dX11_level_0 rfl 1 rfl ?_
  refine gx_bE e (fun q1 hq1 e => ?_)
  refine gx_callS (n := 1) (st := []) (As := [.int (gI v1)]) dX11_level_1 (z_X11_isTerminal hq1) rfl ⟨rfl, gw_cw_X11_isTerminal, gw_1, gp_X11_isTerminal, ⟨Nat.le_of_ble_eq_true rfl, Nat.le_of_ble_eq_true rfl⟩⟩ gw_906 gw_582 ⟨Nat.le_of_ble_eq_true rfl, Nat.le_of_ble_eq_true rfl⟩ (Nat.le_of_ble_eq_true rfl) (gy_k1 (x := .int (gI q1)) (kc2 := 0) (ks2 := 0) ⟨rfl, rfl⟩ ?_) gy_kn
  refine gx_bE e (fun _ g2 e => ?_)
  refine gx_iE e (fun c3 e => ?_) (fun c3 e => ?_)
  · refine gy_if_eq (tgt := 16) (gi_rgS g2) dX11_level_4 (by decide) (fun _ => ?_) (fun z => absurd c3 z)
    refine gx_sub (ls2 := []) [] rfl ?_
    exact zb_X11_level_16  e
  · refine gy_if_eq (tgt := 16) (gi_rgS g2) dX11_level_4 (by decide) (fun z => absurd z c3) (fun _ => ?_)
    refine gx_iload_n dX11_level_7 rfl 3 rfl ?_
    refine gx_bE e (fun _ g4 e => ?_)
    refine gx_iE e (fun c5 e => ?_) (fun c5 e => ?_)
    · refine gy_if_lt (tgt := 16) (gi_rgS g4) dX11_level_8 (by decide) (fun _ => ?_) (fun z => absurd c5 z)
      refine gx_sub (ls2 := []) [] rfl ?_
      exact zb_X11_level_16  e
    · refine gy_if_lt (tgt := 16) (gi_rgS g4) dX11_level_8 (by decide) (fun z => absurd z c5) (fun _ => ?_)
      refine gx_iload_n dX11_level_11 rfl 3 rfl ?_
      refine gy_iconst dX11_level_12 ?_
      refine gx_iE e (fun c6 e => ?_) (fun c6 e => ?_)
      · refine gy_icmp_le (tgt := 26) (gi_rgS g4) (by decide) dX11_level_13 (by decide) (fun _ => ?_) (fun z => absurd c6 z)
        refine gx_iload_n dX11_level_26 rfl 2 rfl ?_
        refine gx_bE e (fun _ g7 e => ?_)
        refine gx_iE e (fun c8 e => ?_) (fun c8 e => ?_)
        · refine gy_if_lt (tgt := 35) (gi_rgS g7) dX11_level_27 (by decide) (fun _ => ?_) (fun z => absurd c8 z)
          refine gx_sub (ls2 := []) [] rfl ?_
          exact zb_X11_level_35  e
        · refine gy_if_lt (tgt := 35) (gi_rgS g7) dX11_level_27 (by decide) (fun z => absurd z c8) (fun _ => ?_)
          refine gx_iload_n dX11_level_30 rfl 2 rfl ?_
          refine gy_iconst dX11_level_31 ?_
          refine gx_iE e (fun c9 e => ?_) (fun c9 e => ?_)
          · refine gy_icmp_le (tgt := 45) (gi_rgS g7) (by decide) dX11_level_32 (by decide) (fun _ => ?_) (fun z => absurd c9 z)
            refine gx_aload_n dX11_level_45 rfl 0 rfl ?_
            refine gx_bE e (fun t10 ht10 e => ?_)
            refine gy_fR ht10 dX11_level_46 gf_RX11_42_9_4 (by decide) gkN_9_4 gkR_9_4 ?_
            refine gx_iload_n dX11_level_49 rfl 1 rfl ?_
            refine gx_bE e (fun t11 ht11 e => ?_)
            refine gy_l1 ht11 dX11_level_50 ?_
            refine gx_istore (ls2 := [(4, .int (gI t11)), (0, .ref v0), (1, .int (gI v1)), (2, .int (gI v2)), (3, .int (gI v3))]) dX11_level_51 (Nat.le_of_ble_eq_true rfl) rfl ?_
            refine gx_aload_n dX11_level_53 rfl 1 rfl ?_
            refine gx_bE e (fun t12 ht12 e => ?_)
            refine gy_fR ht12 dX11_level_54 gf_RX11_42_9_4 (by decide) gkN_9_4 gkR_9_4 ?_
            refine gx_iload_n dX11_level_57 rfl 2 rfl ?_
            refine gx_iload_n dX11_level_58 rfl 3 rfl ?_
            refine gx_bE e (fun h13 hh13 e => ?_)
            refine gy_t1 hh13 dX11_level_59 ?_
            refine gx_aload_n dX11_level_60 rfl 1 rfl ?_
            refine gx_bE e (fun t14 ht14 e => ?_)
            refine gy_fR ht14 dX11_level_61 gf_RX11_46_9_5 (by decide) gkN_9_5 gkR_9_5 ?_
            refine gx_iload_n dX11_level_64 rfl 2 rfl ?_
            refine gx_iload_n dX11_level_65 rfl 4 rfl ?_
            refine gx_bE e (fun h15 hh15 e => ?_)
            refine gy_t1 hh15 dX11_level_66 ?_
            refine gx_iload dX11_level_67 0 rfl ?_
            cases e
            exact gx_iret dX11_level_69 rfl ⟨Nat.le_of_ble_eq_true rfl, Nat.le_of_ble_eq_true rfl⟩ (fun z => z)
          · refine gy_icmp_le (tgt := 45) (gi_rgS g7) (by decide) dX11_level_32 (by decide) (fun z => absurd z c9) (fun _ => ?_)
            refine gx_sub (ls2 := []) [] rfl ?_
            exact zb_X11_level_35  e
      · refine gy_icmp_le (tgt := 26) (gi_rgS g4) (by decide) dX11_level_13 (by decide) (fun z => absurd z c6) (fun _ => ?_)
        refine gx_sub (ls2 := []) [] rfl ?_
        exact zb_X11_level_16  e
/-! L_level  -/
set_option maxRecDepth 100000 in
def f_L_level (v0 : Nat) (v1 : Int) (v2 : Int) (v3 : Int) (h : gi_H) : Option (Int × gi_H) :=
  Option.bind (gi_is h v0 9) fun _ => Option.bind (f_X11_level v0 v1 v2 v3 h) fun q2 => gx_sm q2.1 (fun t3 => some (t3, q2.2)) (fun t3 => if t3 = gx_IOB then (some ((-101 : Int), q2.2)) else (if t3 = gx_IAE then (some ((-102 : Int), q2.2)) else (none)))
set_option maxRecDepth 100000 in
theorem z_L_level {v0 : Nat} {v1 : Int} {v2 : Int} {v3 : Int} {h : gi_H} {res : Int} {h1 : gi_H} (e : f_L_level v0 v1 v2 v3 h = some (res, h1)) : gx_Cw mL_level false [.ref v0, .int (gI v1), .int (gI v2), .int (gI v3)] (gi_cv h) (.inl (some (.int (gI res)))) (gi_cv h1) := by
  refine gx_enter (by decide +kernel) rfl (Nat.le_of_ble_eq_true rfl) ?_
  show gx_Z mL_level false false 0 0 0 [(0, .ref v0), (1, .int (gI v1)), (2, .int (gI v2)), (3, .int (gI v3))] [] (gi_cv h) (.inl (some (.int (gI res)))) (gi_cv h1)
  refine gx_aload_n dL_level_0 rfl 0 rfl ?_
  refine gx_iload_n dL_level_1 rfl 1 rfl ?_
  refine gx_iload_n dL_level_2 rfl 2 rfl ?_
  refine gx_iload_n dL_level_3 rfl 3 rfl ?_
  refine gx_bE e (fun _ hu1 e => ?_)
  refine gx_bE e (fun q2 hq2 e => ?_)
  refine gx_smE e (fun t3 ht3 e => ?_) (fun t3 ht3 e => ?_)
  · have zq2 := z_X11_level hq2
    rw [ht3] at zq2
    refine gx_callV (n := 3) (st := []) (As := [.int (gI v1), .int (gI v2), .int (gI v3)]) (b := v0) dL_level_4 zq2 rfl ⟨rfl, gw_cw_X11_level, gw_1, gp_X11_level, ⟨Nat.le_of_ble_eq_true rfl, Nat.le_of_ble_eq_true rfl⟩⟩ (gi_isS hu1) (by decide) gw_902 gw_903 gw_904 rfl ⟨Nat.le_of_ble_eq_true rfl, Nat.le_of_ble_eq_true rfl⟩ (Nat.le_of_ble_eq_true rfl) (gy_k1 (x := .int (gI t3)) (kc2 := 1) (ks2 := 6) ⟨rfl, rfl⟩ ?_) gy_kn
    cases e
    exact gx_iret dL_level_7 rfl ⟨Nat.le_of_ble_eq_true rfl, Nat.le_of_ble_eq_true rfl⟩ (fun z => z)
  · have zq2 := z_X11_level hq2
    rw [ht3] at zq2
    refine gx_callV (n := 3) (st := []) (As := [.int (gI v1), .int (gI v2), .int (gI v3)]) (b := v0) dL_level_4 zq2 rfl ⟨rfl, gw_cw_X11_level, gw_1, gp_X11_level, ⟨Nat.le_of_ble_eq_true rfl, Nat.le_of_ble_eq_true rfl⟩⟩ (gi_isS hu1) (by decide) gw_902 gw_903 gw_904 rfl ⟨Nat.le_of_ble_eq_true rfl, Nat.le_of_ble_eq_true rfl⟩ (Nat.le_of_ble_eq_true rfl) gy_kN (gy_kE (kc2 := 1) (ks2 := 6) ⟨rfl, rfl⟩ ?_)
    refine gx_iE e (fun c4 e => ?_) (fun c4 e => ?_)
    · rw [c4]
      refine gx_catch (ls2 := [(0, .ref v0), (1, .int (gI v1)), (2, .int (gI v2)), (3, .int (gI v3))]) [] (x := (0, 7, 8, 33)) rfl (fun z hz => by cases hz) (by decide +kernel) (by decide) gw_866 (by decide +kernel) (Nat.le_of_ble_eq_true rfl) (Or.inr ⟨rfl, dL_level_8⟩) rfl ?_
      refine gy_bipush dL_level_10 gcb_m101 ?_
      cases e
      exact gx_iret dL_level_12 rfl ⟨Nat.le_of_ble_eq_true rfl, Nat.le_of_ble_eq_true rfl⟩ (fun z => z)
    refine gx_iE e (fun c5 e => ?_) (fun c5 e => ?_)
    · rw [c5]
      refine gx_catch (ls2 := [(0, .ref v0), (1, .int (gI v1)), (2, .int (gI v2)), (3, .int (gI v3))]) [(0, 7, 8, 33)] (x := (0, 7, 13, 15)) rfl (by refine List.forall_mem_cons.mpr ⟨⟨by decide, "java/lang/IndexOutOfBoundsException", gw_866, by decide +kernel⟩, ?_⟩;  exact fun z hz => absurd hz List.not_mem_nil) (by decide +kernel) (by decide) gw_654 (by decide +kernel) (Nat.le_of_ble_eq_true rfl) (Or.inr ⟨rfl, dL_level_13⟩) rfl ?_
      refine gy_bipush dL_level_15 gcb_m102 ?_
      cases e
      exact gx_iret dL_level_17 rfl ⟨Nat.le_of_ble_eq_true rfl, Nat.le_of_ble_eq_true rfl⟩ (fun z => z)
    cases e
/-! X3_beginOf  -/
set_option maxRecDepth 100000 in
def b_X3_beginOf_19    (h : gi_H) : Option (Int) :=
  some (0 : Int)
set_option maxRecDepth 100000 in
theorem zb_X3_beginOf_19 {al : Bool}  {res : Int}    {h : gi_H} (e : b_X3_beginOf_19  h = some res) : gx_Z mX3_beginOf al al 0 0 19 [] [] (gi_cv h) (.inl (some (.int (gI res)))) (gi_cv h) := by
  refine gy_iconst dX3_beginOf_19 ?_
  cases e
  exact gx_iret dX3_beginOf_20 rfl ⟨Nat.le_of_ble_eq_true rfl, Nat.le_of_ble_eq_true rfl⟩ (fun z => z)
set_option maxRecDepth 100000 in
def f_X3_beginOf (v0 : Nat) (v1 : Int) (h : gi_H) : Option (Int) :=
  Option.bind (gi_rg v1) fun _ => if v1 < 0 then (b_X3_beginOf_19   h) else (if (32 : Int) ≤ v1 then (b_X3_beginOf_19   h) else (Option.bind (gi_gR h v0 2 5) fun t4 => Option.bind (gi_aI h 1 t4 v1) fun t5 => some t5))
set_option maxRecDepth 100000 in
theorem z_X3_beginOf {al : Bool} {v0 : Nat} {v1 : Int} {h : gi_H} {res : Int} (e : f_X3_beginOf v0 v1 h = some res) : gx_Cw mX3_beginOf al [.ref v0, .int (gI v1)] (gi_cv h) (.inl (some (.int (gI res)))) (gi_cv h) := by
  refine gx_enter (by decide +kernel) rfl (Nat.le_of_ble_eq_true rfl) ?_
  show gx_Z mX3_beginOf al al 0 0 0 [(0, .ref v0), (1, .int (gI v1))] [] (gi_cv h) (.inl (some (.int (gI res)))) (gi_cv h)
  refine gx_iload_n dX3_beginOf_0 rfl 1 rfl ?_
  refine gx_bE e (fun _ g1 e => ?_)
  refine gx_iE e (fun c2 e => ?_) (fun c2 e => ?_)
  · refine gy_if_lt (tgt := 19) (gi_rgS g1) dX3_beginOf_1 (by decide) (fun _ => ?_) (fun z => absurd c2 z)
    refine gx_sub (ls2 := []) [] rfl ?_
    exact zb_X3_beginOf_19  e
  · refine gy_if_lt (tgt := 19) (gi_rgS g1) dX3_beginOf_1 (by decide) (fun z => absurd z c2) (fun _ => ?_)
    refine gx_iload_n dX3_beginOf_4 rfl 1 rfl ?_
    refine gy_bipush dX3_beginOf_5 gcb_32 ?_
    refine gx_iE e (fun c3 e => ?_) (fun c3 e => ?_)
    · refine gy_icmp_ge (tgt := 19) (gi_rgS g1) (by decide) dX3_beginOf_7 (by decide) (fun _ => ?_) (fun z => absurd c3 z)
      refine gx_sub (ls2 := []) [] rfl ?_
      exact zb_X3_beginOf_19  e
    · refine gy_icmp_ge (tgt := 19) (gi_rgS g1) (by decide) dX3_beginOf_7 (by decide) (fun z => absurd z c3) (fun _ => ?_)
      refine gx_aload_n dX3_beginOf_10 rfl 0 rfl ?_
      refine gx_bE e (fun t4 ht4 e => ?_)
      refine gy_fR ht4 dX3_beginOf_11 gf_RX3_9_2_5 (by decide) gkN_2_5 gkR_2_5 ?_
      refine gx_iload_n dX3_beginOf_14 rfl 1 rfl ?_
      refine gx_bE e (fun t5 ht5 e => ?_)
      refine gy_l1 ht5 dX3_beginOf_15 ?_
      refine gx_goto (tgt := 20) dX3_beginOf_16 (by decide) ?_
      cases e
      exact gx_iret dX3_beginOf_20 rfl ⟨Nat.le_of_ble_eq_true rfl, Nat.le_of_ble_eq_true rfl⟩ (fun z => z)
/-! X3_beginnings  -/
set_option maxRecDepth 100000 in
def b_X3_beginnings_60 (n : Nat)  (v3 : Int)  (h : gi_H) : Option (Int) :=
  some (gi_or v3 (512 : Int))
set_option maxRecDepth 100000 in
theorem zb_X3_beginnings_60 {al : Bool} {n : Nat}  {res : Int}  {v3 : Int}  {h : gi_H} (e : b_X3_beginnings_60 n v3 h = some res) : gx_Z mX3_beginnings al al 0 0 60 [(3, .int (gI v3))] [] (gi_cv h) (.inl (some (.int (gI res)))) (gi_cv h) := by
  refine gx_iload_n dX3_beginnings_60 rfl 0 rfl ?_
  refine gy_sipush dX3_beginnings_61 gcs_512 ?_
  refine gy_ior dX3_beginnings_64 ?_
  cases e
  exact gx_iret dX3_beginnings_65 rfl ⟨Nat.le_of_ble_eq_true rfl, Nat.le_of_ble_eq_true rfl⟩ (fun z => z)
set_option maxRecDepth 100000 in
def b_X3_beginnings_5 (n : Nat) (r5 : Nat → Int → Int → Int → gi_H → Option (Int)) (v0 : Nat) (v1 : Int) (v3 : Int) (v4 : Int)  (h : gi_H) : Option (Int) :=
  Option.bind (gi_gR h v0 2 0) fun t1 => Option.bind (gi_is h t1 3) fun _ => Option.bind (f_X4_length t1 v1 h) fun q3 => Option.bind (gi_rg v4) fun _ => Option.bind (gi_rg q3) fun _ => if q3 ≤ v4 then (b_X3_beginnings_60 n  v3 h) else (Option.bind (gi_gR h v0 2 0) fun t7 => Option.bind (gi_is h t7 3) fun _ => Option.bind (f_X4_symbol t7 v1 v4 h) fun q9 => Option.bind (gi_is h v0 2) fun _ => Option.bind (f_X3_beginOf v0 q9 h) fun q11 => gx_nm (gi_or v3 (gi_and q11 (255 : Int))) fun t12 => Option.bind (gi_rg (gi_and q11 (512 : Int))) fun _ => if (gi_and q11 (512 : Int)) = 0 then (some t12) else (gx_nm (v4 + (1 : Int)) fun t15 => r5 v0 v1 t12 t15 h))
set_option maxRecDepth 100000 in
theorem zb_X3_beginnings_5 {al : Bool} {n : Nat} {r5 : Nat → Int → Int → Int → gi_H → Option (Int)} {res : Int} (hr5 : ∀ (x0 : Nat) (x1 : Int) (x3 : Int) (x4 : Int) (hh : gi_H), r5 x0 x1 x3 x4 hh = some res → gx_Z mX3_beginnings al al 0 0 5 [(0, .ref x0), (1, .int (gI x1)), (3, .int (gI x3)), (4, .int (gI x4))] [] (gi_cv hh) (.inl (some (.int (gI res)))) (gi_cv hh)) {v0 : Nat} {v1 : Int} {v3 : Int} {v4 : Int}  {h : gi_H} (e : b_X3_beginnings_5 n r5 v0 v1 v3 v4 h = some res) : gx_Z mX3_beginnings al al 0 0 5 [(0, .ref v0), (1, .int (gI v1)), (3, .int (gI v3)), (4, .int (gI v4))] [] (gi_cv h) (.inl (some (.int (gI res)))) (gi_cv h) := by
  refine gx_iload dX3_beginnings_5 3 rfl ?_
  refine gx_aload_n dX3_beginnings_7 rfl 0 rfl ?_
  refine gx_bE e (fun t1 ht1 e => ?_)
  refine gy_fR ht1 dX3_beginnings_8 gf_RX3_37_2_0 (by decide) gkN_2_0 gkR_2_0 ?_
  refine gx_iload_n dX3_beginnings_11 rfl 1 rfl ?_
  refine gx_bE e (fun _ hu2 e => ?_)
  refine gx_bE e (fun q3 hq3 e => ?_)
  refine gx_callV (n := 1) (st := [.int (gI v4)]) (As := [.int (gI v1)]) (b := t1) dX3_beginnings_12 (z_X4_length hq3) rfl ⟨rfl, gw_cw_X4_length, gw_3, gp_X4_length, ⟨Nat.le_of_ble_eq_true rfl, Nat.le_of_ble_eq_true rfl⟩⟩ (gi_isS hu2) (by decide) gw_410 gw_411 gw_412 rfl ⟨Nat.le_of_ble_eq_true rfl, Nat.le_of_ble_eq_true rfl⟩ (Nat.le_of_ble_eq_true rfl) (gy_k1 (x := .int (gI q3)) (kc2 := 0) (ks2 := 0) ⟨rfl, rfl⟩ ?_) gy_kn
  refine gx_bE e (fun _ g4 e => ?_)
  refine gx_bE e (fun _ g5 e => ?_)
  refine gx_iE e (fun c6 e => ?_) (fun c6 e => ?_)
  · refine gy_icmp_ge (tgt := 60) (gi_rgS g4) (gi_rgS g5) dX3_beginnings_15 (by decide) (fun _ => ?_) (fun z => absurd c6 z)
    refine gx_sub (ls2 := [(3, .int (gI v3))]) [2] rfl ?_
    exact zb_X3_beginnings_60  e
  · refine gy_icmp_ge (tgt := 60) (gi_rgS g4) (gi_rgS g5) dX3_beginnings_15 (by decide) (fun z => absurd z c6) (fun _ => ?_)
    refine gx_aload_n dX3_beginnings_18 rfl 0 rfl ?_
    refine gx_aload_n dX3_beginnings_19 rfl 0 rfl ?_
    refine gx_bE e (fun t7 ht7 e => ?_)
    refine gy_fR ht7 dX3_beginnings_20 gf_RX3_37_2_0 (by decide) gkN_2_0 gkR_2_0 ?_
    refine gx_iload_n dX3_beginnings_23 rfl 1 rfl ?_
    refine gx_iload dX3_beginnings_24 3 rfl ?_
    refine gx_bE e (fun _ hu8 e => ?_)
    refine gx_bE e (fun q9 hq9 e => ?_)
    refine gx_callV (n := 2) (st := [.ref v0]) (As := [.int (gI v1), .int (gI v4)]) (b := t7) dX3_beginnings_26 (z_X4_symbol hq9) rfl ⟨rfl, gw_cw_X4_symbol, gw_3, gp_X4_symbol, ⟨Nat.le_of_ble_eq_true rfl, Nat.le_of_ble_eq_true rfl⟩⟩ (gi_isS hu8) (by decide) gw_414 gw_415 gw_416 rfl ⟨Nat.le_of_ble_eq_true rfl, Nat.le_of_ble_eq_true rfl⟩ (Nat.le_of_ble_eq_true rfl) (gy_k1 (x := .int (gI q9)) (kc2 := 0) (ks2 := 0) ⟨rfl, rfl⟩ ?_) gy_kn
    refine gx_bE e (fun _ hu10 e => ?_)
    refine gx_bE e (fun q11 hq11 e => ?_)
    refine gx_callV (n := 1) (st := []) (As := [.int (gI q9)]) (b := v0) dX3_beginnings_29 (z_X3_beginOf hq11) rfl ⟨rfl, gw_cw_X3_beginOf, gw_6, gp_X3_beginOf, ⟨Nat.le_of_ble_eq_true rfl, Nat.le_of_ble_eq_true rfl⟩⟩ (gi_isS hu10) (by decide) gw_418 gw_420 gs_2 rfl ⟨Nat.le_of_ble_eq_true rfl, Nat.le_of_ble_eq_true rfl⟩ (Nat.le_of_ble_eq_true rfl) (gy_k1 (x := .int (gI q11)) (kc2 := 0) (ks2 := 0) ⟨rfl, rfl⟩ ?_) gy_kn
    refine gx_istore (ls2 := [(5, .int (gI q11)), (0, .ref v0), (1, .int (gI v1)), (3, .int (gI v3)), (4, .int (gI v4))]) dX3_beginnings_32 (Nat.le_of_ble_eq_true rfl) rfl ?_
    refine gx_iload_n dX3_beginnings_34 rfl 3 rfl ?_
    refine gx_iload dX3_beginnings_35 0 rfl ?_
    refine gy_sipush dX3_beginnings_37 gcs_255 ?_
    refine gy_iand dX3_beginnings_40 ?_
    refine gy_ior dX3_beginnings_41 ?_
    refine gx_nE e (fun t12 ht12 e => ?_)
    rw [ht12]
    refine gx_istore_n (ls2 := [(3, .int (gI t12)), (5, .int (gI q11)), (0, .ref v0), (1, .int (gI v1)), (4, .int (gI v4))]) dX3_beginnings_42 rfl (Nat.le_of_ble_eq_true rfl) rfl ?_
    refine gx_iload dX3_beginnings_43 1 rfl ?_
    refine gy_sipush dX3_beginnings_45 gcs_512 ?_
    refine gy_iand dX3_beginnings_48 ?_
    refine gx_bE e (fun _ g13 e => ?_)
    refine gx_iE e (fun c14 e => ?_) (fun c14 e => ?_)
    · refine gy_if_ne (tgt := 54) (gi_rgS g13) dX3_beginnings_49 (by decide) (fun z => absurd c14 z) (fun _ => ?_)
      refine gx_iload_n dX3_beginnings_52 rfl 0 rfl ?_
      cases e
      exact gx_iret dX3_beginnings_53 rfl ⟨Nat.le_of_ble_eq_true rfl, Nat.le_of_ble_eq_true rfl⟩ (fun z => z)
    · refine gy_if_ne (tgt := 54) (gi_rgS g13) dX3_beginnings_49 (by decide) (fun _ => ?_) (fun z => absurd z c14)
      refine gx_nE e (fun t15 ht15 e => ?_)
      refine gy_iinc (v := t15) (ls2 := [(4, .int (gI t15)), (3, .int (gI t12)), (5, .int (gI q11)), (0, .ref v0), (1, .int (gI v1))]) dX3_beginnings_54 4 rfl ht15 (Nat.le_of_ble_eq_true rfl) rfl ?_
      refine gx_goto (tgt := 5) dX3_beginnings_57 (by decide) ?_
      refine gx_sub (ls2 := [(0, .ref v0), (1, .int (gI v1)), (3, .int (gI t12)), (4, .int (gI t15))]) [3, 4, 1, 0] rfl ?_
      exact hr5 _ _ _ _ _ e
def l_X3_beginnings_5 (n : Nat)  : Nat → Nat → Int → Int → Int → gi_H → Option (Int)
  | 0, _, _, _, _, _ => none
  | k + 1, v0, v1, v3, v4, h => b_X3_beginnings_5 n  (l_X3_beginnings_5 n  k) v0 v1 v3 v4 h
theorem zl_X3_beginnings_5 {al : Bool} {n : Nat}  {res : Int}  : ∀ (k : Nat) (v0 : Nat) (v1 : Int) (v3 : Int) (v4 : Int) (h : gi_H), l_X3_beginnings_5 n  k v0 v1 v3 v4 h = some res → gx_Z mX3_beginnings al al 0 0 5 [(0, .ref v0), (1, .int (gI v1)), (3, .int (gI v3)), (4, .int (gI v4))] [] (gi_cv h) (.inl (some (.int (gI res)))) (gi_cv h)
  | 0, _, _, _, _, _, e => gx_0E e
  | k + 1, _, _, _, _, _, e => zb_X3_beginnings_5 (n := n)  (zl_X3_beginnings_5  k) e
set_option maxRecDepth 100000 in
def f_X3_beginnings (n : Nat) (v0 : Nat) (v1 : Int) (v2 : Int) (h : gi_H) : Option (Int) :=
  l_X3_beginnings_5 n  n v0 v1 (0 : Int) v2 h
set_option maxRecDepth 100000 in
theorem z_X3_beginnings {al : Bool} {n : Nat} {v0 : Nat} {v1 : Int} {v2 : Int} {h : gi_H} {res : Int} (e : f_X3_beginnings n v0 v1 v2 h = some res) : gx_Cw mX3_beginnings al [.ref v0, .int (gI v1), .int (gI v2)] (gi_cv h) (.inl (some (.int (gI res)))) (gi_cv h) := by
  refine gx_enter (by decide +kernel) rfl (Nat.le_of_ble_eq_true rfl) ?_
  show gx_Z mX3_beginnings al al 0 0 0 [(0, .ref v0), (1, .int (gI v1)), (2, .int (gI v2))] [] (gi_cv h) (.inl (some (.int (gI res)))) (gi_cv h)
  refine gy_iconst dX3_beginnings_0 ?_
  refine gx_istore_n (ls2 := [(3, .int (gI (0 : Int))), (0, .ref v0), (1, .int (gI v1)), (2, .int (gI v2))]) dX3_beginnings_1 rfl (Nat.le_of_ble_eq_true rfl) rfl ?_
  refine gx_iload_n dX3_beginnings_2 rfl 3 rfl ?_
  refine gx_istore (ls2 := [(4, .int (gI v2)), (3, .int (gI (0 : Int))), (0, .ref v0), (1, .int (gI v1)), (2, .int (gI v2))]) dX3_beginnings_3 (Nat.le_of_ble_eq_true rfl) rfl ?_
  refine gx_sub (ls2 := [(0, .ref v0), (1, .int (gI v1)), (3, .int (gI (0 : Int))), (4, .int (gI v2))]) [2, 3, 1, 0] rfl ?_
  exact zl_X3_beginnings_5  n _ _ _ _ _ e
/-! X3_widen  -/
set_option maxRecDepth 100000 in
def f_X3_widen (v0 : Nat) (v1 : Int) (v2 : Int) (h : gi_H) : Option (Int × gi_H) :=
  Option.bind (gi_rg v1) fun _ => if v1 < 0 then (some ((0 : Int), h)) else (Option.bind (gi_ln h v0) fun t3 => Option.bind (gi_rg t3) fun _ => if t3 ≤ v1 then (some ((0 : Int), h)) else (Option.bind (gi_aI h 1 v0 v1) fun t6 => Option.bind (gi_aI h 1 v0 v1) fun t7 => Option.bind (gi_rg (gi_or t6 v2)) fun _ => Option.bind (gi_rg t7) fun _ => if (gi_or t6 v2) = t7 then (some ((0 : Int), h)) else (Option.bind (gi_aI h 1 v0 v1) fun t11 => Option.bind (gi_s1 h v0 v1 (gi_or t11 v2)) fun h12 => some ((1 : Int), h12))))
set_option maxRecDepth 100000 in
theorem z_X3_widen {al : Bool} {v0 : Nat} {v1 : Int} {v2 : Int} {h : gi_H} {res : Int} {h1 : gi_H} (e : f_X3_widen v0 v1 v2 h = some (res, h1)) : gx_Cw mX3_widen al [.ref v0, .int (gI v1), .int (gI v2)] (gi_cv h) (.inl (some (.int (gI res)))) (gi_cv h1) := by
  refine gx_enter (by decide +kernel) rfl (Nat.le_of_ble_eq_true rfl) ?_
  show gx_Z mX3_widen al al 0 0 0 [(0, .ref v0), (1, .int (gI v1)), (2, .int (gI v2))] [] (gi_cv h) (.inl (some (.int (gI res)))) (gi_cv h1)
  refine gx_iload_n dX3_widen_0 rfl 1 rfl ?_
  refine gx_bE e (fun _ g1 e => ?_)
  refine gx_iE e (fun c2 e => ?_) (fun c2 e => ?_)
  · refine gy_if_lt (tgt := 21) (gi_rgS g1) dX3_widen_1 (by decide) (fun _ => ?_) (fun z => absurd c2 z)
    refine gy_iconst dX3_widen_21 ?_
    cases e
    exact gx_zret (by decide +kernel) dX3_widen_22 rfl ⟨Nat.le_of_ble_eq_true rfl, Nat.le_of_ble_eq_true rfl⟩ (fun z => z)
  · refine gy_if_lt (tgt := 21) (gi_rgS g1) dX3_widen_1 (by decide) (fun z => absurd z c2) (fun _ => ?_)
    refine gx_iload_n dX3_widen_4 rfl 1 rfl ?_
    refine gx_aload_n dX3_widen_5 rfl 0 rfl ?_
    refine gx_bE e (fun t3 ht3 e => ?_)
    refine gy_al0 ht3 dX3_widen_6 ?_
    refine gx_bE e (fun _ g4 e => ?_)
    refine gx_iE e (fun c5 e => ?_) (fun c5 e => ?_)
    · refine gy_icmp_ge (tgt := 21) (gi_rgS g1) (gi_rgS g4) dX3_widen_7 (by decide) (fun _ => ?_) (fun z => absurd c5 z)
      refine gy_iconst dX3_widen_21 ?_
      cases e
      exact gx_zret (by decide +kernel) dX3_widen_22 rfl ⟨Nat.le_of_ble_eq_true rfl, Nat.le_of_ble_eq_true rfl⟩ (fun z => z)
    · refine gy_icmp_ge (tgt := 21) (gi_rgS g1) (gi_rgS g4) dX3_widen_7 (by decide) (fun z => absurd z c5) (fun _ => ?_)
      refine gx_aload_n dX3_widen_10 rfl 0 rfl ?_
      refine gx_iload_n dX3_widen_11 rfl 1 rfl ?_
      refine gx_bE e (fun t6 ht6 e => ?_)
      refine gy_l1 ht6 dX3_widen_12 ?_
      refine gx_iload_n dX3_widen_13 rfl 2 rfl ?_
      refine gy_ior dX3_widen_14 ?_
      refine gx_aload_n dX3_widen_15 rfl 0 rfl ?_
      refine gx_iload_n dX3_widen_16 rfl 1 rfl ?_
      refine gx_bE e (fun t7 ht7 e => ?_)
      refine gy_l1 ht7 dX3_widen_17 ?_
      refine gx_bE e (fun _ g8 e => ?_)
      refine gx_bE e (fun _ g9 e => ?_)
      refine gx_iE e (fun c10 e => ?_) (fun c10 e => ?_)
      · refine gy_icmp_ne (tgt := 23) (gi_rgS g8) (gi_rgS g9) dX3_widen_18 (by decide) (fun z => absurd c10 z) (fun _ => ?_)
        refine gy_iconst dX3_widen_21 ?_
        cases e
        exact gx_zret (by decide +kernel) dX3_widen_22 rfl ⟨Nat.le_of_ble_eq_true rfl, Nat.le_of_ble_eq_true rfl⟩ (fun z => z)
      · refine gy_icmp_ne (tgt := 23) (gi_rgS g8) (gi_rgS g9) dX3_widen_18 (by decide) (fun _ => ?_) (fun z => absurd z c10)
        refine gx_aload_n dX3_widen_23 rfl 0 rfl ?_
        refine gx_iload_n dX3_widen_24 rfl 1 rfl ?_
        refine gx_dup2 dX3_widen_25 rfl rfl ?_
        refine gx_bE e (fun t11 ht11 e => ?_)
        refine gy_l1 ht11 dX3_widen_26 ?_
        refine gx_iload_n dX3_widen_27 rfl 2 rfl ?_
        refine gy_ior dX3_widen_28 ?_
        refine gx_bE e (fun h12 hh12 e => ?_)
        refine gy_t1 hh12 dX3_widen_29 ?_
        refine gy_iconst dX3_widen_30 ?_
        cases e
        exact gx_zret (by decide +kernel) dX3_widen_31 rfl ⟨Nat.le_of_ble_eq_true rfl, Nat.le_of_ble_eq_true rfl⟩ (fun z => z)
/-! X3_findBeginnings  -/
set_option maxRecDepth 100000 in
def b_X3_findBeginnings_97 (n : Nat) (r35 : Nat → Int → Int → gi_H → Option (gi_H)) (v0 : Nat) (v1 : Int) (v2 : Int)  (h : gi_H) : Option (gi_H) :=
  gx_nm (v2 + (1 : Int)) fun t15 => r35 v0 v1 t15 h
set_option maxRecDepth 100000 in
theorem zb_X3_findBeginnings_97 {al : Bool} {n : Nat} {r35 : Nat → Int → Int → gi_H → Option (gi_H)} {h1 : gi_H} (hr35 : ∀ (x0 : Nat) (x1 : Int) (x2 : Int) (hh : gi_H), r35 x0 x1 x2 hh = some h1 → gx_Z mX3_findBeginnings al al 0 0 35 [(0, .ref x0), (1, .int (gI x1)), (2, .int (gI x2))] [] (gi_cv hh) (.inl none) (gi_cv h1)) {v0 : Nat} {v1 : Int} {v2 : Int}  {h : gi_H} (e : b_X3_findBeginnings_97 n r35 v0 v1 v2 h = some h1) : gx_Z mX3_findBeginnings al al 0 0 97 [(0, .ref v0), (1, .int (gI v1)), (2, .int (gI v2))] [] (gi_cv h) (.inl none) (gi_cv h1) := by
  refine gx_nE e (fun t15 ht15 e => ?_)
  refine gy_iinc (v := t15) (ls2 := [(2, .int (gI t15)), (0, .ref v0), (1, .int (gI v1))]) dX3_findBeginnings_97 2 rfl ht15 (Nat.le_of_ble_eq_true rfl) rfl ?_
  refine gx_goto (tgt := 35) dX3_findBeginnings_100 (by decide) ?_
  refine gx_sub (ls2 := [(0, .ref v0), (1, .int (gI v1)), (2, .int (gI t15))]) [1, 2, 0] rfl ?_
  exact hr35 _ _ _ _ e
set_option maxRecDepth 100000 in
def b_X3_findBeginnings_49 (n : Nat) (r35 : Nat → Int → Int → gi_H → Option (gi_H)) (r49 : Nat → Int → Int → Int → gi_H → Option (gi_H)) (v0 : Nat) (v1 : Int) (v2 : Int) (v3 : Int)  (h : gi_H) : Option (gi_H) :=
  Option.bind (gi_gR h v0 2 0) fun t9 => Option.bind (gi_is h t9 3) fun _ => Option.bind (f_X4_count t9 h) fun q11 => Option.bind (gi_rg v3) fun _ => Option.bind (gi_rg q11) fun _ => if q11 ≤ v3 then (b_X3_findBeginnings_97 n r35 v0 v1 v2 h) else (Option.bind (gi_gR h v0 2 0) fun t16 => Option.bind (gi_is h t16 3) fun _ => Option.bind (f_X4_owner t16 v3 h) fun q18 => gx_nm ((16 : Int) + q18) fun t19 => Option.bind (gi_gR h v0 2 5) fun t20 => Option.bind (gi_is h v0 2) fun _ => Option.bind (f_X3_beginnings n v0 v3 (0 : Int) h) fun q22 => Option.bind (f_X3_widen t20 t19 q22 h) fun q23 => gx_nm (gi_or v1 q23.1) fun t24 => gx_nm (v3 + (1 : Int)) fun t25 => r49 v0 t24 v2 t25 q23.2)
set_option maxRecDepth 100000 in
theorem zb_X3_findBeginnings_49 {al : Bool} {n : Nat} {r35 : Nat → Int → Int → gi_H → Option (gi_H)} {r49 : Nat → Int → Int → Int → gi_H → Option (gi_H)} {h1 : gi_H} (hr35 : ∀ (x0 : Nat) (x1 : Int) (x2 : Int) (hh : gi_H), r35 x0 x1 x2 hh = some h1 → gx_Z mX3_findBeginnings al al 0 0 35 [(0, .ref x0), (1, .int (gI x1)), (2, .int (gI x2))] [] (gi_cv hh) (.inl none) (gi_cv h1)) (hr49 : ∀ (x0 : Nat) (x1 : Int) (x2 : Int) (x3 : Int) (hh : gi_H), r49 x0 x1 x2 x3 hh = some h1 → gx_Z mX3_findBeginnings al al 0 0 49 [(0, .ref x0), (1, .int (gI x1)), (2, .int (gI x2)), (3, .int (gI x3))] [] (gi_cv hh) (.inl none) (gi_cv h1)) {v0 : Nat} {v1 : Int} {v2 : Int} {v3 : Int}  {h : gi_H} (e : b_X3_findBeginnings_49 n r35 r49 v0 v1 v2 v3 h = some h1) : gx_Z mX3_findBeginnings al al 0 0 49 [(0, .ref v0), (1, .int (gI v1)), (2, .int (gI v2)), (3, .int (gI v3))] [] (gi_cv h) (.inl none) (gi_cv h1) := by
  refine gx_iload_n dX3_findBeginnings_49 rfl 3 rfl ?_
  refine gx_aload_n dX3_findBeginnings_50 rfl 0 rfl ?_
  refine gx_bE e (fun t9 ht9 e => ?_)
  refine gy_fR ht9 dX3_findBeginnings_51 gf_RX3_37_2_0 (by decide) gkN_2_0 gkR_2_0 ?_
  refine gx_bE e (fun _ hu10 e => ?_)
  refine gx_bE e (fun q11 hq11 e => ?_)
  refine gx_callV (n := 0) (st := [.int (gI v3)]) (As := []) (b := t9) dX3_findBeginnings_54 (z_X4_count hq11) rfl ⟨rfl, gw_cw_X4_count, gw_3, gp_X4_count, ⟨Nat.le_of_ble_eq_true rfl, Nat.le_of_ble_eq_true rfl⟩⟩ (gi_isS hu10) (by decide) gw_401 gw_384 gw_385 rfl ⟨Nat.le_of_ble_eq_true rfl, Nat.le_of_ble_eq_true rfl⟩ (Nat.le_of_ble_eq_true rfl) (gy_k1 (x := .int (gI q11)) (kc2 := 0) (ks2 := 0) ⟨rfl, rfl⟩ ?_) gy_kn
  refine gx_bE e (fun _ g12 e => ?_)
  refine gx_bE e (fun _ g13 e => ?_)
  refine gx_iE e (fun c14 e => ?_) (fun c14 e => ?_)
  · refine gy_icmp_ge (tgt := 97) (gi_rgS g12) (gi_rgS g13) dX3_findBeginnings_57 (by decide) (fun _ => ?_) (fun z => absurd c14 z)
    refine gx_sub (ls2 := [(0, .ref v0), (1, .int (gI v1)), (2, .int (gI v2))]) [0, 1, 2] rfl ?_
    exact zb_X3_findBeginnings_97 hr35 e
  · refine gy_icmp_ge (tgt := 97) (gi_rgS g12) (gi_rgS g13) dX3_findBeginnings_57 (by decide) (fun z => absurd z c14) (fun _ => ?_)
    refine gy_bipush dX3_findBeginnings_60 gcb_16 ?_
    refine gx_aload_n dX3_findBeginnings_62 rfl 0 rfl ?_
    refine gx_bE e (fun t16 ht16 e => ?_)
    refine gy_fR ht16 dX3_findBeginnings_63 gf_RX3_37_2_0 (by decide) gkN_2_0 gkR_2_0 ?_
    refine gx_iload_n dX3_findBeginnings_66 rfl 3 rfl ?_
    refine gx_bE e (fun _ hu17 e => ?_)
    refine gx_bE e (fun q18 hq18 e => ?_)
    refine gx_callV (n := 1) (st := [.int (gI (16 : Int))]) (As := [.int (gI v3)]) (b := t16) dX3_findBeginnings_67 (z_X4_owner hq18) rfl ⟨rfl, gw_cw_X4_owner, gw_3, gp_X4_owner, ⟨Nat.le_of_ble_eq_true rfl, Nat.le_of_ble_eq_true rfl⟩⟩ (gi_isS hu17) (by decide) gw_402 gw_403 gw_404 rfl ⟨Nat.le_of_ble_eq_true rfl, Nat.le_of_ble_eq_true rfl⟩ (Nat.le_of_ble_eq_true rfl) (gy_k1 (x := .int (gI q18)) (kc2 := 0) (ks2 := 0) ⟨rfl, rfl⟩ ?_) gy_kn
    refine gy_iadd dX3_findBeginnings_70 ?_
    refine gx_nE e (fun t19 ht19 e => ?_)
    rw [ht19]
    refine gx_istore (ls2 := [(4, .int (gI t19)), (0, .ref v0), (1, .int (gI v1)), (2, .int (gI v2)), (3, .int (gI v3))]) dX3_findBeginnings_71 (Nat.le_of_ble_eq_true rfl) rfl ?_
    refine gx_iload_n dX3_findBeginnings_73 rfl 2 rfl ?_
    refine gx_aload_n dX3_findBeginnings_74 rfl 1 rfl ?_
    refine gx_bE e (fun t20 ht20 e => ?_)
    refine gy_fR ht20 dX3_findBeginnings_75 gf_RX3_9_2_5 (by decide) gkN_2_5 gkR_2_5 ?_
    refine gx_iload dX3_findBeginnings_78 0 rfl ?_
    refine gx_aload_n dX3_findBeginnings_80 rfl 1 rfl ?_
    refine gx_iload_n dX3_findBeginnings_81 rfl 4 rfl ?_
    refine gy_iconst dX3_findBeginnings_82 ?_
    refine gx_bE e (fun _ hu21 e => ?_)
    refine gx_bE e (fun q22 hq22 e => ?_)
    refine gx_callV (n := 2) (st := [.int (gI t19), .ref t20, .int (gI v1)]) (As := [.int (gI v3), .int (gI (0 : Int))]) (b := v0) dX3_findBeginnings_83 (z_X3_beginnings hq22) rfl ⟨rfl, gw_cw_X3_beginnings, gw_6, gp_X3_beginnings, ⟨Nat.le_of_ble_eq_true rfl, Nat.le_of_ble_eq_true rfl⟩⟩ (gi_isS hu21) (by decide) gw_406 gw_408 gs_1 rfl ⟨Nat.le_of_ble_eq_true rfl, Nat.le_of_ble_eq_true rfl⟩ (Nat.le_of_ble_eq_true rfl) (gy_k1 (x := .int (gI q22)) (kc2 := 0) (ks2 := 0) ⟨rfl, rfl⟩ ?_) gy_kn
    refine gx_bE e (fun q23 hq23 e => ?_)
    refine gx_callS (n := 3) (st := [.int (gI v1)]) (As := [.ref t20, .int (gI t19), .int (gI q22)]) dX3_findBeginnings_86 (z_X3_widen hq23) rfl ⟨rfl, gw_cw_X3_widen, gw_6, gp_X3_widen, ⟨Nat.le_of_ble_eq_true rfl, Nat.le_of_ble_eq_true rfl⟩⟩ gw_422 gw_423 ⟨Nat.le_of_ble_eq_true rfl, Nat.le_of_ble_eq_true rfl⟩ (Nat.le_of_ble_eq_true rfl) (gy_k1 (x := .int (gI q23.1)) (kc2 := 0) (ks2 := 0) ⟨rfl, rfl⟩ ?_) gy_kn
    refine gy_ior dX3_findBeginnings_89 ?_
    refine gx_nE e (fun t24 ht24 e => ?_)
    rw [ht24]
    refine gx_istore_n (ls2 := [(1, .int (gI t24)), (4, .int (gI t19)), (0, .ref v0), (2, .int (gI v2)), (3, .int (gI v3))]) dX3_findBeginnings_90 rfl (Nat.le_of_ble_eq_true rfl) rfl ?_
    refine gx_nE e (fun t25 ht25 e => ?_)
    refine gy_iinc (v := t25) (ls2 := [(3, .int (gI t25)), (1, .int (gI t24)), (4, .int (gI t19)), (0, .ref v0), (2, .int (gI v2))]) dX3_findBeginnings_91 4 rfl ht25 (Nat.le_of_ble_eq_true rfl) rfl ?_
    refine gx_goto (tgt := 49) dX3_findBeginnings_94 (by decide) ?_
    refine gx_sub (ls2 := [(0, .ref v0), (1, .int (gI t24)), (2, .int (gI v2)), (3, .int (gI t25))]) [3, 1, 4, 0] rfl ?_
    exact hr49 _ _ _ _ _ e
def l_X3_findBeginnings_49 (n : Nat) (r35 : Nat → Int → Int → gi_H → Option (gi_H)) : Nat → Nat → Int → Int → Int → gi_H → Option (gi_H)
  | 0, _, _, _, _, _ => none
  | k + 1, v0, v1, v2, v3, h => b_X3_findBeginnings_49 n r35 (l_X3_findBeginnings_49 n r35 k) v0 v1 v2 v3 h
theorem zl_X3_findBeginnings_49 {al : Bool} {n : Nat} {r35 : Nat → Int → Int → gi_H → Option (gi_H)} {h1 : gi_H} (hr35 : ∀ (x0 : Nat) (x1 : Int) (x2 : Int) (hh : gi_H), r35 x0 x1 x2 hh = some h1 → gx_Z mX3_findBeginnings al al 0 0 35 [(0, .ref x0), (1, .int (gI x1)), (2, .int (gI x2))] [] (gi_cv hh) (.inl none) (gi_cv h1)) : ∀ (k : Nat) (v0 : Nat) (v1 : Int) (v2 : Int) (v3 : Int) (h : gi_H), l_X3_findBeginnings_49 n r35 k v0 v1 v2 v3 h = some h1 → gx_Z mX3_findBeginnings al al 0 0 49 [(0, .ref v0), (1, .int (gI v1)), (2, .int (gI v2)), (3, .int (gI v3))] [] (gi_cv h) (.inl none) (gi_cv h1)
  | 0, _, _, _, _, _, e => gx_0E e
  | k + 1, _, _, _, _, _, e => zb_X3_findBeginnings_49 (n := n) hr35 (zl_X3_findBeginnings_49 hr35 k) e
set_option maxRecDepth 100000 in
def b_X3_findBeginnings_35 (n : Nat) (r35 : Nat → Int → Int → gi_H → Option (gi_H)) (v0 : Nat) (v1 : Int) (v2 : Int)  (h : gi_H) : Option (gi_H) :=
  Option.bind (gi_rg v2) fun _ => if (1000000 : Int) ≤ v2 then (some h) else (Option.bind (gi_rg v1) fun _ => if v1 = 0 then (some h) else (l_X3_findBeginnings_49 n r35 n v0 (0 : Int) v2 (0 : Int) h))
set_option maxRecDepth 100000 in
theorem zb_X3_findBeginnings_35 {al : Bool} {n : Nat} {r35 : Nat → Int → Int → gi_H → Option (gi_H)} {h1 : gi_H} (hr35 : ∀ (x0 : Nat) (x1 : Int) (x2 : Int) (hh : gi_H), r35 x0 x1 x2 hh = some h1 → gx_Z mX3_findBeginnings al al 0 0 35 [(0, .ref x0), (1, .int (gI x1)), (2, .int (gI x2))] [] (gi_cv hh) (.inl none) (gi_cv h1)) {v0 : Nat} {v1 : Int} {v2 : Int}  {h : gi_H} (e : b_X3_findBeginnings_35 n r35 v0 v1 v2 h = some h1) : gx_Z mX3_findBeginnings al al 0 0 35 [(0, .ref v0), (1, .int (gI v1)), (2, .int (gI v2))] [] (gi_cv h) (.inl none) (gi_cv h1) := by
  refine gx_iload_n dX3_findBeginnings_35 rfl 2 rfl ?_
  refine gy_ldc (n := 1000000) dX3_findBeginnings_36 gw_400 (by decide +kernel) ?_
  refine gx_bE e (fun _ g5 e => ?_)
  refine gx_iE e (fun c6 e => ?_) (fun c6 e => ?_)
  · refine gy_icmp_ge (tgt := 103) (gi_rgS g5) (by decide) dX3_findBeginnings_38 (by decide) (fun _ => ?_) (fun z => absurd c6 z)
    cases e
    exact gx_vret dX3_findBeginnings_103 rfl ⟨Nat.le_of_ble_eq_true rfl, Nat.le_of_ble_eq_true rfl⟩ (fun z => z)
  · refine gy_icmp_ge (tgt := 103) (gi_rgS g5) (by decide) dX3_findBeginnings_38 (by decide) (fun z => absurd z c6) (fun _ => ?_)
    refine gx_iload_n dX3_findBeginnings_41 rfl 1 rfl ?_
    refine gx_bE e (fun _ g7 e => ?_)
    refine gx_iE e (fun c8 e => ?_) (fun c8 e => ?_)
    · refine gy_if_eq (tgt := 103) (gi_rgS g7) dX3_findBeginnings_42 (by decide) (fun _ => ?_) (fun z => absurd c8 z)
      cases e
      exact gx_vret dX3_findBeginnings_103 rfl ⟨Nat.le_of_ble_eq_true rfl, Nat.le_of_ble_eq_true rfl⟩ (fun z => z)
    · refine gy_if_eq (tgt := 103) (gi_rgS g7) dX3_findBeginnings_42 (by decide) (fun z => absurd z c8) (fun _ => ?_)
      refine gy_iconst dX3_findBeginnings_45 ?_
      refine gx_istore_n (ls2 := [(1, .int (gI (0 : Int))), (0, .ref v0), (2, .int (gI v2))]) dX3_findBeginnings_46 rfl (Nat.le_of_ble_eq_true rfl) rfl ?_
      refine gy_iconst dX3_findBeginnings_47 ?_
      refine gx_istore_n (ls2 := [(3, .int (gI (0 : Int))), (1, .int (gI (0 : Int))), (0, .ref v0), (2, .int (gI v2))]) dX3_findBeginnings_48 rfl (Nat.le_of_ble_eq_true rfl) rfl ?_
      refine gx_sub (ls2 := [(0, .ref v0), (1, .int (gI (0 : Int))), (2, .int (gI v2)), (3, .int (gI (0 : Int)))]) [2, 1, 3, 0] rfl ?_
      exact zl_X3_findBeginnings_49 hr35 n _ _ _ _ _ e
def l_X3_findBeginnings_35 (n : Nat)  : Nat → Nat → Int → Int → gi_H → Option (gi_H)
  | 0, _, _, _, _ => none
  | k + 1, v0, v1, v2, h => b_X3_findBeginnings_35 n  (l_X3_findBeginnings_35 n  k) v0 v1 v2 h
theorem zl_X3_findBeginnings_35 {al : Bool} {n : Nat}  {h1 : gi_H}  : ∀ (k : Nat) (v0 : Nat) (v1 : Int) (v2 : Int) (h : gi_H), l_X3_findBeginnings_35 n  k v0 v1 v2 h = some h1 → gx_Z mX3_findBeginnings al al 0 0 35 [(0, .ref v0), (1, .int (gI v1)), (2, .int (gI v2))] [] (gi_cv h) (.inl none) (gi_cv h1)
  | 0, _, _, _, _, e => gx_0E e
  | k + 1, _, _, _, _, e => zb_X3_findBeginnings_35 (n := n)  (zl_X3_findBeginnings_35  k) e
set_option maxRecDepth 100000 in
def b_X3_findBeginnings_31 (n : Nat)  (v0 : Nat)  (h : gi_H) : Option (gi_H) :=
  l_X3_findBeginnings_35 n  n v0 (1 : Int) (0 : Int) h
set_option maxRecDepth 100000 in
theorem zb_X3_findBeginnings_31 {al : Bool} {n : Nat}  {h1 : gi_H}  {v0 : Nat}  {h : gi_H} (e : b_X3_findBeginnings_31 n v0 h = some h1) : gx_Z mX3_findBeginnings al al 0 0 31 [(0, .ref v0)] [] (gi_cv h) (.inl none) (gi_cv h1) := by
  refine gy_iconst dX3_findBeginnings_31 ?_
  refine gx_istore_n (ls2 := [(1, .int (gI (1 : Int))), (0, .ref v0)]) dX3_findBeginnings_32 rfl (Nat.le_of_ble_eq_true rfl) rfl ?_
  refine gy_iconst dX3_findBeginnings_33 ?_
  refine gx_istore_n (ls2 := [(2, .int (gI (0 : Int))), (1, .int (gI (1 : Int))), (0, .ref v0)]) dX3_findBeginnings_34 rfl (Nat.le_of_ble_eq_true rfl) rfl ?_
  refine gx_sub (ls2 := [(0, .ref v0), (1, .int (gI (1 : Int))), (2, .int (gI (0 : Int)))]) [2, 1, 0] rfl ?_
  exact zl_X3_findBeginnings_35  n _ _ _ _ e
set_option maxRecDepth 100000 in
def b_X3_findBeginnings_10 (n : Nat) (r10 : Nat → Int → gi_H → Option (gi_H)) (v0 : Nat) (v1 : Int)  (h : gi_H) : Option (gi_H) :=
  Option.bind (gi_rg v1) fun _ => if (8 : Int) ≤ v1 then (b_X3_findBeginnings_31 n  v0 h) else (Option.bind (gi_gR h v0 2 5) fun t26 => Option.bind (gi_s1 h t26 v1 (gi_shl (1 : Int) v1)) fun h27 => gx_nm (v1 + (1 : Int)) fun t28 => r10 v0 t28 h27)
set_option maxRecDepth 100000 in
theorem zb_X3_findBeginnings_10 {al : Bool} {n : Nat} {r10 : Nat → Int → gi_H → Option (gi_H)} {h1 : gi_H} (hr10 : ∀ (x0 : Nat) (x1 : Int) (hh : gi_H), r10 x0 x1 hh = some h1 → gx_Z mX3_findBeginnings al al 0 0 10 [(0, .ref x0), (1, .int (gI x1))] [] (gi_cv hh) (.inl none) (gi_cv h1)) {v0 : Nat} {v1 : Int}  {h : gi_H} (e : b_X3_findBeginnings_10 n r10 v0 v1 h = some h1) : gx_Z mX3_findBeginnings al al 0 0 10 [(0, .ref v0), (1, .int (gI v1))] [] (gi_cv h) (.inl none) (gi_cv h1) := by
  refine gx_iload_n dX3_findBeginnings_10 rfl 1 rfl ?_
  refine gy_bipush dX3_findBeginnings_11 gcb_8 ?_
  refine gx_bE e (fun _ g3 e => ?_)
  refine gx_iE e (fun c4 e => ?_) (fun c4 e => ?_)
  · refine gy_icmp_ge (tgt := 31) (gi_rgS g3) (by decide) dX3_findBeginnings_13 (by decide) (fun _ => ?_) (fun z => absurd c4 z)
    refine gx_sub (ls2 := [(0, .ref v0)]) [0] rfl ?_
    exact zb_X3_findBeginnings_31  e
  · refine gy_icmp_ge (tgt := 31) (gi_rgS g3) (by decide) dX3_findBeginnings_13 (by decide) (fun z => absurd z c4) (fun _ => ?_)
    refine gx_aload_n dX3_findBeginnings_16 rfl 0 rfl ?_
    refine gx_bE e (fun t26 ht26 e => ?_)
    refine gy_fR ht26 dX3_findBeginnings_17 gf_RX3_9_2_5 (by decide) gkN_2_5 gkR_2_5 ?_
    refine gx_iload_n dX3_findBeginnings_20 rfl 1 rfl ?_
    refine gy_iconst dX3_findBeginnings_21 ?_
    refine gx_iload_n dX3_findBeginnings_22 rfl 1 rfl ?_
    refine gy_ishl dX3_findBeginnings_23 ?_
    refine gx_bE e (fun h27 hh27 e => ?_)
    refine gy_t1 hh27 dX3_findBeginnings_24 ?_
    refine gx_nE e (fun t28 ht28 e => ?_)
    refine gy_iinc (v := t28) (ls2 := [(1, .int (gI t28)), (0, .ref v0)]) dX3_findBeginnings_25 1 rfl ht28 (Nat.le_of_ble_eq_true rfl) rfl ?_
    refine gx_goto (tgt := 10) dX3_findBeginnings_28 (by decide) ?_
    refine gx_sub (ls2 := [(0, .ref v0), (1, .int (gI t28))]) [1, 0] rfl ?_
    exact hr10 _ _ _ e
def l_X3_findBeginnings_10 (n : Nat)  : Nat → Nat → Int → gi_H → Option (gi_H)
  | 0, _, _, _ => none
  | k + 1, v0, v1, h => b_X3_findBeginnings_10 n  (l_X3_findBeginnings_10 n  k) v0 v1 h
theorem zl_X3_findBeginnings_10 {al : Bool} {n : Nat}  {h1 : gi_H}  : ∀ (k : Nat) (v0 : Nat) (v1 : Int) (h : gi_H), l_X3_findBeginnings_10 n  k v0 v1 h = some h1 → gx_Z mX3_findBeginnings al al 0 0 10 [(0, .ref v0), (1, .int (gI v1))] [] (gi_cv h) (.inl none) (gi_cv h1)
  | 0, _, _, _, e => gx_0E e
  | k + 1, _, _, _, e => zb_X3_findBeginnings_10 (n := n)  (zl_X3_findBeginnings_10  k) e
set_option maxRecDepth 100000 in
def f_X3_findBeginnings (n : Nat) (v0 : Nat) (h : gi_H) : Option (gi_H) :=
  Option.bind (gi_gR h v0 2 5) fun t1 => Option.bind (f_J7_fill_53178 n t1 (0 : Int) h) fun q2 => l_X3_findBeginnings_10 n  n v0 (0 : Int) q2
set_option maxRecDepth 100000 in
theorem z_X3_findBeginnings {al : Bool} {n : Nat} {v0 : Nat} {h : gi_H} {h1 : gi_H} (e : f_X3_findBeginnings n v0 h = some h1) : gx_Cw mX3_findBeginnings al [.ref v0] (gi_cv h) (.inl none) (gi_cv h1) := by
  refine gx_enter (by decide +kernel) rfl (Nat.le_of_ble_eq_true rfl) ?_
  show gx_Z mX3_findBeginnings al al 0 0 0 [(0, .ref v0)] [] (gi_cv h) (.inl none) (gi_cv h1)
  refine gx_aload_n dX3_findBeginnings_0 rfl 0 rfl ?_
  refine gx_bE e (fun t1 ht1 e => ?_)
  refine gy_fR ht1 dX3_findBeginnings_1 gf_RX3_9_2_5 (by decide) gkN_2_5 gkR_2_5 ?_
  refine gy_iconst dX3_findBeginnings_4 ?_
  refine gx_bE e (fun q2 hq2 e => ?_)
  refine gx_callS (n := 2) (st := []) (As := [.ref t1, .int (gI (0 : Int))]) dX3_findBeginnings_5 (z_J7_fill_53178 hq2) rfl ⟨rfl, gw_cw_J7_fill_53178, gw_5, gp_J7_fill_53178, ⟨Nat.le_of_ble_eq_true rfl, Nat.le_of_ble_eq_true rfl⟩⟩ gw_399 gw_98 ⟨Nat.le_of_ble_eq_true rfl, Nat.le_of_ble_eq_true rfl⟩ (Nat.le_of_ble_eq_true rfl) (gy_k0 (kc2 := 0) (ks2 := 0) ⟨rfl, rfl⟩ ?_) gy_kn
  refine gy_iconst dX3_findBeginnings_8 ?_
  refine gx_istore_n (ls2 := [(1, .int (gI (0 : Int))), (0, .ref v0)]) dX3_findBeginnings_9 rfl (Nat.le_of_ble_eq_true rfl) rfl ?_
  refine gx_sub (ls2 := [(0, .ref v0), (1, .int (gI (0 : Int)))]) [1, 0] rfl ?_
  exact zl_X3_findBeginnings_10  n _ _ _ e
/-! X3_behind  -/
set_option maxRecDepth 100000 in
def b_X3_behind_19    (h : gi_H) : Option (Int) :=
  some (0 : Int)
set_option maxRecDepth 100000 in
theorem zb_X3_behind_19 {al : Bool}  {res : Int}    {h : gi_H} (e : b_X3_behind_19  h = some res) : gx_Z mX3_behind al al 0 0 19 [] [] (gi_cv h) (.inl (some (.int (gI res)))) (gi_cv h) := by
  refine gy_iconst dX3_behind_19 ?_
  cases e
  exact gx_iret dX3_behind_20 rfl ⟨Nat.le_of_ble_eq_true rfl, Nat.le_of_ble_eq_true rfl⟩ (fun z => z)
set_option maxRecDepth 100000 in
def f_X3_behind (v0 : Nat) (v1 : Int) (h : gi_H) : Option (Int) :=
  Option.bind (gi_rg v1) fun _ => if v1 < 0 then (b_X3_behind_19   h) else (if (16 : Int) ≤ v1 then (b_X3_behind_19   h) else (Option.bind (gi_gR h v0 2 6) fun t4 => Option.bind (gi_aI h 1 t4 v1) fun t5 => some t5))
set_option maxRecDepth 100000 in
theorem z_X3_behind {al : Bool} {v0 : Nat} {v1 : Int} {h : gi_H} {res : Int} (e : f_X3_behind v0 v1 h = some res) : gx_Cw mX3_behind al [.ref v0, .int (gI v1)] (gi_cv h) (.inl (some (.int (gI res)))) (gi_cv h) := by
  refine gx_enter (by decide +kernel) rfl (Nat.le_of_ble_eq_true rfl) ?_
  show gx_Z mX3_behind al al 0 0 0 [(0, .ref v0), (1, .int (gI v1))] [] (gi_cv h) (.inl (some (.int (gI res)))) (gi_cv h)
  refine gx_iload_n dX3_behind_0 rfl 1 rfl ?_
  refine gx_bE e (fun _ g1 e => ?_)
  refine gx_iE e (fun c2 e => ?_) (fun c2 e => ?_)
  · refine gy_if_lt (tgt := 19) (gi_rgS g1) dX3_behind_1 (by decide) (fun _ => ?_) (fun z => absurd c2 z)
    refine gx_sub (ls2 := []) [] rfl ?_
    exact zb_X3_behind_19  e
  · refine gy_if_lt (tgt := 19) (gi_rgS g1) dX3_behind_1 (by decide) (fun z => absurd z c2) (fun _ => ?_)
    refine gx_iload_n dX3_behind_4 rfl 1 rfl ?_
    refine gy_bipush dX3_behind_5 gcb_16 ?_
    refine gx_iE e (fun c3 e => ?_) (fun c3 e => ?_)
    · refine gy_icmp_ge (tgt := 19) (gi_rgS g1) (by decide) dX3_behind_7 (by decide) (fun _ => ?_) (fun z => absurd c3 z)
      refine gx_sub (ls2 := []) [] rfl ?_
      exact zb_X3_behind_19  e
    · refine gy_icmp_ge (tgt := 19) (gi_rgS g1) (by decide) dX3_behind_7 (by decide) (fun z => absurd z c3) (fun _ => ?_)
      refine gx_aload_n dX3_behind_10 rfl 0 rfl ?_
      refine gx_bE e (fun t4 ht4 e => ?_)
      refine gy_fR ht4 dX3_behind_11 gf_RX3_15_2_6 (by decide) gkN_2_6 gkR_2_6 ?_
      refine gx_iload_n dX3_behind_14 rfl 1 rfl ?_
      refine gx_bE e (fun t5 ht5 e => ?_)
      refine gy_l1 ht5 dX3_behind_15 ?_
      refine gx_goto (tgt := 20) dX3_behind_16 (by decide) ?_
      cases e
      exact gx_iret dX3_behind_20 rfl ⟨Nat.le_of_ble_eq_true rfl, Nat.le_of_ble_eq_true rfl⟩ (fun z => z)
/-! X11_behindOf  -/
set_option maxRecDepth 100000 in
def f_X11_behindOf (v0 : Int) (v1 : Int) (h : gi_H) : Option (Int) :=
  gx_nm (gi_and v0 (255 : Int)) fun t1 => Option.bind (gi_rg (gi_and v0 (512 : Int))) fun _ => if (gi_and v0 (512 : Int)) = 0 then (some t1) else (some (gi_or t1 v1))
set_option maxRecDepth 100000 in
theorem z_X11_behindOf {al : Bool} {v0 : Int} {v1 : Int} {h : gi_H} {res : Int} (e : f_X11_behindOf v0 v1 h = some res) : gx_Cw mX11_behindOf al [.int (gI v0), .int (gI v1)] (gi_cv h) (.inl (some (.int (gI res)))) (gi_cv h) := by
  refine gx_enter (by decide +kernel) rfl (Nat.le_of_ble_eq_true rfl) ?_
  show gx_Z mX11_behindOf al al 0 0 0 [(0, .int (gI v0)), (1, .int (gI v1))] [] (gi_cv h) (.inl (some (.int (gI res)))) (gi_cv h)
  refine gx_iload_n dX11_behindOf_0 rfl 0 rfl ?_
  refine gy_sipush dX11_behindOf_1 gcs_255 ?_
  refine gy_iand dX11_behindOf_4 ?_
  refine gx_nE e (fun t1 ht1 e => ?_)
  rw [ht1]
  refine gx_istore_n (ls2 := [(2, .int (gI t1)), (0, .int (gI v0)), (1, .int (gI v1))]) dX11_behindOf_5 rfl (Nat.le_of_ble_eq_true rfl) rfl ?_
  refine gx_iload_n dX11_behindOf_6 rfl 1 rfl ?_
  refine gy_sipush dX11_behindOf_7 gcs_512 ?_
  refine gy_iand dX11_behindOf_10 ?_
  refine gx_bE e (fun _ g2 e => ?_)
  refine gx_iE e (fun c3 e => ?_) (fun c3 e => ?_)
  · refine gy_if_eq (tgt := 20) (gi_rgS g2) dX11_behindOf_11 (by decide) (fun _ => ?_) (fun z => absurd c3 z)
    refine gx_iload_n dX11_behindOf_20 rfl 0 rfl ?_
    cases e
    exact gx_iret dX11_behindOf_21 rfl ⟨Nat.le_of_ble_eq_true rfl, Nat.le_of_ble_eq_true rfl⟩ (fun z => z)
  · refine gy_if_eq (tgt := 20) (gi_rgS g2) dX11_behindOf_11 (by decide) (fun z => absurd z c3) (fun _ => ?_)
    refine gx_iload_n dX11_behindOf_14 rfl 0 rfl ?_
    refine gx_iload_n dX11_behindOf_15 rfl 2 rfl ?_
    refine gy_ior dX11_behindOf_16 ?_
    refine gx_goto (tgt := 21) dX11_behindOf_17 (by decide) ?_
    cases e
    exact gx_iret dX11_behindOf_21 rfl ⟨Nat.le_of_ble_eq_true rfl, Nat.le_of_ble_eq_true rfl⟩ (fun z => z)
/-! X3_widenBehinds  -/
set_option maxRecDepth 100000 in
def b_X3_widenBehinds_81 (n : Nat) (r4 : Nat → Int → Int → Int → gi_H → Option (Int × gi_H)) (v0 : Nat) (v1 : Int) (v2 : Int) (v3 : Int)  (h : gi_H) : Option (Int × gi_H) :=
  gx_nm (v3 + (1 : Int)) fun t14 => r4 v0 v1 v2 t14 h
set_option maxRecDepth 100000 in
theorem zb_X3_widenBehinds_81 {al : Bool} {n : Nat} {r4 : Nat → Int → Int → Int → gi_H → Option (Int × gi_H)} {res : Int} {h1 : gi_H} (hr4 : ∀ (x0 : Nat) (x1 : Int) (x2 : Int) (x3 : Int) (hh : gi_H), r4 x0 x1 x2 x3 hh = some (res, h1) → gx_Z mX3_widenBehinds al al 0 0 4 [(0, .ref x0), (1, .int (gI x1)), (2, .int (gI x2)), (3, .int (gI x3))] [] (gi_cv hh) (.inl (some (.int (gI res)))) (gi_cv h1)) {v0 : Nat} {v1 : Int} {v2 : Int} {v3 : Int}  {h : gi_H} (e : b_X3_widenBehinds_81 n r4 v0 v1 v2 v3 h = some (res, h1)) : gx_Z mX3_widenBehinds al al 0 0 81 [(0, .ref v0), (1, .int (gI v1)), (2, .int (gI v2)), (3, .int (gI v3))] [] (gi_cv h) (.inl (some (.int (gI res)))) (gi_cv h1) := by
  refine gx_nE e (fun t14 ht14 e => ?_)
  refine gy_iinc (v := t14) (ls2 := [(3, .int (gI t14)), (0, .ref v0), (1, .int (gI v1)), (2, .int (gI v2))]) dX3_widenBehinds_81 3 rfl ht14 (Nat.le_of_ble_eq_true rfl) rfl ?_
  refine gx_goto (tgt := 4) dX3_widenBehinds_84 (by decide) ?_
  refine gx_sub (ls2 := [(0, .ref v0), (1, .int (gI v1)), (2, .int (gI v2)), (3, .int (gI t14))]) [1, 2, 3, 0] rfl ?_
  exact hr4 _ _ _ _ _ e
set_option maxRecDepth 100000 in
def b_X3_widenBehinds_4 (n : Nat) (r4 : Nat → Int → Int → Int → gi_H → Option (Int × gi_H)) (v0 : Nat) (v1 : Int) (v2 : Int) (v3 : Int)  (h : gi_H) : Option (Int × gi_H) :=
  Option.bind (gi_gR h v0 2 0) fun t1 => Option.bind (gi_is h t1 3) fun _ => Option.bind (f_X4_length t1 v1 h) fun q3 => Option.bind (gi_rg v3) fun _ => Option.bind (gi_rg q3) fun _ => if q3 ≤ v3 then (Option.bind (gi_zo v2) fun _ => some (v2, h)) else (Option.bind (gi_gR h v0 2 0) fun t8 => Option.bind (gi_is h t8 3) fun _ => Option.bind (f_X4_symbol t8 v1 v3 h) fun q10 => Option.bind (f_X11_isNonterminal q10 h) fun q11 => Option.bind (gi_rg q11) fun _ => if q11 = 0 then (b_X3_widenBehinds_81 n r4 v0 v1 v2 v3 h) else (Option.bind (gi_is h v0 2) fun _ => Option.bind (f_X3_beginnings n v0 v1 (v3 + (1 : Int)) h) fun q16 => Option.bind (gi_gR h v0 2 0) fun t17 => Option.bind (gi_is h t17 3) fun _ => Option.bind (f_X4_owner t17 v1 h) fun q19 => Option.bind (gi_is h v0 2) fun _ => Option.bind (f_X3_behind v0 q19 h) fun q21 => Option.bind (f_X11_behindOf q16 q21 h) fun q22 => Option.bind (gi_gR h v0 2 6) fun t23 => Option.bind (f_X3_widen t23 (q10 - (16 : Int)) q22 h) fun q24 => gx_nm (gi_or v2 q24.1) fun t25 => b_X3_widenBehinds_81 n r4 v0 v1 t25 v3 q24.2))
set_option maxRecDepth 100000 in
theorem zb_X3_widenBehinds_4 {al : Bool} {n : Nat} {r4 : Nat → Int → Int → Int → gi_H → Option (Int × gi_H)} {res : Int} {h1 : gi_H} (hr4 : ∀ (x0 : Nat) (x1 : Int) (x2 : Int) (x3 : Int) (hh : gi_H), r4 x0 x1 x2 x3 hh = some (res, h1) → gx_Z mX3_widenBehinds al al 0 0 4 [(0, .ref x0), (1, .int (gI x1)), (2, .int (gI x2)), (3, .int (gI x3))] [] (gi_cv hh) (.inl (some (.int (gI res)))) (gi_cv h1)) {v0 : Nat} {v1 : Int} {v2 : Int} {v3 : Int}  {h : gi_H} (e : b_X3_widenBehinds_4 n r4 v0 v1 v2 v3 h = some (res, h1)) : gx_Z mX3_widenBehinds al al 0 0 4 [(0, .ref v0), (1, .int (gI v1)), (2, .int (gI v2)), (3, .int (gI v3))] [] (gi_cv h) (.inl (some (.int (gI res)))) (gi_cv h1) := by
  refine gx_iload_n dX3_widenBehinds_4 rfl 3 rfl ?_
  refine gx_aload_n dX3_widenBehinds_5 rfl 0 rfl ?_
  refine gx_bE e (fun t1 ht1 e => ?_)
  refine gy_fR ht1 dX3_widenBehinds_6 gf_RX3_37_2_0 (by decide) gkN_2_0 gkR_2_0 ?_
  refine gx_iload_n dX3_widenBehinds_9 rfl 1 rfl ?_
  refine gx_bE e (fun _ hu2 e => ?_)
  refine gx_bE e (fun q3 hq3 e => ?_)
  refine gx_callV (n := 1) (st := [.int (gI v3)]) (As := [.int (gI v1)]) (b := t1) dX3_widenBehinds_10 (z_X4_length hq3) rfl ⟨rfl, gw_cw_X4_length, gw_3, gp_X4_length, ⟨Nat.le_of_ble_eq_true rfl, Nat.le_of_ble_eq_true rfl⟩⟩ (gi_isS hu2) (by decide) gw_410 gw_411 gw_412 rfl ⟨Nat.le_of_ble_eq_true rfl, Nat.le_of_ble_eq_true rfl⟩ (Nat.le_of_ble_eq_true rfl) (gy_k1 (x := .int (gI q3)) (kc2 := 0) (ks2 := 0) ⟨rfl, rfl⟩ ?_) gy_kn
  refine gx_bE e (fun _ g4 e => ?_)
  refine gx_bE e (fun _ g5 e => ?_)
  refine gx_iE e (fun c6 e => ?_) (fun c6 e => ?_)
  · refine gy_icmp_ge (tgt := 87) (gi_rgS g4) (gi_rgS g5) dX3_widenBehinds_13 (by decide) (fun _ => ?_) (fun z => absurd c6 z)
    refine gx_iload_n dX3_widenBehinds_87 rfl 2 rfl ?_
    refine gx_bE e (fun _ hu7 e => ?_)
    cases e
    exact gx_zret (gi_zoS hu7) dX3_widenBehinds_88 rfl ⟨Nat.le_of_ble_eq_true rfl, Nat.le_of_ble_eq_true rfl⟩ (fun z => z)
  · refine gy_icmp_ge (tgt := 87) (gi_rgS g4) (gi_rgS g5) dX3_widenBehinds_13 (by decide) (fun z => absurd z c6) (fun _ => ?_)
    refine gx_aload_n dX3_widenBehinds_16 rfl 0 rfl ?_
    refine gx_bE e (fun t8 ht8 e => ?_)
    refine gy_fR ht8 dX3_widenBehinds_17 gf_RX3_37_2_0 (by decide) gkN_2_0 gkR_2_0 ?_
    refine gx_iload_n dX3_widenBehinds_20 rfl 1 rfl ?_
    refine gx_iload_n dX3_widenBehinds_21 rfl 3 rfl ?_
    refine gx_bE e (fun _ hu9 e => ?_)
    refine gx_bE e (fun q10 hq10 e => ?_)
    refine gx_callV (n := 2) (st := []) (As := [.int (gI v1), .int (gI v3)]) (b := t8) dX3_widenBehinds_22 (z_X4_symbol hq10) rfl ⟨rfl, gw_cw_X4_symbol, gw_3, gp_X4_symbol, ⟨Nat.le_of_ble_eq_true rfl, Nat.le_of_ble_eq_true rfl⟩⟩ (gi_isS hu9) (by decide) gw_414 gw_415 gw_416 rfl ⟨Nat.le_of_ble_eq_true rfl, Nat.le_of_ble_eq_true rfl⟩ (Nat.le_of_ble_eq_true rfl) (gy_k1 (x := .int (gI q10)) (kc2 := 0) (ks2 := 0) ⟨rfl, rfl⟩ ?_) gy_kn
    refine gx_istore (ls2 := [(4, .int (gI q10)), (0, .ref v0), (1, .int (gI v1)), (2, .int (gI v2)), (3, .int (gI v3))]) dX3_widenBehinds_25 (Nat.le_of_ble_eq_true rfl) rfl ?_
    refine gx_iload dX3_widenBehinds_27 0 rfl ?_
    refine gx_bE e (fun q11 hq11 e => ?_)
    refine gx_callSN (n := 1) (st := []) (As := [.int (gI q10)]) dX3_widenBehinds_29 (z_X11_isNonterminal hq11) rfl ⟨rfl, gw_cw_X11_isNonterminal, gw_1, gp_X11_isNonterminal, ⟨Nat.le_of_ble_eq_true rfl, Nat.le_of_ble_eq_true rfl⟩⟩ (host := "Grammarsmith") (by decide +kernel) gw_438 ⟨Nat.le_of_ble_eq_true rfl, Nat.le_of_ble_eq_true rfl⟩ (Nat.le_of_ble_eq_true rfl) (gy_k1 (x := .int (gI q11)) (kc2 := 0) (ks2 := 0) ⟨rfl, rfl⟩ ?_) gy_kn
    refine gx_bE e (fun _ g12 e => ?_)
    refine gx_iE e (fun c13 e => ?_) (fun c13 e => ?_)
    · refine gy_if_eq (tgt := 81) (gi_rgS g12) dX3_widenBehinds_32 (by decide) (fun _ => ?_) (fun z => absurd c13 z)
      refine gx_sub (ls2 := [(0, .ref v0), (1, .int (gI v1)), (2, .int (gI v2)), (3, .int (gI v3))]) [1, 2, 3, 4] rfl ?_
      exact zb_X3_widenBehinds_81 hr4 e
    · refine gy_if_eq (tgt := 81) (gi_rgS g12) dX3_widenBehinds_32 (by decide) (fun z => absurd z c13) (fun _ => ?_)
      refine gx_aload_n dX3_widenBehinds_35 rfl 1 rfl ?_
      refine gx_iload_n dX3_widenBehinds_36 rfl 2 rfl ?_
      refine gx_iload_n dX3_widenBehinds_37 rfl 4 rfl ?_
      refine gy_iconst dX3_widenBehinds_38 ?_
      refine gy_iadd dX3_widenBehinds_39 ?_
      refine gx_bE e (fun _ hu15 e => ?_)
      refine gx_bE e (fun q16 hq16 e => ?_)
      refine gx_callV (n := 2) (st := []) (As := [.int (gI v1), .int (gI (v3 + (1 : Int)))]) (b := v0) dX3_widenBehinds_40 (z_X3_beginnings hq16) rfl ⟨rfl, gw_cw_X3_beginnings, gw_6, gp_X3_beginnings, ⟨Nat.le_of_ble_eq_true rfl, Nat.le_of_ble_eq_true rfl⟩⟩ (gi_isS hu15) (by decide) gw_406 gw_408 gs_1 rfl ⟨Nat.le_of_ble_eq_true rfl, Nat.le_of_ble_eq_true rfl⟩ (Nat.le_of_ble_eq_true rfl) (gy_k1 (x := .int (gI q16)) (kc2 := 0) (ks2 := 0) ⟨rfl, rfl⟩ ?_) gy_kn
      refine gx_istore (ls2 := [(5, .int (gI q16)), (4, .int (gI q10)), (0, .ref v0), (1, .int (gI v1)), (2, .int (gI v2)), (3, .int (gI v3))]) dX3_widenBehinds_43 (Nat.le_of_ble_eq_true rfl) rfl ?_
      refine gx_iload dX3_widenBehinds_45 0 rfl ?_
      refine gx_aload_n dX3_widenBehinds_47 rfl 2 rfl ?_
      refine gx_aload_n dX3_widenBehinds_48 rfl 2 rfl ?_
      refine gx_bE e (fun t17 ht17 e => ?_)
      refine gy_fR ht17 dX3_widenBehinds_49 gf_RX3_37_2_0 (by decide) gkN_2_0 gkR_2_0 ?_
      refine gx_iload_n dX3_widenBehinds_52 rfl 3 rfl ?_
      refine gx_bE e (fun _ hu18 e => ?_)
      refine gx_bE e (fun q19 hq19 e => ?_)
      refine gx_callV (n := 1) (st := [.ref v0, .int (gI q16)]) (As := [.int (gI v1)]) (b := t17) dX3_widenBehinds_53 (z_X4_owner hq19) rfl ⟨rfl, gw_cw_X4_owner, gw_3, gp_X4_owner, ⟨Nat.le_of_ble_eq_true rfl, Nat.le_of_ble_eq_true rfl⟩⟩ (gi_isS hu18) (by decide) gw_402 gw_403 gw_404 rfl ⟨Nat.le_of_ble_eq_true rfl, Nat.le_of_ble_eq_true rfl⟩ (Nat.le_of_ble_eq_true rfl) (gy_k1 (x := .int (gI q19)) (kc2 := 0) (ks2 := 0) ⟨rfl, rfl⟩ ?_) gy_kn
      refine gx_bE e (fun _ hu20 e => ?_)
      refine gx_bE e (fun q21 hq21 e => ?_)
      refine gx_callV (n := 1) (st := [.int (gI q16)]) (As := [.int (gI q19)]) (b := v0) dX3_widenBehinds_56 (z_X3_behind hq21) rfl ⟨rfl, gw_cw_X3_behind, gw_6, gp_X3_behind, ⟨Nat.le_of_ble_eq_true rfl, Nat.le_of_ble_eq_true rfl⟩⟩ (gi_isS hu20) (by decide) gw_440 gw_441 gw_442 rfl ⟨Nat.le_of_ble_eq_true rfl, Nat.le_of_ble_eq_true rfl⟩ (Nat.le_of_ble_eq_true rfl) (gy_k1 (x := .int (gI q21)) (kc2 := 0) (ks2 := 0) ⟨rfl, rfl⟩ ?_) gy_kn
      refine gx_bE e (fun q22 hq22 e => ?_)
      refine gx_callSN (n := 2) (st := []) (As := [.int (gI q16), .int (gI q21)]) dX3_widenBehinds_59 (z_X11_behindOf hq22) rfl ⟨rfl, gw_cw_X11_behindOf, gw_1, gp_X11_behindOf, ⟨Nat.le_of_ble_eq_true rfl, Nat.le_of_ble_eq_true rfl⟩⟩ (host := "Grammarsmith") (by decide +kernel) gw_445 ⟨Nat.le_of_ble_eq_true rfl, Nat.le_of_ble_eq_true rfl⟩ (Nat.le_of_ble_eq_true rfl) (gy_k1 (x := .int (gI q22)) (kc2 := 0) (ks2 := 0) ⟨rfl, rfl⟩ ?_) gy_kn
      refine gx_istore (ls2 := [(6, .int (gI q22)), (5, .int (gI q16)), (4, .int (gI q10)), (0, .ref v0), (1, .int (gI v1)), (2, .int (gI v2)), (3, .int (gI v3))]) dX3_widenBehinds_62 (Nat.le_of_ble_eq_true rfl) rfl ?_
      refine gx_iload_n dX3_widenBehinds_64 rfl 5 rfl ?_
      refine gx_aload_n dX3_widenBehinds_65 rfl 3 rfl ?_
      refine gx_bE e (fun t23 ht23 e => ?_)
      refine gy_fR ht23 dX3_widenBehinds_66 gf_RX3_15_2_6 (by decide) gkN_2_6 gkR_2_6 ?_
      refine gx_iload dX3_widenBehinds_69 2 rfl ?_
      refine gy_bipush dX3_widenBehinds_71 gcb_16 ?_
      refine gy_isub dX3_widenBehinds_73 ?_
      refine gx_iload dX3_widenBehinds_74 0 rfl ?_
      refine gx_bE e (fun q24 hq24 e => ?_)
      refine gx_callS (n := 3) (st := [.int (gI v2)]) (As := [.ref t23, .int (gI (q10 - (16 : Int))), .int (gI q22)]) dX3_widenBehinds_76 (z_X3_widen hq24) rfl ⟨rfl, gw_cw_X3_widen, gw_6, gp_X3_widen, ⟨Nat.le_of_ble_eq_true rfl, Nat.le_of_ble_eq_true rfl⟩⟩ gw_422 gw_423 ⟨Nat.le_of_ble_eq_true rfl, Nat.le_of_ble_eq_true rfl⟩ (Nat.le_of_ble_eq_true rfl) (gy_k1 (x := .int (gI q24.1)) (kc2 := 0) (ks2 := 0) ⟨rfl, rfl⟩ ?_) gy_kn
      refine gy_ior dX3_widenBehinds_79 ?_
      refine gx_nE e (fun t25 ht25 e => ?_)
      rw [ht25]
      refine gx_istore_n (ls2 := [(2, .int (gI t25)), (6, .int (gI q22)), (5, .int (gI q16)), (4, .int (gI q10)), (0, .ref v0), (1, .int (gI v1)), (3, .int (gI v3))]) dX3_widenBehinds_80 rfl (Nat.le_of_ble_eq_true rfl) rfl ?_
      refine gx_sub (ls2 := [(0, .ref v0), (1, .int (gI v1)), (2, .int (gI t25)), (3, .int (gI v3))]) [4, 5, 0, 6] rfl ?_
      exact zb_X3_widenBehinds_81 hr4 e
def l_X3_widenBehinds_4 (n : Nat)  : Nat → Nat → Int → Int → Int → gi_H → Option (Int × gi_H)
  | 0, _, _, _, _, _ => none
  | k + 1, v0, v1, v2, v3, h => b_X3_widenBehinds_4 n  (l_X3_widenBehinds_4 n  k) v0 v1 v2 v3 h
theorem zl_X3_widenBehinds_4 {al : Bool} {n : Nat}  {res : Int} {h1 : gi_H}  : ∀ (k : Nat) (v0 : Nat) (v1 : Int) (v2 : Int) (v3 : Int) (h : gi_H), l_X3_widenBehinds_4 n  k v0 v1 v2 v3 h = some (res, h1) → gx_Z mX3_widenBehinds al al 0 0 4 [(0, .ref v0), (1, .int (gI v1)), (2, .int (gI v2)), (3, .int (gI v3))] [] (gi_cv h) (.inl (some (.int (gI res)))) (gi_cv h1)
  | 0, _, _, _, _, _, e => gx_0E e
  | k + 1, _, _, _, _, _, e => zb_X3_widenBehinds_4 (n := n)  (zl_X3_widenBehinds_4  k) e
set_option maxRecDepth 100000 in
def f_X3_widenBehinds (n : Nat) (v0 : Nat) (v1 : Int) (h : gi_H) : Option (Int × gi_H) :=
  l_X3_widenBehinds_4 n  n v0 v1 (0 : Int) (0 : Int) h
set_option maxRecDepth 100000 in
theorem z_X3_widenBehinds {al : Bool} {n : Nat} {v0 : Nat} {v1 : Int} {h : gi_H} {res : Int} {h1 : gi_H} (e : f_X3_widenBehinds n v0 v1 h = some (res, h1)) : gx_Cw mX3_widenBehinds al [.ref v0, .int (gI v1)] (gi_cv h) (.inl (some (.int (gI res)))) (gi_cv h1) := by
  refine gx_enter (by decide +kernel) rfl (Nat.le_of_ble_eq_true rfl) ?_
  show gx_Z mX3_widenBehinds al al 0 0 0 [(0, .ref v0), (1, .int (gI v1))] [] (gi_cv h) (.inl (some (.int (gI res)))) (gi_cv h1)
  refine gy_iconst dX3_widenBehinds_0 ?_
  refine gx_istore_n (ls2 := [(2, .int (gI (0 : Int))), (0, .ref v0), (1, .int (gI v1))]) dX3_widenBehinds_1 rfl (Nat.le_of_ble_eq_true rfl) rfl ?_
  refine gy_iconst dX3_widenBehinds_2 ?_
  refine gx_istore_n (ls2 := [(3, .int (gI (0 : Int))), (2, .int (gI (0 : Int))), (0, .ref v0), (1, .int (gI v1))]) dX3_widenBehinds_3 rfl (Nat.le_of_ble_eq_true rfl) rfl ?_
  refine gx_sub (ls2 := [(0, .ref v0), (1, .int (gI v1)), (2, .int (gI (0 : Int))), (3, .int (gI (0 : Int)))]) [2, 3, 1, 0] rfl ?_
  exact zl_X3_widenBehinds_4  n _ _ _ _ _ e
/-! X3_findBehinds  -/
set_option maxRecDepth 100000 in
def b_X3_findBehinds_69 (n : Nat) (r30 : Nat → Int → Int → gi_H → Option (gi_H)) (v0 : Nat) (v1 : Int) (v2 : Int)  (h : gi_H) : Option (gi_H) :=
  gx_nm (v2 + (1 : Int)) fun t18 => r30 v0 v1 t18 h
set_option maxRecDepth 100000 in
theorem zb_X3_findBehinds_69 {al : Bool} {n : Nat} {r30 : Nat → Int → Int → gi_H → Option (gi_H)} {h1 : gi_H} (hr30 : ∀ (x0 : Nat) (x1 : Int) (x2 : Int) (hh : gi_H), r30 x0 x1 x2 hh = some h1 → gx_Z mX3_findBehinds al al 0 0 30 [(0, .ref x0), (1, .int (gI x1)), (2, .int (gI x2))] [] (gi_cv hh) (.inl none) (gi_cv h1)) {v0 : Nat} {v1 : Int} {v2 : Int}  {h : gi_H} (e : b_X3_findBehinds_69 n r30 v0 v1 v2 h = some h1) : gx_Z mX3_findBehinds al al 0 0 69 [(0, .ref v0), (1, .int (gI v1)), (2, .int (gI v2))] [] (gi_cv h) (.inl none) (gi_cv h1) := by
  refine gx_nE e (fun t18 ht18 e => ?_)
  refine gy_iinc (v := t18) (ls2 := [(2, .int (gI t18)), (0, .ref v0), (1, .int (gI v1))]) dX3_findBehinds_69 2 rfl ht18 (Nat.le_of_ble_eq_true rfl) rfl ?_
  refine gx_goto (tgt := 30) dX3_findBehinds_72 (by decide) ?_
  refine gx_sub (ls2 := [(0, .ref v0), (1, .int (gI v1)), (2, .int (gI t18))]) [1, 2, 0] rfl ?_
  exact hr30 _ _ _ _ e
set_option maxRecDepth 100000 in
def b_X3_findBehinds_44 (n : Nat) (r30 : Nat → Int → Int → gi_H → Option (gi_H)) (r44 : Nat → Int → Int → Int → gi_H → Option (gi_H)) (v0 : Nat) (v1 : Int) (v2 : Int) (v3 : Int)  (h : gi_H) : Option (gi_H) :=
  Option.bind (gi_gR h v0 2 0) fun t12 => Option.bind (gi_is h t12 3) fun _ => Option.bind (f_X4_count t12 h) fun q14 => Option.bind (gi_rg v3) fun _ => Option.bind (gi_rg q14) fun _ => if q14 ≤ v3 then (b_X3_findBehinds_69 n r30 v0 v1 v2 h) else (Option.bind (gi_is h v0 2) fun _ => Option.bind (f_X3_widenBehinds n v0 v3 h) fun q20 => gx_nm (gi_or v1 q20.1) fun t21 => gx_nm (v3 + (1 : Int)) fun t22 => r44 v0 t21 v2 t22 q20.2)
set_option maxRecDepth 100000 in
theorem zb_X3_findBehinds_44 {al : Bool} {n : Nat} {r30 : Nat → Int → Int → gi_H → Option (gi_H)} {r44 : Nat → Int → Int → Int → gi_H → Option (gi_H)} {h1 : gi_H} (hr30 : ∀ (x0 : Nat) (x1 : Int) (x2 : Int) (hh : gi_H), r30 x0 x1 x2 hh = some h1 → gx_Z mX3_findBehinds al al 0 0 30 [(0, .ref x0), (1, .int (gI x1)), (2, .int (gI x2))] [] (gi_cv hh) (.inl none) (gi_cv h1)) (hr44 : ∀ (x0 : Nat) (x1 : Int) (x2 : Int) (x3 : Int) (hh : gi_H), r44 x0 x1 x2 x3 hh = some h1 → gx_Z mX3_findBehinds al al 0 0 44 [(0, .ref x0), (1, .int (gI x1)), (2, .int (gI x2)), (3, .int (gI x3))] [] (gi_cv hh) (.inl none) (gi_cv h1)) {v0 : Nat} {v1 : Int} {v2 : Int} {v3 : Int}  {h : gi_H} (e : b_X3_findBehinds_44 n r30 r44 v0 v1 v2 v3 h = some h1) : gx_Z mX3_findBehinds al al 0 0 44 [(0, .ref v0), (1, .int (gI v1)), (2, .int (gI v2)), (3, .int (gI v3))] [] (gi_cv h) (.inl none) (gi_cv h1) := by
  refine gx_iload_n dX3_findBehinds_44 rfl 3 rfl ?_
  refine gx_aload_n dX3_findBehinds_45 rfl 0 rfl ?_
  refine gx_bE e (fun t12 ht12 e => ?_)
  refine gy_fR ht12 dX3_findBehinds_46 gf_RX3_37_2_0 (by decide) gkN_2_0 gkR_2_0 ?_
  refine gx_bE e (fun _ hu13 e => ?_)
  refine gx_bE e (fun q14 hq14 e => ?_)
  refine gx_callV (n := 0) (st := [.int (gI v3)]) (As := []) (b := t12) dX3_findBehinds_49 (z_X4_count hq14) rfl ⟨rfl, gw_cw_X4_count, gw_3, gp_X4_count, ⟨Nat.le_of_ble_eq_true rfl, Nat.le_of_ble_eq_true rfl⟩⟩ (gi_isS hu13) (by decide) gw_401 gw_384 gw_385 rfl ⟨Nat.le_of_ble_eq_true rfl, Nat.le_of_ble_eq_true rfl⟩ (Nat.le_of_ble_eq_true rfl) (gy_k1 (x := .int (gI q14)) (kc2 := 0) (ks2 := 0) ⟨rfl, rfl⟩ ?_) gy_kn
  refine gx_bE e (fun _ g15 e => ?_)
  refine gx_bE e (fun _ g16 e => ?_)
  refine gx_iE e (fun c17 e => ?_) (fun c17 e => ?_)
  · refine gy_icmp_ge (tgt := 69) (gi_rgS g15) (gi_rgS g16) dX3_findBehinds_52 (by decide) (fun _ => ?_) (fun z => absurd c17 z)
    refine gx_sub (ls2 := [(0, .ref v0), (1, .int (gI v1)), (2, .int (gI v2))]) [0, 1, 2] rfl ?_
    exact zb_X3_findBehinds_69 hr30 e
  · refine gy_icmp_ge (tgt := 69) (gi_rgS g15) (gi_rgS g16) dX3_findBehinds_52 (by decide) (fun z => absurd z c17) (fun _ => ?_)
    refine gx_iload_n dX3_findBehinds_55 rfl 1 rfl ?_
    refine gx_aload_n dX3_findBehinds_56 rfl 0 rfl ?_
    refine gx_iload_n dX3_findBehinds_57 rfl 3 rfl ?_
    refine gx_bE e (fun _ hu19 e => ?_)
    refine gx_bE e (fun q20 hq20 e => ?_)
    refine gx_callV (n := 1) (st := [.int (gI v1)]) (As := [.int (gI v3)]) (b := v0) dX3_findBehinds_58 (z_X3_widenBehinds hq20) rfl ⟨rfl, gw_cw_X3_widenBehinds, gw_6, gp_X3_widenBehinds, ⟨Nat.le_of_ble_eq_true rfl, Nat.le_of_ble_eq_true rfl⟩⟩ (gi_isS hu19) (by decide) gw_433 gw_435 gs_4 rfl ⟨Nat.le_of_ble_eq_true rfl, Nat.le_of_ble_eq_true rfl⟩ (Nat.le_of_ble_eq_true rfl) (gy_k1 (x := .int (gI q20.1)) (kc2 := 0) (ks2 := 0) ⟨rfl, rfl⟩ ?_) gy_kn
    refine gy_ior dX3_findBehinds_61 ?_
    refine gx_nE e (fun t21 ht21 e => ?_)
    rw [ht21]
    refine gx_istore_n (ls2 := [(1, .int (gI t21)), (0, .ref v0), (2, .int (gI v2)), (3, .int (gI v3))]) dX3_findBehinds_62 rfl (Nat.le_of_ble_eq_true rfl) rfl ?_
    refine gx_nE e (fun t22 ht22 e => ?_)
    refine gy_iinc (v := t22) (ls2 := [(3, .int (gI t22)), (1, .int (gI t21)), (0, .ref v0), (2, .int (gI v2))]) dX3_findBehinds_63 3 rfl ht22 (Nat.le_of_ble_eq_true rfl) rfl ?_
    refine gx_goto (tgt := 44) dX3_findBehinds_66 (by decide) ?_
    refine gx_sub (ls2 := [(0, .ref v0), (1, .int (gI t21)), (2, .int (gI v2)), (3, .int (gI t22))]) [2, 1, 3, 0] rfl ?_
    exact hr44 _ _ _ _ _ e
def l_X3_findBehinds_44 (n : Nat) (r30 : Nat → Int → Int → gi_H → Option (gi_H)) : Nat → Nat → Int → Int → Int → gi_H → Option (gi_H)
  | 0, _, _, _, _, _ => none
  | k + 1, v0, v1, v2, v3, h => b_X3_findBehinds_44 n r30 (l_X3_findBehinds_44 n r30 k) v0 v1 v2 v3 h
theorem zl_X3_findBehinds_44 {al : Bool} {n : Nat} {r30 : Nat → Int → Int → gi_H → Option (gi_H)} {h1 : gi_H} (hr30 : ∀ (x0 : Nat) (x1 : Int) (x2 : Int) (hh : gi_H), r30 x0 x1 x2 hh = some h1 → gx_Z mX3_findBehinds al al 0 0 30 [(0, .ref x0), (1, .int (gI x1)), (2, .int (gI x2))] [] (gi_cv hh) (.inl none) (gi_cv h1)) : ∀ (k : Nat) (v0 : Nat) (v1 : Int) (v2 : Int) (v3 : Int) (h : gi_H), l_X3_findBehinds_44 n r30 k v0 v1 v2 v3 h = some h1 → gx_Z mX3_findBehinds al al 0 0 44 [(0, .ref v0), (1, .int (gI v1)), (2, .int (gI v2)), (3, .int (gI v3))] [] (gi_cv h) (.inl none) (gi_cv h1)
  | 0, _, _, _, _, _, e => gx_0E e
  | k + 1, _, _, _, _, _, e => zb_X3_findBehinds_44 (n := n) hr30 (zl_X3_findBehinds_44 hr30 k) e
set_option maxRecDepth 100000 in
def b_X3_findBehinds_30 (n : Nat) (r30 : Nat → Int → Int → gi_H → Option (gi_H)) (v0 : Nat) (v1 : Int) (v2 : Int)  (h : gi_H) : Option (gi_H) :=
  Option.bind (gi_rg v2) fun _ => if (1000000 : Int) ≤ v2 then (some h) else (Option.bind (gi_rg v1) fun _ => if v1 = 0 then (some h) else (l_X3_findBehinds_44 n r30 n v0 (0 : Int) v2 (0 : Int) h))
set_option maxRecDepth 100000 in
theorem zb_X3_findBehinds_30 {al : Bool} {n : Nat} {r30 : Nat → Int → Int → gi_H → Option (gi_H)} {h1 : gi_H} (hr30 : ∀ (x0 : Nat) (x1 : Int) (x2 : Int) (hh : gi_H), r30 x0 x1 x2 hh = some h1 → gx_Z mX3_findBehinds al al 0 0 30 [(0, .ref x0), (1, .int (gI x1)), (2, .int (gI x2))] [] (gi_cv hh) (.inl none) (gi_cv h1)) {v0 : Nat} {v1 : Int} {v2 : Int}  {h : gi_H} (e : b_X3_findBehinds_30 n r30 v0 v1 v2 h = some h1) : gx_Z mX3_findBehinds al al 0 0 30 [(0, .ref v0), (1, .int (gI v1)), (2, .int (gI v2))] [] (gi_cv h) (.inl none) (gi_cv h1) := by
  refine gx_iload_n dX3_findBehinds_30 rfl 2 rfl ?_
  refine gy_ldc (n := 1000000) dX3_findBehinds_31 gw_400 (by decide +kernel) ?_
  refine gx_bE e (fun _ g8 e => ?_)
  refine gx_iE e (fun c9 e => ?_) (fun c9 e => ?_)
  · refine gy_icmp_ge (tgt := 75) (gi_rgS g8) (by decide) dX3_findBehinds_33 (by decide) (fun _ => ?_) (fun z => absurd c9 z)
    cases e
    exact gx_vret dX3_findBehinds_75 rfl ⟨Nat.le_of_ble_eq_true rfl, Nat.le_of_ble_eq_true rfl⟩ (fun z => z)
  · refine gy_icmp_ge (tgt := 75) (gi_rgS g8) (by decide) dX3_findBehinds_33 (by decide) (fun z => absurd z c9) (fun _ => ?_)
    refine gx_iload_n dX3_findBehinds_36 rfl 1 rfl ?_
    refine gx_bE e (fun _ g10 e => ?_)
    refine gx_iE e (fun c11 e => ?_) (fun c11 e => ?_)
    · refine gy_if_eq (tgt := 75) (gi_rgS g10) dX3_findBehinds_37 (by decide) (fun _ => ?_) (fun z => absurd c11 z)
      cases e
      exact gx_vret dX3_findBehinds_75 rfl ⟨Nat.le_of_ble_eq_true rfl, Nat.le_of_ble_eq_true rfl⟩ (fun z => z)
    · refine gy_if_eq (tgt := 75) (gi_rgS g10) dX3_findBehinds_37 (by decide) (fun z => absurd z c11) (fun _ => ?_)
      refine gy_iconst dX3_findBehinds_40 ?_
      refine gx_istore_n (ls2 := [(1, .int (gI (0 : Int))), (0, .ref v0), (2, .int (gI v2))]) dX3_findBehinds_41 rfl (Nat.le_of_ble_eq_true rfl) rfl ?_
      refine gy_iconst dX3_findBehinds_42 ?_
      refine gx_istore_n (ls2 := [(3, .int (gI (0 : Int))), (1, .int (gI (0 : Int))), (0, .ref v0), (2, .int (gI v2))]) dX3_findBehinds_43 rfl (Nat.le_of_ble_eq_true rfl) rfl ?_
      refine gx_sub (ls2 := [(0, .ref v0), (1, .int (gI (0 : Int))), (2, .int (gI v2)), (3, .int (gI (0 : Int)))]) [2, 1, 3, 0] rfl ?_
      exact zl_X3_findBehinds_44 hr30 n _ _ _ _ _ e
def l_X3_findBehinds_30 (n : Nat)  : Nat → Nat → Int → Int → gi_H → Option (gi_H)
  | 0, _, _, _, _ => none
  | k + 1, v0, v1, v2, h => b_X3_findBehinds_30 n  (l_X3_findBehinds_30 n  k) v0 v1 v2 h
theorem zl_X3_findBehinds_30 {al : Bool} {n : Nat}  {h1 : gi_H}  : ∀ (k : Nat) (v0 : Nat) (v1 : Int) (v2 : Int) (h : gi_H), l_X3_findBehinds_30 n  k v0 v1 v2 h = some h1 → gx_Z mX3_findBehinds al al 0 0 30 [(0, .ref v0), (1, .int (gI v1)), (2, .int (gI v2))] [] (gi_cv h) (.inl none) (gi_cv h1)
  | 0, _, _, _, _, e => gx_0E e
  | k + 1, _, _, _, _, e => zb_X3_findBehinds_30 (n := n)  (zl_X3_findBehinds_30  k) e
set_option maxRecDepth 100000 in
def f_X3_findBehinds (n : Nat) (v0 : Nat) (h : gi_H) : Option (gi_H) :=
  Option.bind (gi_gR h v0 2 6) fun t1 => Option.bind (f_J7_fill_53178 n t1 (0 : Int) h) fun q2 => Option.bind (gi_gR q2 v0 2 6) fun t3 => Option.bind (gi_gR q2 v0 2 0) fun t4 => Option.bind (gi_is q2 t4 3) fun _ => Option.bind (f_X4_top t4 q2) fun q6 => Option.bind (f_X3_widen t3 q6 (256 : Int) q2) fun q7 => l_X3_findBehinds_30 n  n v0 (1 : Int) (0 : Int) q7.2
set_option maxRecDepth 100000 in
theorem z_X3_findBehinds {al : Bool} {n : Nat} {v0 : Nat} {h : gi_H} {h1 : gi_H} (e : f_X3_findBehinds n v0 h = some h1) : gx_Cw mX3_findBehinds al [.ref v0] (gi_cv h) (.inl none) (gi_cv h1) := by
  refine gx_enter (by decide +kernel) rfl (Nat.le_of_ble_eq_true rfl) ?_
  show gx_Z mX3_findBehinds al al 0 0 0 [(0, .ref v0)] [] (gi_cv h) (.inl none) (gi_cv h1)
  refine gx_aload_n dX3_findBehinds_0 rfl 0 rfl ?_
  refine gx_bE e (fun t1 ht1 e => ?_)
  refine gy_fR ht1 dX3_findBehinds_1 gf_RX3_15_2_6 (by decide) gkN_2_6 gkR_2_6 ?_
  refine gy_iconst dX3_findBehinds_4 ?_
  refine gx_bE e (fun q2 hq2 e => ?_)
  refine gx_callS (n := 2) (st := []) (As := [.ref t1, .int (gI (0 : Int))]) dX3_findBehinds_5 (z_J7_fill_53178 hq2) rfl ⟨rfl, gw_cw_J7_fill_53178, gw_5, gp_J7_fill_53178, ⟨Nat.le_of_ble_eq_true rfl, Nat.le_of_ble_eq_true rfl⟩⟩ gw_399 gw_98 ⟨Nat.le_of_ble_eq_true rfl, Nat.le_of_ble_eq_true rfl⟩ (Nat.le_of_ble_eq_true rfl) (gy_k0 (kc2 := 0) (ks2 := 0) ⟨rfl, rfl⟩ ?_) gy_kn
  refine gx_aload_n dX3_findBehinds_8 rfl 0 rfl ?_
  refine gx_bE e (fun t3 ht3 e => ?_)
  refine gy_fR ht3 dX3_findBehinds_9 gf_RX3_15_2_6 (by decide) gkN_2_6 gkR_2_6 ?_
  refine gx_aload_n dX3_findBehinds_12 rfl 0 rfl ?_
  refine gx_bE e (fun t4 ht4 e => ?_)
  refine gy_fR ht4 dX3_findBehinds_13 gf_RX3_37_2_0 (by decide) gkN_2_0 gkR_2_0 ?_
  refine gx_bE e (fun _ hu5 e => ?_)
  refine gx_bE e (fun q6 hq6 e => ?_)
  refine gx_callV (n := 0) (st := [.ref t3]) (As := []) (b := t4) dX3_findBehinds_16 (z_X4_top hq6) rfl ⟨rfl, gw_cw_X4_top, gw_3, gp_X4_top, ⟨Nat.le_of_ble_eq_true rfl, Nat.le_of_ble_eq_true rfl⟩⟩ (gi_isS hu5) (by decide) gw_429 gw_430 gw_431 rfl ⟨Nat.le_of_ble_eq_true rfl, Nat.le_of_ble_eq_true rfl⟩ (Nat.le_of_ble_eq_true rfl) (gy_k1 (x := .int (gI q6)) (kc2 := 0) (ks2 := 0) ⟨rfl, rfl⟩ ?_) gy_kn
  refine gy_sipush dX3_findBehinds_19 gcs_256 ?_
  refine gx_bE e (fun q7 hq7 e => ?_)
  refine gx_callS (n := 3) (st := []) (As := [.ref t3, .int (gI q6), .int (gI (256 : Int))]) dX3_findBehinds_22 (z_X3_widen hq7) rfl ⟨rfl, gw_cw_X3_widen, gw_6, gp_X3_widen, ⟨Nat.le_of_ble_eq_true rfl, Nat.le_of_ble_eq_true rfl⟩⟩ gw_422 gw_423 ⟨Nat.le_of_ble_eq_true rfl, Nat.le_of_ble_eq_true rfl⟩ (Nat.le_of_ble_eq_true rfl) (gy_k1 (x := .int (gI q7.1)) (kc2 := 0) (ks2 := 0) ⟨rfl, rfl⟩ ?_) gy_kn
  refine gx_pop dX3_findBehinds_25 rfl ?_
  refine gy_iconst dX3_findBehinds_26 ?_
  refine gx_istore_n (ls2 := [(1, .int (gI (1 : Int))), (0, .ref v0)]) dX3_findBehinds_27 rfl (Nat.le_of_ble_eq_true rfl) rfl ?_
  refine gy_iconst dX3_findBehinds_28 ?_
  refine gx_istore_n (ls2 := [(2, .int (gI (0 : Int))), (1, .int (gI (1 : Int))), (0, .ref v0)]) dX3_findBehinds_29 rfl (Nat.le_of_ble_eq_true rfl) rfl ?_
  refine gx_sub (ls2 := [(0, .ref v0), (1, .int (gI (1 : Int))), (2, .int (gI (0 : Int)))]) [2, 1, 0] rfl ?_
  exact zl_X3_findBehinds_30  n _ _ _ _ e
/-! X3_relate  -/
set_option maxRecDepth 100000 in
def f_X3_relate (v0 : Nat) (v1 : Int) (v2 : Int) (h : gi_H) : Option (gi_H) :=
  Option.bind (gi_gR h v0 2 0) fun t1 => Option.bind (gi_is h t1 3) fun _ => Option.bind (f_X4_symbol t1 v1 v2 h) fun q3 => Option.bind (f_X11_isNonterminal q3 h) fun q4 => Option.bind (gi_rg q4) fun _ => if q4 = 0 then (some h) else (Option.bind (gi_gR h v0 2 11) fun t7 => Option.bind (gi_gR h v0 2 0) fun t8 => Option.bind (gi_is h t8 3) fun _ => Option.bind (f_X4_owner t8 v1 h) fun q10 => Option.bind (f_X3_widen t7 q10 (gi_shl (1 : Int) (q3 - (16 : Int))) h) fun q11 => some q11.2)
set_option maxRecDepth 100000 in
theorem z_X3_relate {al : Bool} {v0 : Nat} {v1 : Int} {v2 : Int} {h : gi_H} {h1 : gi_H} (e : f_X3_relate v0 v1 v2 h = some h1) : gx_Cw mX3_relate al [.ref v0, .int (gI v1), .int (gI v2)] (gi_cv h) (.inl none) (gi_cv h1) := by
  refine gx_enter (by decide +kernel) rfl (Nat.le_of_ble_eq_true rfl) ?_
  show gx_Z mX3_relate al al 0 0 0 [(0, .ref v0), (1, .int (gI v1)), (2, .int (gI v2))] [] (gi_cv h) (.inl none) (gi_cv h1)
  refine gx_aload_n dX3_relate_0 rfl 0 rfl ?_
  refine gx_bE e (fun t1 ht1 e => ?_)
  refine gy_fR ht1 dX3_relate_1 gf_RX3_37_2_0 (by decide) gkN_2_0 gkR_2_0 ?_
  refine gx_iload_n dX3_relate_4 rfl 1 rfl ?_
  refine gx_iload_n dX3_relate_5 rfl 2 rfl ?_
  refine gx_bE e (fun _ hu2 e => ?_)
  refine gx_bE e (fun q3 hq3 e => ?_)
  refine gx_callV (n := 2) (st := []) (As := [.int (gI v1), .int (gI v2)]) (b := t1) dX3_relate_6 (z_X4_symbol hq3) rfl ⟨rfl, gw_cw_X4_symbol, gw_3, gp_X4_symbol, ⟨Nat.le_of_ble_eq_true rfl, Nat.le_of_ble_eq_true rfl⟩⟩ (gi_isS hu2) (by decide) gw_414 gw_415 gw_416 rfl ⟨Nat.le_of_ble_eq_true rfl, Nat.le_of_ble_eq_true rfl⟩ (Nat.le_of_ble_eq_true rfl) (gy_k1 (x := .int (gI q3)) (kc2 := 0) (ks2 := 0) ⟨rfl, rfl⟩ ?_) gy_kn
  refine gx_istore_n (ls2 := [(3, .int (gI q3)), (0, .ref v0), (1, .int (gI v1)), (2, .int (gI v2))]) dX3_relate_9 rfl (Nat.le_of_ble_eq_true rfl) rfl ?_
  refine gx_iload_n dX3_relate_10 rfl 0 rfl ?_
  refine gx_bE e (fun q4 hq4 e => ?_)
  refine gx_callSN (n := 1) (st := []) (As := [.int (gI q3)]) dX3_relate_11 (z_X11_isNonterminal hq4) rfl ⟨rfl, gw_cw_X11_isNonterminal, gw_1, gp_X11_isNonterminal, ⟨Nat.le_of_ble_eq_true rfl, Nat.le_of_ble_eq_true rfl⟩⟩ (host := "Grammarsmith") (by decide +kernel) gw_438 ⟨Nat.le_of_ble_eq_true rfl, Nat.le_of_ble_eq_true rfl⟩ (Nat.le_of_ble_eq_true rfl) (gy_k1 (x := .int (gI q4)) (kc2 := 0) (ks2 := 0) ⟨rfl, rfl⟩ ?_) gy_kn
  refine gx_bE e (fun _ g5 e => ?_)
  refine gx_iE e (fun c6 e => ?_) (fun c6 e => ?_)
  · refine gy_if_eq (tgt := 39) (gi_rgS g5) dX3_relate_14 (by decide) (fun _ => ?_) (fun z => absurd c6 z)
    cases e
    exact gx_vret dX3_relate_39 rfl ⟨Nat.le_of_ble_eq_true rfl, Nat.le_of_ble_eq_true rfl⟩ (fun z => z)
  · refine gy_if_eq (tgt := 39) (gi_rgS g5) dX3_relate_14 (by decide) (fun z => absurd z c6) (fun _ => ?_)
    refine gx_aload_n dX3_relate_17 rfl 1 rfl ?_
    refine gx_bE e (fun t7 ht7 e => ?_)
    refine gy_fR ht7 dX3_relate_18 gf_RX3_28_2_11 (by decide) gkN_2_11 gkR_2_11 ?_
    refine gx_aload_n dX3_relate_21 rfl 1 rfl ?_
    refine gx_bE e (fun t8 ht8 e => ?_)
    refine gy_fR ht8 dX3_relate_22 gf_RX3_37_2_0 (by decide) gkN_2_0 gkR_2_0 ?_
    refine gx_iload_n dX3_relate_25 rfl 2 rfl ?_
    refine gx_bE e (fun _ hu9 e => ?_)
    refine gx_bE e (fun q10 hq10 e => ?_)
    refine gx_callV (n := 1) (st := [.ref t7]) (As := [.int (gI v1)]) (b := t8) dX3_relate_26 (z_X4_owner hq10) rfl ⟨rfl, gw_cw_X4_owner, gw_3, gp_X4_owner, ⟨Nat.le_of_ble_eq_true rfl, Nat.le_of_ble_eq_true rfl⟩⟩ (gi_isS hu9) (by decide) gw_402 gw_403 gw_404 rfl ⟨Nat.le_of_ble_eq_true rfl, Nat.le_of_ble_eq_true rfl⟩ (Nat.le_of_ble_eq_true rfl) (gy_k1 (x := .int (gI q10)) (kc2 := 0) (ks2 := 0) ⟨rfl, rfl⟩ ?_) gy_kn
    refine gy_iconst dX3_relate_29 ?_
    refine gx_iload_n dX3_relate_30 rfl 0 rfl ?_
    refine gy_bipush dX3_relate_31 gcb_16 ?_
    refine gy_isub dX3_relate_33 ?_
    refine gy_ishl dX3_relate_34 ?_
    refine gx_bE e (fun q11 hq11 e => ?_)
    refine gx_callS (n := 3) (st := []) (As := [.ref t7, .int (gI q10), .int (gI (gi_shl (1 : Int) (q3 - (16 : Int))))]) dX3_relate_35 (z_X3_widen hq11) rfl ⟨rfl, gw_cw_X3_widen, gw_6, gp_X3_widen, ⟨Nat.le_of_ble_eq_true rfl, Nat.le_of_ble_eq_true rfl⟩⟩ gw_422 gw_423 ⟨Nat.le_of_ble_eq_true rfl, Nat.le_of_ble_eq_true rfl⟩ (Nat.le_of_ble_eq_true rfl) (gy_k1 (x := .int (gI q11.1)) (kc2 := 0) (ks2 := 0) ⟨rfl, rfl⟩ ?_) gy_kn
    refine gx_pop dX3_relate_38 rfl ?_
    cases e
    exact gx_vret dX3_relate_39 rfl ⟨Nat.le_of_ble_eq_true rfl, Nat.le_of_ble_eq_true rfl⟩ (fun z => z)
/-! X3_closeRelation  -/
set_option maxRecDepth 100000 in
def b_X3_closeRelation_50 (n : Nat) (r2 : Nat → Int → gi_H → Option (gi_H)) (v0 : Nat) (v1 : Int)  (h : gi_H) : Option (gi_H) :=
  gx_nm (v1 + (1 : Int)) fun t5 => r2 v0 t5 h
set_option maxRecDepth 100000 in
theorem zb_X3_closeRelation_50 {al : Bool} {n : Nat} {r2 : Nat → Int → gi_H → Option (gi_H)} {h1 : gi_H} (hr2 : ∀ (x0 : Nat) (x1 : Int) (hh : gi_H), r2 x0 x1 hh = some h1 → gx_Z mX3_closeRelation al al 0 0 2 [(0, .ref x0), (1, .int (gI x1))] [] (gi_cv hh) (.inl none) (gi_cv h1)) {v0 : Nat} {v1 : Int}  {h : gi_H} (e : b_X3_closeRelation_50 n r2 v0 v1 h = some h1) : gx_Z mX3_closeRelation al al 0 0 50 [(0, .ref v0), (1, .int (gI v1))] [] (gi_cv h) (.inl none) (gi_cv h1) := by
  refine gx_nE e (fun t5 ht5 e => ?_)
  refine gy_iinc (v := t5) (ls2 := [(1, .int (gI t5)), (0, .ref v0)]) dX3_closeRelation_50 1 rfl ht5 (Nat.le_of_ble_eq_true rfl) rfl ?_
  refine gx_goto (tgt := 2) dX3_closeRelation_53 (by decide) ?_
  refine gx_sub (ls2 := [(0, .ref v0), (1, .int (gI t5))]) [1, 0] rfl ?_
  exact hr2 _ _ _ e
set_option maxRecDepth 100000 in
def b_X3_closeRelation_44 (n : Nat) (r2 : Nat → Int → gi_H → Option (gi_H)) (r10 : Nat → Int → Int → gi_H → Option (gi_H)) (v0 : Nat) (v1 : Int) (v2 : Int)  (h : gi_H) : Option (gi_H) :=
  gx_nm (v2 + (1 : Int)) fun t11 => r10 v0 v1 t11 h
set_option maxRecDepth 100000 in
theorem zb_X3_closeRelation_44 {al : Bool} {n : Nat} {r2 : Nat → Int → gi_H → Option (gi_H)} {r10 : Nat → Int → Int → gi_H → Option (gi_H)} {h1 : gi_H} (hr2 : ∀ (x0 : Nat) (x1 : Int) (hh : gi_H), r2 x0 x1 hh = some h1 → gx_Z mX3_closeRelation al al 0 0 2 [(0, .ref x0), (1, .int (gI x1))] [] (gi_cv hh) (.inl none) (gi_cv h1)) (hr10 : ∀ (x0 : Nat) (x1 : Int) (x2 : Int) (hh : gi_H), r10 x0 x1 x2 hh = some h1 → gx_Z mX3_closeRelation al al 0 0 10 [(0, .ref x0), (1, .int (gI x1)), (2, .int (gI x2))] [] (gi_cv hh) (.inl none) (gi_cv h1)) {v0 : Nat} {v1 : Int} {v2 : Int}  {h : gi_H} (e : b_X3_closeRelation_44 n r2 r10 v0 v1 v2 h = some h1) : gx_Z mX3_closeRelation al al 0 0 44 [(0, .ref v0), (1, .int (gI v1)), (2, .int (gI v2))] [] (gi_cv h) (.inl none) (gi_cv h1) := by
  refine gx_nE e (fun t11 ht11 e => ?_)
  refine gy_iinc (v := t11) (ls2 := [(2, .int (gI t11)), (0, .ref v0), (1, .int (gI v1))]) dX3_closeRelation_44 2 rfl ht11 (Nat.le_of_ble_eq_true rfl) rfl ?_
  refine gx_goto (tgt := 10) dX3_closeRelation_47 (by decide) ?_
  refine gx_sub (ls2 := [(0, .ref v0), (1, .int (gI v1)), (2, .int (gI t11))]) [1, 2, 0] rfl ?_
  exact hr10 _ _ _ _ e
set_option maxRecDepth 100000 in
def b_X3_closeRelation_10 (n : Nat) (r2 : Nat → Int → gi_H → Option (gi_H)) (r10 : Nat → Int → Int → gi_H → Option (gi_H)) (v0 : Nat) (v1 : Int) (v2 : Int)  (h : gi_H) : Option (gi_H) :=
  Option.bind (gi_rg v2) fun _ => if (16 : Int) ≤ v2 then (b_X3_closeRelation_50 n r2 v0 v1 h) else (Option.bind (gi_gR h v0 2 11) fun t6 => Option.bind (gi_aI h 1 t6 v2) fun t7 => Option.bind (f_X11_has t7 v1 h) fun q8 => Option.bind (gi_rg q8) fun _ => if q8 = 0 then (b_X3_closeRelation_44 n r2 r10 v0 v1 v2 h) else (Option.bind (gi_gR h v0 2 11) fun t12 => Option.bind (gi_aI h 1 t12 v2) fun t13 => Option.bind (gi_gR h v0 2 11) fun t14 => Option.bind (gi_aI h 1 t14 v1) fun t15 => Option.bind (gi_s1 h t12 v2 (gi_or t13 t15)) fun h16 => b_X3_closeRelation_44 n r2 r10 v0 v1 v2 h16))
set_option maxRecDepth 100000 in
theorem zb_X3_closeRelation_10 {al : Bool} {n : Nat} {r2 : Nat → Int → gi_H → Option (gi_H)} {r10 : Nat → Int → Int → gi_H → Option (gi_H)} {h1 : gi_H} (hr2 : ∀ (x0 : Nat) (x1 : Int) (hh : gi_H), r2 x0 x1 hh = some h1 → gx_Z mX3_closeRelation al al 0 0 2 [(0, .ref x0), (1, .int (gI x1))] [] (gi_cv hh) (.inl none) (gi_cv h1)) (hr10 : ∀ (x0 : Nat) (x1 : Int) (x2 : Int) (hh : gi_H), r10 x0 x1 x2 hh = some h1 → gx_Z mX3_closeRelation al al 0 0 10 [(0, .ref x0), (1, .int (gI x1)), (2, .int (gI x2))] [] (gi_cv hh) (.inl none) (gi_cv h1)) {v0 : Nat} {v1 : Int} {v2 : Int}  {h : gi_H} (e : b_X3_closeRelation_10 n r2 r10 v0 v1 v2 h = some h1) : gx_Z mX3_closeRelation al al 0 0 10 [(0, .ref v0), (1, .int (gI v1)), (2, .int (gI v2))] [] (gi_cv h) (.inl none) (gi_cv h1) := by
  refine gx_iload_n dX3_closeRelation_10 rfl 2 rfl ?_
  refine gy_bipush dX3_closeRelation_11 gcb_16 ?_
  refine gx_bE e (fun _ g3 e => ?_)
  refine gx_iE e (fun c4 e => ?_) (fun c4 e => ?_)
  · refine gy_icmp_ge (tgt := 50) (gi_rgS g3) (by decide) dX3_closeRelation_13 (by decide) (fun _ => ?_) (fun z => absurd c4 z)
    refine gx_sub (ls2 := [(0, .ref v0), (1, .int (gI v1))]) [0, 1] rfl ?_
    exact zb_X3_closeRelation_50 hr2 e
  · refine gy_icmp_ge (tgt := 50) (gi_rgS g3) (by decide) dX3_closeRelation_13 (by decide) (fun z => absurd z c4) (fun _ => ?_)
    refine gx_aload_n dX3_closeRelation_16 rfl 0 rfl ?_
    refine gx_bE e (fun t6 ht6 e => ?_)
    refine gy_fR ht6 dX3_closeRelation_17 gf_RX3_28_2_11 (by decide) gkN_2_11 gkR_2_11 ?_
    refine gx_iload_n dX3_closeRelation_20 rfl 2 rfl ?_
    refine gx_bE e (fun t7 ht7 e => ?_)
    refine gy_l1 ht7 dX3_closeRelation_21 ?_
    refine gx_iload_n dX3_closeRelation_22 rfl 1 rfl ?_
    refine gx_bE e (fun q8 hq8 e => ?_)
    refine gx_callSN (n := 2) (st := []) (As := [.int (gI t7), .int (gI v1)]) dX3_closeRelation_23 (z_X11_has hq8) rfl ⟨rfl, gw_cw_X11_has, gw_1, gp_X11_has, ⟨Nat.le_of_ble_eq_true rfl, Nat.le_of_ble_eq_true rfl⟩⟩ (host := "Grammarsmith") (by decide +kernel) gw_460 ⟨Nat.le_of_ble_eq_true rfl, Nat.le_of_ble_eq_true rfl⟩ (Nat.le_of_ble_eq_true rfl) (gy_k1 (x := .int (gI q8)) (kc2 := 0) (ks2 := 0) ⟨rfl, rfl⟩ ?_) gy_kn
    refine gx_bE e (fun _ g9 e => ?_)
    refine gx_iE e (fun c10 e => ?_) (fun c10 e => ?_)
    · refine gy_if_eq (tgt := 44) (gi_rgS g9) dX3_closeRelation_26 (by decide) (fun _ => ?_) (fun z => absurd c10 z)
      exact zb_X3_closeRelation_44 hr2 hr10 e
    · refine gy_if_eq (tgt := 44) (gi_rgS g9) dX3_closeRelation_26 (by decide) (fun z => absurd z c10) (fun _ => ?_)
      refine gx_aload_n dX3_closeRelation_29 rfl 0 rfl ?_
      refine gx_bE e (fun t12 ht12 e => ?_)
      refine gy_fR ht12 dX3_closeRelation_30 gf_RX3_28_2_11 (by decide) gkN_2_11 gkR_2_11 ?_
      refine gx_iload_n dX3_closeRelation_33 rfl 2 rfl ?_
      refine gx_dup2 dX3_closeRelation_34 rfl rfl ?_
      refine gx_bE e (fun t13 ht13 e => ?_)
      refine gy_l1 ht13 dX3_closeRelation_35 ?_
      refine gx_aload_n dX3_closeRelation_36 rfl 0 rfl ?_
      refine gx_bE e (fun t14 ht14 e => ?_)
      refine gy_fR ht14 dX3_closeRelation_37 gf_RX3_28_2_11 (by decide) gkN_2_11 gkR_2_11 ?_
      refine gx_iload_n dX3_closeRelation_40 rfl 1 rfl ?_
      refine gx_bE e (fun t15 ht15 e => ?_)
      refine gy_l1 ht15 dX3_closeRelation_41 ?_
      refine gy_ior dX3_closeRelation_42 ?_
      refine gx_bE e (fun h16 hh16 e => ?_)
      refine gy_t1 hh16 dX3_closeRelation_43 ?_
      exact zb_X3_closeRelation_44 hr2 hr10 e
def l_X3_closeRelation_10 (n : Nat) (r2 : Nat → Int → gi_H → Option (gi_H)) : Nat → Nat → Int → Int → gi_H → Option (gi_H)
  | 0, _, _, _, _ => none
  | k + 1, v0, v1, v2, h => b_X3_closeRelation_10 n r2 (l_X3_closeRelation_10 n r2 k) v0 v1 v2 h
theorem zl_X3_closeRelation_10 {al : Bool} {n : Nat} {r2 : Nat → Int → gi_H → Option (gi_H)} {h1 : gi_H} (hr2 : ∀ (x0 : Nat) (x1 : Int) (hh : gi_H), r2 x0 x1 hh = some h1 → gx_Z mX3_closeRelation al al 0 0 2 [(0, .ref x0), (1, .int (gI x1))] [] (gi_cv hh) (.inl none) (gi_cv h1)) : ∀ (k : Nat) (v0 : Nat) (v1 : Int) (v2 : Int) (h : gi_H), l_X3_closeRelation_10 n r2 k v0 v1 v2 h = some h1 → gx_Z mX3_closeRelation al al 0 0 10 [(0, .ref v0), (1, .int (gI v1)), (2, .int (gI v2))] [] (gi_cv h) (.inl none) (gi_cv h1)
  | 0, _, _, _, _, e => gx_0E e
  | k + 1, _, _, _, _, e => zb_X3_closeRelation_10 (n := n) hr2 (zl_X3_closeRelation_10 hr2 k) e
set_option maxRecDepth 100000 in
def b_X3_closeRelation_2 (n : Nat) (r2 : Nat → Int → gi_H → Option (gi_H)) (v0 : Nat) (v1 : Int)  (h : gi_H) : Option (gi_H) :=
  Option.bind (gi_rg v1) fun _ => if (16 : Int) ≤ v1 then (some h) else (l_X3_closeRelation_10 n r2 n v0 v1 (0 : Int) h)
set_option maxRecDepth 100000 in
theorem zb_X3_closeRelation_2 {al : Bool} {n : Nat} {r2 : Nat → Int → gi_H → Option (gi_H)} {h1 : gi_H} (hr2 : ∀ (x0 : Nat) (x1 : Int) (hh : gi_H), r2 x0 x1 hh = some h1 → gx_Z mX3_closeRelation al al 0 0 2 [(0, .ref x0), (1, .int (gI x1))] [] (gi_cv hh) (.inl none) (gi_cv h1)) {v0 : Nat} {v1 : Int}  {h : gi_H} (e : b_X3_closeRelation_2 n r2 v0 v1 h = some h1) : gx_Z mX3_closeRelation al al 0 0 2 [(0, .ref v0), (1, .int (gI v1))] [] (gi_cv h) (.inl none) (gi_cv h1) := by
  refine gx_iload_n dX3_closeRelation_2 rfl 1 rfl ?_
  refine gy_bipush dX3_closeRelation_3 gcb_16 ?_
  refine gx_bE e (fun _ g1 e => ?_)
  refine gx_iE e (fun c2 e => ?_) (fun c2 e => ?_)
  · refine gy_icmp_ge (tgt := 56) (gi_rgS g1) (by decide) dX3_closeRelation_5 (by decide) (fun _ => ?_) (fun z => absurd c2 z)
    cases e
    exact gx_vret dX3_closeRelation_56 rfl ⟨Nat.le_of_ble_eq_true rfl, Nat.le_of_ble_eq_true rfl⟩ (fun z => z)
  · refine gy_icmp_ge (tgt := 56) (gi_rgS g1) (by decide) dX3_closeRelation_5 (by decide) (fun z => absurd z c2) (fun _ => ?_)
    refine gy_iconst dX3_closeRelation_8 ?_
    refine gx_istore_n (ls2 := [(2, .int (gI (0 : Int))), (0, .ref v0), (1, .int (gI v1))]) dX3_closeRelation_9 rfl (Nat.le_of_ble_eq_true rfl) rfl ?_
    refine gx_sub (ls2 := [(0, .ref v0), (1, .int (gI v1)), (2, .int (gI (0 : Int)))]) [1, 2, 0] rfl ?_
    exact zl_X3_closeRelation_10 hr2 n _ _ _ _ e
def l_X3_closeRelation_2 (n : Nat)  : Nat → Nat → Int → gi_H → Option (gi_H)
  | 0, _, _, _ => none
  | k + 1, v0, v1, h => b_X3_closeRelation_2 n  (l_X3_closeRelation_2 n  k) v0 v1 h
theorem zl_X3_closeRelation_2 {al : Bool} {n : Nat}  {h1 : gi_H}  : ∀ (k : Nat) (v0 : Nat) (v1 : Int) (h : gi_H), l_X3_closeRelation_2 n  k v0 v1 h = some h1 → gx_Z mX3_closeRelation al al 0 0 2 [(0, .ref v0), (1, .int (gI v1))] [] (gi_cv h) (.inl none) (gi_cv h1)
  | 0, _, _, _, e => gx_0E e
  | k + 1, _, _, _, e => zb_X3_closeRelation_2 (n := n)  (zl_X3_closeRelation_2  k) e
set_option maxRecDepth 100000 in
def f_X3_closeRelation (n : Nat) (v0 : Nat) (h : gi_H) : Option (gi_H) :=
  l_X3_closeRelation_2 n  n v0 (0 : Int) h
set_option maxRecDepth 100000 in
theorem z_X3_closeRelation {al : Bool} {n : Nat} {v0 : Nat} {h : gi_H} {h1 : gi_H} (e : f_X3_closeRelation n v0 h = some h1) : gx_Cw mX3_closeRelation al [.ref v0] (gi_cv h) (.inl none) (gi_cv h1) := by
  refine gx_enter (by decide +kernel) rfl (Nat.le_of_ble_eq_true rfl) ?_
  show gx_Z mX3_closeRelation al al 0 0 0 [(0, .ref v0)] [] (gi_cv h) (.inl none) (gi_cv h1)
  refine gy_iconst dX3_closeRelation_0 ?_
  refine gx_istore_n (ls2 := [(1, .int (gI (0 : Int))), (0, .ref v0)]) dX3_closeRelation_1 rfl (Nat.le_of_ble_eq_true rfl) rfl ?_
  refine gx_sub (ls2 := [(0, .ref v0), (1, .int (gI (0 : Int)))]) [1, 0] rfl ?_
  exact zl_X3_closeRelation_2  n _ _ _ e
/-! X3_findReached  -/
set_option maxRecDepth 100000 in
def b_X3_findReached_53 (n : Nat)  (v0 : Nat)  (h : gi_H) : Option (gi_H) :=
  Option.bind (gi_is h v0 2) fun _ => Option.bind (f_X3_closeRelation n v0 h) fun q10 => Option.bind (gi_gR q10 v0 2 0) fun t11 => Option.bind (gi_is q10 t11 3) fun _ => Option.bind (f_X4_top t11 q10) fun q13 => Option.bind (gi_pI q10 v0 2 2 (gi_shl (1 : Int) q13)) fun h14 => Option.bind (gi_rg q13) fun _ => if q13 < 0 then (some h14) else (if (16 : Int) ≤ q13 then (some h14) else (Option.bind (gi_gI h14 v0 2 2) fun t18 => Option.bind (gi_gR h14 v0 2 11) fun t19 => Option.bind (gi_aI h14 1 t19 q13) fun t20 => Option.bind (gi_pI h14 v0 2 2 (gi_or t18 t20)) fun h21 => some h21))
set_option maxRecDepth 100000 in
theorem zb_X3_findReached_53 {al : Bool} {n : Nat}  {h1 : gi_H}  {v0 : Nat}  {h : gi_H} (e : b_X3_findReached_53 n v0 h = some h1) : gx_Z mX3_findReached al al 0 0 53 [(0, .ref v0)] [] (gi_cv h) (.inl none) (gi_cv h1) := by
  refine gx_aload_n dX3_findReached_53 rfl 0 rfl ?_
  refine gx_bE e (fun _ hu9 e => ?_)
  refine gx_bE e (fun q10 hq10 e => ?_)
  refine gx_callV (n := 0) (st := []) (As := []) (b := v0) dX3_findReached_54 (z_X3_closeRelation hq10) rfl ⟨rfl, gw_cw_X3_closeRelation, gw_6, gp_X3_closeRelation, ⟨Nat.le_of_ble_eq_true rfl, Nat.le_of_ble_eq_true rfl⟩⟩ (gi_isS hu9) (by decide) gw_455 gw_457 gs_7 rfl ⟨Nat.le_of_ble_eq_true rfl, Nat.le_of_ble_eq_true rfl⟩ (Nat.le_of_ble_eq_true rfl) (gy_k0 (kc2 := 0) (ks2 := 0) ⟨rfl, rfl⟩ ?_) gy_kn
  refine gx_aload_n dX3_findReached_57 rfl 0 rfl ?_
  refine gx_bE e (fun t11 ht11 e => ?_)
  refine gy_fR ht11 dX3_findReached_58 gf_RX3_37_2_0 (by decide) gkN_2_0 gkR_2_0 ?_
  refine gx_bE e (fun _ hu12 e => ?_)
  refine gx_bE e (fun q13 hq13 e => ?_)
  refine gx_callV (n := 0) (st := []) (As := []) (b := t11) dX3_findReached_61 (z_X4_top hq13) rfl ⟨rfl, gw_cw_X4_top, gw_3, gp_X4_top, ⟨Nat.le_of_ble_eq_true rfl, Nat.le_of_ble_eq_true rfl⟩⟩ (gi_isS hu12) (by decide) gw_429 gw_430 gw_431 rfl ⟨Nat.le_of_ble_eq_true rfl, Nat.le_of_ble_eq_true rfl⟩ (Nat.le_of_ble_eq_true rfl) (gy_k1 (x := .int (gI q13)) (kc2 := 0) (ks2 := 0) ⟨rfl, rfl⟩ ?_) gy_kn
  refine gx_istore_n (ls2 := [(1, .int (gI q13)), (0, .ref v0)]) dX3_findReached_64 rfl (Nat.le_of_ble_eq_true rfl) rfl ?_
  refine gx_aload_n dX3_findReached_65 rfl 1 rfl ?_
  refine gy_iconst dX3_findReached_66 ?_
  refine gx_iload_n dX3_findReached_67 rfl 0 rfl ?_
  refine gy_ishl dX3_findReached_68 ?_
  refine gx_bE e (fun h14 hh14 e => ?_)
  refine gy_qI hh14 dX3_findReached_69 gf_RX3_79_2_2 (by decide) gkN_2_2 rfl (Or.inl rfl) ?_
  refine gx_iload_n dX3_findReached_72 rfl 0 rfl ?_
  refine gx_bE e (fun _ g15 e => ?_)
  refine gx_iE e (fun c16 e => ?_) (fun c16 e => ?_)
  · refine gy_if_lt (tgt := 97) (gi_rgS g15) dX3_findReached_73 (by decide) (fun _ => ?_) (fun z => absurd c16 z)
    cases e
    exact gx_vret dX3_findReached_97 rfl ⟨Nat.le_of_ble_eq_true rfl, Nat.le_of_ble_eq_true rfl⟩ (fun z => z)
  · refine gy_if_lt (tgt := 97) (gi_rgS g15) dX3_findReached_73 (by decide) (fun z => absurd z c16) (fun _ => ?_)
    refine gx_iload_n dX3_findReached_76 rfl 0 rfl ?_
    refine gy_bipush dX3_findReached_77 gcb_16 ?_
    refine gx_iE e (fun c17 e => ?_) (fun c17 e => ?_)
    · refine gy_icmp_ge (tgt := 97) (gi_rgS g15) (by decide) dX3_findReached_79 (by decide) (fun _ => ?_) (fun z => absurd c17 z)
      cases e
      exact gx_vret dX3_findReached_97 rfl ⟨Nat.le_of_ble_eq_true rfl, Nat.le_of_ble_eq_true rfl⟩ (fun z => z)
    · refine gy_icmp_ge (tgt := 97) (gi_rgS g15) (by decide) dX3_findReached_79 (by decide) (fun z => absurd z c17) (fun _ => ?_)
      refine gx_aload_n dX3_findReached_82 rfl 1 rfl ?_
      refine gx_dup dX3_findReached_83 rfl ?_
      refine gx_bE e (fun t18 ht18 e => ?_)
      refine gy_fI ht18 dX3_findReached_84 gf_RX3_79_2_2 (by decide) gkN_2_2 gkR_2_2 ?_
      refine gx_aload_n dX3_findReached_87 rfl 1 rfl ?_
      refine gx_bE e (fun t19 ht19 e => ?_)
      refine gy_fR ht19 dX3_findReached_88 gf_RX3_28_2_11 (by decide) gkN_2_11 gkR_2_11 ?_
      refine gx_iload_n dX3_findReached_91 rfl 0 rfl ?_
      refine gx_bE e (fun t20 ht20 e => ?_)
      refine gy_l1 ht20 dX3_findReached_92 ?_
      refine gy_ior dX3_findReached_93 ?_
      refine gx_bE e (fun h21 hh21 e => ?_)
      refine gy_qI hh21 dX3_findReached_94 gf_RX3_79_2_2 (by decide) gkN_2_2 rfl (Or.inl rfl) ?_
      cases e
      exact gx_vret dX3_findReached_97 rfl ⟨Nat.le_of_ble_eq_true rfl, Nat.le_of_ble_eq_true rfl⟩ (fun z => z)
set_option maxRecDepth 100000 in
def b_X3_findReached_47 (n : Nat) (r10 : Nat → Int → gi_H → Option (gi_H)) (v0 : Nat) (v1 : Int)  (h : gi_H) : Option (gi_H) :=
  gx_nm (v1 + (1 : Int)) fun t28 => r10 v0 t28 h
set_option maxRecDepth 100000 in
theorem zb_X3_findReached_47 {al : Bool} {n : Nat} {r10 : Nat → Int → gi_H → Option (gi_H)} {h1 : gi_H} (hr10 : ∀ (x0 : Nat) (x1 : Int) (hh : gi_H), r10 x0 x1 hh = some h1 → gx_Z mX3_findReached al al 0 0 10 [(0, .ref x0), (1, .int (gI x1))] [] (gi_cv hh) (.inl none) (gi_cv h1)) {v0 : Nat} {v1 : Int}  {h : gi_H} (e : b_X3_findReached_47 n r10 v0 v1 h = some h1) : gx_Z mX3_findReached al al 0 0 47 [(0, .ref v0), (1, .int (gI v1))] [] (gi_cv h) (.inl none) (gi_cv h1) := by
  refine gx_nE e (fun t28 ht28 e => ?_)
  refine gy_iinc (v := t28) (ls2 := [(1, .int (gI t28)), (0, .ref v0)]) dX3_findReached_47 1 rfl ht28 (Nat.le_of_ble_eq_true rfl) rfl ?_
  refine gx_goto (tgt := 10) dX3_findReached_50 (by decide) ?_
  refine gx_sub (ls2 := [(0, .ref v0), (1, .int (gI t28))]) [1, 0] rfl ?_
  exact hr10 _ _ _ e
set_option maxRecDepth 100000 in
def b_X3_findReached_23 (n : Nat) (r10 : Nat → Int → gi_H → Option (gi_H)) (r23 : Nat → Int → Int → gi_H → Option (gi_H)) (v0 : Nat) (v1 : Int) (v2 : Int)  (h : gi_H) : Option (gi_H) :=
  Option.bind (gi_gR h v0 2 0) fun t22 => Option.bind (gi_is h t22 3) fun _ => Option.bind (f_X4_length t22 v1 h) fun q24 => Option.bind (gi_rg v2) fun _ => Option.bind (gi_rg q24) fun _ => if q24 ≤ v2 then (b_X3_findReached_47 n r10 v0 v1 h) else (Option.bind (gi_is h v0 2) fun _ => Option.bind (f_X3_relate v0 v1 v2 h) fun q30 => gx_nm (v2 + (1 : Int)) fun t31 => r23 v0 v1 t31 q30)
set_option maxRecDepth 100000 in
theorem zb_X3_findReached_23 {al : Bool} {n : Nat} {r10 : Nat → Int → gi_H → Option (gi_H)} {r23 : Nat → Int → Int → gi_H → Option (gi_H)} {h1 : gi_H} (hr10 : ∀ (x0 : Nat) (x1 : Int) (hh : gi_H), r10 x0 x1 hh = some h1 → gx_Z mX3_findReached al al 0 0 10 [(0, .ref x0), (1, .int (gI x1))] [] (gi_cv hh) (.inl none) (gi_cv h1)) (hr23 : ∀ (x0 : Nat) (x1 : Int) (x2 : Int) (hh : gi_H), r23 x0 x1 x2 hh = some h1 → gx_Z mX3_findReached al al 0 0 23 [(0, .ref x0), (1, .int (gI x1)), (2, .int (gI x2))] [] (gi_cv hh) (.inl none) (gi_cv h1)) {v0 : Nat} {v1 : Int} {v2 : Int}  {h : gi_H} (e : b_X3_findReached_23 n r10 r23 v0 v1 v2 h = some h1) : gx_Z mX3_findReached al al 0 0 23 [(0, .ref v0), (1, .int (gI v1)), (2, .int (gI v2))] [] (gi_cv h) (.inl none) (gi_cv h1) := by
  refine gx_iload_n dX3_findReached_23 rfl 2 rfl ?_
  refine gx_aload_n dX3_findReached_24 rfl 0 rfl ?_
  refine gx_bE e (fun t22 ht22 e => ?_)
  refine gy_fR ht22 dX3_findReached_25 gf_RX3_37_2_0 (by decide) gkN_2_0 gkR_2_0 ?_
  refine gx_iload_n dX3_findReached_28 rfl 1 rfl ?_
  refine gx_bE e (fun _ hu23 e => ?_)
  refine gx_bE e (fun q24 hq24 e => ?_)
  refine gx_callV (n := 1) (st := [.int (gI v2)]) (As := [.int (gI v1)]) (b := t22) dX3_findReached_29 (z_X4_length hq24) rfl ⟨rfl, gw_cw_X4_length, gw_3, gp_X4_length, ⟨Nat.le_of_ble_eq_true rfl, Nat.le_of_ble_eq_true rfl⟩⟩ (gi_isS hu23) (by decide) gw_410 gw_411 gw_412 rfl ⟨Nat.le_of_ble_eq_true rfl, Nat.le_of_ble_eq_true rfl⟩ (Nat.le_of_ble_eq_true rfl) (gy_k1 (x := .int (gI q24)) (kc2 := 0) (ks2 := 0) ⟨rfl, rfl⟩ ?_) gy_kn
  refine gx_bE e (fun _ g25 e => ?_)
  refine gx_bE e (fun _ g26 e => ?_)
  refine gx_iE e (fun c27 e => ?_) (fun c27 e => ?_)
  · refine gy_icmp_ge (tgt := 47) (gi_rgS g25) (gi_rgS g26) dX3_findReached_32 (by decide) (fun _ => ?_) (fun z => absurd c27 z)
    refine gx_sub (ls2 := [(0, .ref v0), (1, .int (gI v1))]) [0, 1] rfl ?_
    exact zb_X3_findReached_47 hr10 e
  · refine gy_icmp_ge (tgt := 47) (gi_rgS g25) (gi_rgS g26) dX3_findReached_32 (by decide) (fun z => absurd z c27) (fun _ => ?_)
    refine gx_aload_n dX3_findReached_35 rfl 0 rfl ?_
    refine gx_iload_n dX3_findReached_36 rfl 1 rfl ?_
    refine gx_iload_n dX3_findReached_37 rfl 2 rfl ?_
    refine gx_bE e (fun _ hu29 e => ?_)
    refine gx_bE e (fun q30 hq30 e => ?_)
    refine gx_callV (n := 2) (st := []) (As := [.int (gI v1), .int (gI v2)]) (b := v0) dX3_findReached_38 (z_X3_relate hq30) rfl ⟨rfl, gw_cw_X3_relate, gw_6, gp_X3_relate, ⟨Nat.le_of_ble_eq_true rfl, Nat.le_of_ble_eq_true rfl⟩⟩ (gi_isS hu29) (by decide) gw_451 gw_453 gs_6 rfl ⟨Nat.le_of_ble_eq_true rfl, Nat.le_of_ble_eq_true rfl⟩ (Nat.le_of_ble_eq_true rfl) (gy_k0 (kc2 := 0) (ks2 := 0) ⟨rfl, rfl⟩ ?_) gy_kn
    refine gx_nE e (fun t31 ht31 e => ?_)
    refine gy_iinc (v := t31) (ls2 := [(2, .int (gI t31)), (0, .ref v0), (1, .int (gI v1))]) dX3_findReached_41 2 rfl ht31 (Nat.le_of_ble_eq_true rfl) rfl ?_
    refine gx_goto (tgt := 23) dX3_findReached_44 (by decide) ?_
    refine gx_sub (ls2 := [(0, .ref v0), (1, .int (gI v1)), (2, .int (gI t31))]) [1, 2, 0] rfl ?_
    exact hr23 _ _ _ _ e
def l_X3_findReached_23 (n : Nat) (r10 : Nat → Int → gi_H → Option (gi_H)) : Nat → Nat → Int → Int → gi_H → Option (gi_H)
  | 0, _, _, _, _ => none
  | k + 1, v0, v1, v2, h => b_X3_findReached_23 n r10 (l_X3_findReached_23 n r10 k) v0 v1 v2 h
theorem zl_X3_findReached_23 {al : Bool} {n : Nat} {r10 : Nat → Int → gi_H → Option (gi_H)} {h1 : gi_H} (hr10 : ∀ (x0 : Nat) (x1 : Int) (hh : gi_H), r10 x0 x1 hh = some h1 → gx_Z mX3_findReached al al 0 0 10 [(0, .ref x0), (1, .int (gI x1))] [] (gi_cv hh) (.inl none) (gi_cv h1)) : ∀ (k : Nat) (v0 : Nat) (v1 : Int) (v2 : Int) (h : gi_H), l_X3_findReached_23 n r10 k v0 v1 v2 h = some h1 → gx_Z mX3_findReached al al 0 0 23 [(0, .ref v0), (1, .int (gI v1)), (2, .int (gI v2))] [] (gi_cv h) (.inl none) (gi_cv h1)
  | 0, _, _, _, _, e => gx_0E e
  | k + 1, _, _, _, _, e => zb_X3_findReached_23 (n := n) hr10 (zl_X3_findReached_23 hr10 k) e
set_option maxRecDepth 100000 in
def b_X3_findReached_10 (n : Nat) (r10 : Nat → Int → gi_H → Option (gi_H)) (v0 : Nat) (v1 : Int)  (h : gi_H) : Option (gi_H) :=
  Option.bind (gi_gR h v0 2 0) fun t3 => Option.bind (gi_is h t3 3) fun _ => Option.bind (f_X4_count t3 h) fun q5 => Option.bind (gi_rg v1) fun _ => Option.bind (gi_rg q5) fun _ => if q5 ≤ v1 then (b_X3_findReached_53 n  v0 h) else (l_X3_findReached_23 n r10 n v0 v1 (0 : Int) h)
set_option maxRecDepth 100000 in
theorem zb_X3_findReached_10 {al : Bool} {n : Nat} {r10 : Nat → Int → gi_H → Option (gi_H)} {h1 : gi_H} (hr10 : ∀ (x0 : Nat) (x1 : Int) (hh : gi_H), r10 x0 x1 hh = some h1 → gx_Z mX3_findReached al al 0 0 10 [(0, .ref x0), (1, .int (gI x1))] [] (gi_cv hh) (.inl none) (gi_cv h1)) {v0 : Nat} {v1 : Int}  {h : gi_H} (e : b_X3_findReached_10 n r10 v0 v1 h = some h1) : gx_Z mX3_findReached al al 0 0 10 [(0, .ref v0), (1, .int (gI v1))] [] (gi_cv h) (.inl none) (gi_cv h1) := by
  refine gx_iload_n dX3_findReached_10 rfl 1 rfl ?_
  refine gx_aload_n dX3_findReached_11 rfl 0 rfl ?_
  refine gx_bE e (fun t3 ht3 e => ?_)
  refine gy_fR ht3 dX3_findReached_12 gf_RX3_37_2_0 (by decide) gkN_2_0 gkR_2_0 ?_
  refine gx_bE e (fun _ hu4 e => ?_)
  refine gx_bE e (fun q5 hq5 e => ?_)
  refine gx_callV (n := 0) (st := [.int (gI v1)]) (As := []) (b := t3) dX3_findReached_15 (z_X4_count hq5) rfl ⟨rfl, gw_cw_X4_count, gw_3, gp_X4_count, ⟨Nat.le_of_ble_eq_true rfl, Nat.le_of_ble_eq_true rfl⟩⟩ (gi_isS hu4) (by decide) gw_401 gw_384 gw_385 rfl ⟨Nat.le_of_ble_eq_true rfl, Nat.le_of_ble_eq_true rfl⟩ (Nat.le_of_ble_eq_true rfl) (gy_k1 (x := .int (gI q5)) (kc2 := 0) (ks2 := 0) ⟨rfl, rfl⟩ ?_) gy_kn
  refine gx_bE e (fun _ g6 e => ?_)
  refine gx_bE e (fun _ g7 e => ?_)
  refine gx_iE e (fun c8 e => ?_) (fun c8 e => ?_)
  · refine gy_icmp_ge (tgt := 53) (gi_rgS g6) (gi_rgS g7) dX3_findReached_18 (by decide) (fun _ => ?_) (fun z => absurd c8 z)
    refine gx_sub (ls2 := [(0, .ref v0)]) [0] rfl ?_
    exact zb_X3_findReached_53  e
  · refine gy_icmp_ge (tgt := 53) (gi_rgS g6) (gi_rgS g7) dX3_findReached_18 (by decide) (fun z => absurd z c8) (fun _ => ?_)
    refine gy_iconst dX3_findReached_21 ?_
    refine gx_istore_n (ls2 := [(2, .int (gI (0 : Int))), (0, .ref v0), (1, .int (gI v1))]) dX3_findReached_22 rfl (Nat.le_of_ble_eq_true rfl) rfl ?_
    refine gx_sub (ls2 := [(0, .ref v0), (1, .int (gI v1)), (2, .int (gI (0 : Int)))]) [1, 2, 0] rfl ?_
    exact zl_X3_findReached_23 hr10 n _ _ _ _ e
def l_X3_findReached_10 (n : Nat)  : Nat → Nat → Int → gi_H → Option (gi_H)
  | 0, _, _, _ => none
  | k + 1, v0, v1, h => b_X3_findReached_10 n  (l_X3_findReached_10 n  k) v0 v1 h
theorem zl_X3_findReached_10 {al : Bool} {n : Nat}  {h1 : gi_H}  : ∀ (k : Nat) (v0 : Nat) (v1 : Int) (h : gi_H), l_X3_findReached_10 n  k v0 v1 h = some h1 → gx_Z mX3_findReached al al 0 0 10 [(0, .ref v0), (1, .int (gI v1))] [] (gi_cv h) (.inl none) (gi_cv h1)
  | 0, _, _, _, e => gx_0E e
  | k + 1, _, _, _, e => zb_X3_findReached_10 (n := n)  (zl_X3_findReached_10  k) e
set_option maxRecDepth 100000 in
def f_X3_findReached (n : Nat) (v0 : Nat) (h : gi_H) : Option (gi_H) :=
  Option.bind (gi_gR h v0 2 11) fun t1 => Option.bind (f_J7_fill_53178 n t1 (0 : Int) h) fun q2 => l_X3_findReached_10 n  n v0 (0 : Int) q2
set_option maxRecDepth 100000 in
theorem z_X3_findReached {al : Bool} {n : Nat} {v0 : Nat} {h : gi_H} {h1 : gi_H} (e : f_X3_findReached n v0 h = some h1) : gx_Cw mX3_findReached al [.ref v0] (gi_cv h) (.inl none) (gi_cv h1) := by
  refine gx_enter (by decide +kernel) rfl (Nat.le_of_ble_eq_true rfl) ?_
  show gx_Z mX3_findReached al al 0 0 0 [(0, .ref v0)] [] (gi_cv h) (.inl none) (gi_cv h1)
  refine gx_aload_n dX3_findReached_0 rfl 0 rfl ?_
  refine gx_bE e (fun t1 ht1 e => ?_)
  refine gy_fR ht1 dX3_findReached_1 gf_RX3_28_2_11 (by decide) gkN_2_11 gkR_2_11 ?_
  refine gy_iconst dX3_findReached_4 ?_
  refine gx_bE e (fun q2 hq2 e => ?_)
  refine gx_callS (n := 2) (st := []) (As := [.ref t1, .int (gI (0 : Int))]) dX3_findReached_5 (z_J7_fill_53178 hq2) rfl ⟨rfl, gw_cw_J7_fill_53178, gw_5, gp_J7_fill_53178, ⟨Nat.le_of_ble_eq_true rfl, Nat.le_of_ble_eq_true rfl⟩⟩ gw_399 gw_98 ⟨Nat.le_of_ble_eq_true rfl, Nat.le_of_ble_eq_true rfl⟩ (Nat.le_of_ble_eq_true rfl) (gy_k0 (kc2 := 0) (ks2 := 0) ⟨rfl, rfl⟩ ?_) gy_kn
  refine gy_iconst dX3_findReached_8 ?_
  refine gx_istore_n (ls2 := [(1, .int (gI (0 : Int))), (0, .ref v0)]) dX3_findReached_9 rfl (Nat.le_of_ble_eq_true rfl) rfl ?_
  refine gx_sub (ls2 := [(0, .ref v0), (1, .int (gI (0 : Int)))]) [1, 0] rfl ?_
  exact zl_X3_findReached_10  n _ _ _ e
/-! X3_relatedToThemselves  -/
set_option maxRecDepth 100000 in
def b_X3_relatedToThemselves_4 (n : Nat) (r4 : Nat → Int → Int → gi_H → Option (Int)) (v0 : Nat) (v1 : Int) (v2 : Int)  (h : gi_H) : Option (Int) :=
  Option.bind (gi_rg v2) fun _ => if (16 : Int) ≤ v2 then (some v1) else (Option.bind (gi_gR h v0 2 11) fun t3 => Option.bind (gi_aI h 1 t3 v2) fun t4 => gx_nm (gi_or v1 (gi_and t4 (gi_shl (1 : Int) v2))) fun t5 => gx_nm (v2 + (1 : Int)) fun t6 => r4 v0 t5 t6 h)
set_option maxRecDepth 100000 in
theorem zb_X3_relatedToThemselves_4 {al : Bool} {n : Nat} {r4 : Nat → Int → Int → gi_H → Option (Int)} {res : Int} (hr4 : ∀ (x0 : Nat) (x1 : Int) (x2 : Int) (hh : gi_H), r4 x0 x1 x2 hh = some res → gx_Z mX3_relatedToThemselves al al 0 0 4 [(0, .ref x0), (1, .int (gI x1)), (2, .int (gI x2))] [] (gi_cv hh) (.inl (some (.int (gI res)))) (gi_cv hh)) {v0 : Nat} {v1 : Int} {v2 : Int}  {h : gi_H} (e : b_X3_relatedToThemselves_4 n r4 v0 v1 v2 h = some res) : gx_Z mX3_relatedToThemselves al al 0 0 4 [(0, .ref v0), (1, .int (gI v1)), (2, .int (gI v2))] [] (gi_cv h) (.inl (some (.int (gI res)))) (gi_cv h) := by
  refine gx_iload_n dX3_relatedToThemselves_4 rfl 2 rfl ?_
  refine gy_bipush dX3_relatedToThemselves_5 gcb_16 ?_
  refine gx_bE e (fun _ g1 e => ?_)
  refine gx_iE e (fun c2 e => ?_) (fun c2 e => ?_)
  · refine gy_icmp_ge (tgt := 29) (gi_rgS g1) (by decide) dX3_relatedToThemselves_7 (by decide) (fun _ => ?_) (fun z => absurd c2 z)
    refine gx_iload_n dX3_relatedToThemselves_29 rfl 1 rfl ?_
    cases e
    exact gx_iret dX3_relatedToThemselves_30 rfl ⟨Nat.le_of_ble_eq_true rfl, Nat.le_of_ble_eq_true rfl⟩ (fun z => z)
  · refine gy_icmp_ge (tgt := 29) (gi_rgS g1) (by decide) dX3_relatedToThemselves_7 (by decide) (fun z => absurd z c2) (fun _ => ?_)
    refine gx_iload_n dX3_relatedToThemselves_10 rfl 1 rfl ?_
    refine gx_aload_n dX3_relatedToThemselves_11 rfl 0 rfl ?_
    refine gx_bE e (fun t3 ht3 e => ?_)
    refine gy_fR ht3 dX3_relatedToThemselves_12 gf_RX3_28_2_11 (by decide) gkN_2_11 gkR_2_11 ?_
    refine gx_iload_n dX3_relatedToThemselves_15 rfl 2 rfl ?_
    refine gx_bE e (fun t4 ht4 e => ?_)
    refine gy_l1 ht4 dX3_relatedToThemselves_16 ?_
    refine gy_iconst dX3_relatedToThemselves_17 ?_
    refine gx_iload_n dX3_relatedToThemselves_18 rfl 2 rfl ?_
    refine gy_ishl dX3_relatedToThemselves_19 ?_
    refine gy_iand dX3_relatedToThemselves_20 ?_
    refine gy_ior dX3_relatedToThemselves_21 ?_
    refine gx_nE e (fun t5 ht5 e => ?_)
    rw [ht5]
    refine gx_istore_n (ls2 := [(1, .int (gI t5)), (0, .ref v0), (2, .int (gI v2))]) dX3_relatedToThemselves_22 rfl (Nat.le_of_ble_eq_true rfl) rfl ?_
    refine gx_nE e (fun t6 ht6 e => ?_)
    refine gy_iinc (v := t6) (ls2 := [(2, .int (gI t6)), (1, .int (gI t5)), (0, .ref v0)]) dX3_relatedToThemselves_23 2 rfl ht6 (Nat.le_of_ble_eq_true rfl) rfl ?_
    refine gx_goto (tgt := 4) dX3_relatedToThemselves_26 (by decide) ?_
    refine gx_sub (ls2 := [(0, .ref v0), (1, .int (gI t5)), (2, .int (gI t6))]) [2, 1, 0] rfl ?_
    exact hr4 _ _ _ _ e
def l_X3_relatedToThemselves_4 (n : Nat)  : Nat → Nat → Int → Int → gi_H → Option (Int)
  | 0, _, _, _, _ => none
  | k + 1, v0, v1, v2, h => b_X3_relatedToThemselves_4 n  (l_X3_relatedToThemselves_4 n  k) v0 v1 v2 h
theorem zl_X3_relatedToThemselves_4 {al : Bool} {n : Nat}  {res : Int}  : ∀ (k : Nat) (v0 : Nat) (v1 : Int) (v2 : Int) (h : gi_H), l_X3_relatedToThemselves_4 n  k v0 v1 v2 h = some res → gx_Z mX3_relatedToThemselves al al 0 0 4 [(0, .ref v0), (1, .int (gI v1)), (2, .int (gI v2))] [] (gi_cv h) (.inl (some (.int (gI res)))) (gi_cv h)
  | 0, _, _, _, _, e => gx_0E e
  | k + 1, _, _, _, _, e => zb_X3_relatedToThemselves_4 (n := n)  (zl_X3_relatedToThemselves_4  k) e
set_option maxRecDepth 100000 in
def f_X3_relatedToThemselves (n : Nat) (v0 : Nat) (h : gi_H) : Option (Int) :=
  l_X3_relatedToThemselves_4 n  n v0 (0 : Int) (0 : Int) h
set_option maxRecDepth 100000 in
theorem z_X3_relatedToThemselves {al : Bool} {n : Nat} {v0 : Nat} {h : gi_H} {res : Int} (e : f_X3_relatedToThemselves n v0 h = some res) : gx_Cw mX3_relatedToThemselves al [.ref v0] (gi_cv h) (.inl (some (.int (gI res)))) (gi_cv h) := by
  refine gx_enter (by decide +kernel) rfl (Nat.le_of_ble_eq_true rfl) ?_
  show gx_Z mX3_relatedToThemselves al al 0 0 0 [(0, .ref v0)] [] (gi_cv h) (.inl (some (.int (gI res)))) (gi_cv h)
  refine gy_iconst dX3_relatedToThemselves_0 ?_
  refine gx_istore_n (ls2 := [(1, .int (gI (0 : Int))), (0, .ref v0)]) dX3_relatedToThemselves_1 rfl (Nat.le_of_ble_eq_true rfl) rfl ?_
  refine gy_iconst dX3_relatedToThemselves_2 ?_
  refine gx_istore_n (ls2 := [(2, .int (gI (0 : Int))), (1, .int (gI (0 : Int))), (0, .ref v0)]) dX3_relatedToThemselves_3 rfl (Nat.le_of_ble_eq_true rfl) rfl ?_
  refine gx_sub (ls2 := [(0, .ref v0), (1, .int (gI (0 : Int))), (2, .int (gI (0 : Int)))]) [2, 1, 0] rfl ?_
  exact zl_X3_relatedToThemselves_4  n _ _ _ _ e
