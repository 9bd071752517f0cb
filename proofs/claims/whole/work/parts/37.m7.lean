/-! X11_isLeftRecursive  -/
set_option maxRecDepth 100000 in
def f_X11_isLeftRecursive (n : Nat) (v0 : Nat) (v1 : Int) (h : gi_H) : Option ((Int ⊕ String) × gi_H) :=
  Option.bind (f_X11_requireNonterminal v1 h) fun q1 => gx_sm q1.1 (fun t2 => Option.bind (gi_gR q1.2 v0 9 8) fun t3 => Option.bind (gi_is q1.2 t3 2) fun _ => Option.bind (f_X3_learn n t3 q1.2) fun q5 => Option.bind (gi_gR q5 v0 9 8) fun t6 => Option.bind (gi_is q5 t6 2) fun _ => Option.bind (f_X3_beginsItself t6 v1 q5) fun q8 => Option.bind (gi_zo q8) fun _ => some (.inl q8, q5)) (fun t2 => some (.inr t2, q1.2))
set_option maxRecDepth 100000 in
theorem z_X11_isLeftRecursive {n : Nat} {v0 : Nat} {v1 : Int} {h : gi_H} {res : Int ⊕ String} {h1 : gi_H} (e : f_X11_isLeftRecursive n v0 v1 h = some (res, h1)) : gx_Cw mX11_isLeftRecursive false [.ref v0, .int (gI v1)] (gi_cv h) (gx_oI res) (gi_cv h1) := by
  refine gx_enter (by decide +kernel) rfl (Nat.le_of_ble_eq_true rfl) ?_
  show gx_Z mX11_isLeftRecursive false false 0 0 0 [(0, .ref v0), (1, .int (gI v1))] [] (gi_cv h) (gx_oI res) (gi_cv h1)
  refine gx_iload_n dX11_isLeftRecursive_0 rfl 1 rfl ?_
  refine gx_bE e (fun q1 hq1 e => ?_)
  refine gx_smE e (fun t2 ht2 e => ?_) (fun t2 ht2 e => ?_)
  · have zq1 := z_X11_requireNonterminal hq1
    rw [ht2] at zq1
    refine gx_callS (n := 1) (st := []) (As := [.int (gI v1)]) dX11_isLeftRecursive_1 zq1 rfl ⟨rfl, gw_cw_X11_requireNonterminal, gw_1, gp_X11_requireNonterminal, ⟨Nat.le_of_ble_eq_true rfl, Nat.le_of_ble_eq_true rfl⟩⟩ gw_1114 gw_1115 ⟨Nat.le_of_ble_eq_true rfl, Nat.le_of_ble_eq_true rfl⟩ (Nat.le_of_ble_eq_true rfl) (gy_k0 (kc2 := 1) (ks2 := 6) ⟨rfl, rfl⟩ ?_) gy_kn
    refine gx_aload_n dX11_isLeftRecursive_4 rfl 0 rfl ?_
    refine gx_bE e (fun t3 ht3 e => ?_)
    refine gy_fR ht3 dX11_isLeftRecursive_5 gf_RX11_52_9_8 (by decide) gkN_9_8 gkR_9_8 ?_
    refine gx_bE e (fun _ hu4 e => ?_)
    refine gx_bE e (fun q5 hq5 e => ?_)
    refine gx_callV (n := 0) (st := []) (As := []) (b := t3) dX11_isLeftRecursive_8 (z_X3_learn hq5) rfl ⟨rfl, gw_cw_X3_learn, gw_6, gp_X3_learn, ⟨Nat.le_of_ble_eq_true rfl, Nat.le_of_ble_eq_true rfl⟩⟩ (gi_isS hu4) (by decide) gw_404 gw_405 gw_406 rfl ⟨Nat.le_of_ble_eq_true rfl, Nat.le_of_ble_eq_true rfl⟩ (Nat.le_of_ble_eq_true rfl) (gy_k0 (kc2 := 1) (ks2 := 6) ⟨rfl, rfl⟩ ?_) gy_kn
    refine gx_aload_n dX11_isLeftRecursive_11 rfl 0 rfl ?_
    refine gx_bE e (fun t6 ht6 e => ?_)
    refine gy_fR ht6 dX11_isLeftRecursive_12 gf_RX11_52_9_8 (by decide) gkN_9_8 gkR_9_8 ?_
    refine gx_iload_n dX11_isLeftRecursive_15 rfl 1 rfl ?_
    refine gx_bE e (fun _ hu7 e => ?_)
    refine gx_bE e (fun q8 hq8 e => ?_)
    refine gx_callV (n := 1) (st := []) (As := [.int (gI v1)]) (b := t6) dX11_isLeftRecursive_16 (z_X3_beginsItself hq8) rfl ⟨rfl, gw_cw_X3_beginsItself, gw_6, gp_X3_beginsItself, ⟨Nat.le_of_ble_eq_true rfl, Nat.le_of_ble_eq_true rfl⟩⟩ (gi_isS hu7) (by decide) gw_1158 gw_1159 gw_1160 rfl ⟨Nat.le_of_ble_eq_true rfl, Nat.le_of_ble_eq_true rfl⟩ (Nat.le_of_ble_eq_true rfl) (gy_k1 (x := .int (gI q8)) (kc2 := 1) (ks2 := 6) ⟨rfl, rfl⟩ ?_) gy_kn
    refine gx_bE e (fun _ hu9 e => ?_)
    cases e
    exact gx_zret (gi_zoS hu9) dX11_isLeftRecursive_19 rfl ⟨Nat.le_of_ble_eq_true rfl, Nat.le_of_ble_eq_true rfl⟩ (fun z => z)
  · have zq1 := z_X11_requireNonterminal hq1
    rw [ht2] at zq1
    refine gx_callS (n := 1) (st := []) (As := [.int (gI v1)]) dX11_isLeftRecursive_1 zq1 rfl ⟨rfl, gw_cw_X11_requireNonterminal, gw_1, gp_X11_requireNonterminal, ⟨Nat.le_of_ble_eq_true rfl, Nat.le_of_ble_eq_true rfl⟩⟩ gw_1114 gw_1115 ⟨Nat.le_of_ble_eq_true rfl, Nat.le_of_ble_eq_true rfl⟩ (Nat.le_of_ble_eq_true rfl) gy_kN (gy_kE (kc2 := 1) (ks2 := 6) ⟨rfl, rfl⟩ ?_)
    cases e
    exact gx_out rfl ⟨Nat.le_of_ble_eq_true rfl, Nat.le_of_ble_eq_true rfl⟩ (fun z => z)
/-! L_isLeftRecursive  -/
set_option maxRecDepth 100000 in
def b_L_isLeftRecursive_15 (n : Nat)   (s0 : Nat) (s1 : Int) (s2 : Int) (h : gi_H) : Option (Int × gi_H) :=
  Option.bind (gi_s2 h s0 s1 s2) fun h6 => some ((0 : Int), h6)
set_option maxRecDepth 100000 in
theorem zb_L_isLeftRecursive_15 {n : Nat}  {res : Int} {h1 : gi_H}   {s0 : Nat} {s1 : Int} {s2 : Int} {h : gi_H} (e : b_L_isLeftRecursive_15 n s0 s1 s2 h = some (res, h1)) : gx_Z mL_isLeftRecursive false false 1 6 15 [] [.long (gL s2), .int (gI s1), .ref s0] (gi_cv h) (.inl (some (.int (gI res)))) (gi_cv h1) := by
  refine gx_bE e (fun h6 hh6 e => ?_)
  refine gy_t2 hh6 dL_isLeftRecursive_15 ?_
  refine gx_goto (tgt := 22) dL_isLeftRecursive_16 (by decide) ?_
  refine gy_iconst dL_isLeftRecursive_22 ?_
  cases e
  exact gx_iret dL_isLeftRecursive_23 rfl ⟨Nat.le_of_ble_eq_true rfl, Nat.le_of_ble_eq_true rfl⟩ (fun z => z)
set_option maxRecDepth 100000 in
def f_L_isLeftRecursive (n : Nat) (v0 : Nat) (v1 : Int) (v2 : Nat) (h : gi_H) : Option (Int × gi_H) :=
  Option.bind (gi_is h v0 9) fun _ => Option.bind (f_X11_isLeftRecursive n v0 v1 h) fun q2 => gx_sm q2.1 (fun t3 => Option.bind (gi_rg t3) fun _ => if t3 = 0 then (b_L_isLeftRecursive_15 n  v2 (0 : Int) (0 : Int) q2.2) else (b_L_isLeftRecursive_15 n  v2 (0 : Int) (1 : Int) q2.2)) (fun t3 => if t3 = gx_IOB then (some ((1 : Int), q2.2)) else (none))
set_option maxRecDepth 100000 in
theorem z_L_isLeftRecursive {n : Nat} {v0 : Nat} {v1 : Int} {v2 : Nat} {h : gi_H} {res : Int} {h1 : gi_H} (e : f_L_isLeftRecursive n v0 v1 v2 h = some (res, h1)) : gx_Cw mL_isLeftRecursive false [.ref v0, .int (gI v1), .ref v2] (gi_cv h) (.inl (some (.int (gI res)))) (gi_cv h1) := by
  refine gx_enter (by decide +kernel) rfl (Nat.le_of_ble_eq_true rfl) ?_
  show gx_Z mL_isLeftRecursive false false 0 0 0 [(0, .ref v0), (1, .int (gI v1)), (2, .ref v2)] [] (gi_cv h) (.inl (some (.int (gI res)))) (gi_cv h1)
  refine gx_aload_n dL_isLeftRecursive_0 rfl 2 rfl ?_
  refine gy_iconst dL_isLeftRecursive_1 ?_
  refine gx_aload_n dL_isLeftRecursive_2 rfl 0 rfl ?_
  refine gx_iload_n dL_isLeftRecursive_3 rfl 1 rfl ?_
  refine gx_bE e (fun _ hu1 e => ?_)
  refine gx_bE e (fun q2 hq2 e => ?_)
  refine gx_smE e (fun t3 ht3 e => ?_) (fun t3 ht3 e => ?_)
  · have zq2 := z_X11_isLeftRecursive hq2
    rw [ht3] at zq2
    refine gx_callV (n := 1) (st := [.int (gI (0 : Int)), .ref v2]) (As := [.int (gI v1)]) (b := v0) dL_isLeftRecursive_4 zq2 rfl ⟨rfl, gw_cw_X11_isLeftRecursive, gw_1, gp_X11_isLeftRecursive, ⟨Nat.le_of_ble_eq_true rfl, Nat.le_of_ble_eq_true rfl⟩⟩ (gi_isS hu1) (by decide) gw_1154 gw_1155 gw_1156 rfl ⟨Nat.le_of_ble_eq_true rfl, Nat.le_of_ble_eq_true rfl⟩ (Nat.le_of_ble_eq_true rfl) (gy_k1 (x := .int (gI t3)) (kc2 := 1) (ks2 := 6) ⟨rfl, rfl⟩ ?_) gy_kn
    refine gx_bE e (fun _ g4 e => ?_)
    refine gx_iE e (fun c5 e => ?_) (fun c5 e => ?_)
    · refine gy_if_eq (tgt := 14) (gi_rgS g4) dL_isLeftRecursive_7 (by decide) (fun _ => ?_) (fun z => absurd c5 z)
      refine gy_lconst (v := 0) dL_isLeftRecursive_14 (by decide +kernel) ?_
      refine gx_sub (ls2 := []) [] rfl ?_
      exact zb_L_isLeftRecursive_15  e
    · refine gy_if_eq (tgt := 14) (gi_rgS g4) dL_isLeftRecursive_7 (by decide) (fun z => absurd z c5) (fun _ => ?_)
      refine gy_lconst (v := 1) dL_isLeftRecursive_10 (by decide +kernel) ?_
      refine gx_goto (tgt := 15) dL_isLeftRecursive_11 (by decide) ?_
      refine gx_sub (ls2 := []) [] rfl ?_
      exact zb_L_isLeftRecursive_15  e
  · have zq2 := z_X11_isLeftRecursive hq2
    rw [ht3] at zq2
    refine gx_callV (n := 1) (st := [.int (gI (0 : Int)), .ref v2]) (As := [.int (gI v1)]) (b := v0) dL_isLeftRecursive_4 zq2 rfl ⟨rfl, gw_cw_X11_isLeftRecursive, gw_1, gp_X11_isLeftRecursive, ⟨Nat.le_of_ble_eq_true rfl, Nat.le_of_ble_eq_true rfl⟩⟩ (gi_isS hu1) (by decide) gw_1154 gw_1155 gw_1156 rfl ⟨Nat.le_of_ble_eq_true rfl, Nat.le_of_ble_eq_true rfl⟩ (Nat.le_of_ble_eq_true rfl) gy_kN (gy_kE (kc2 := 1) (ks2 := 6) ⟨rfl, rfl⟩ ?_)
    refine gx_iE e (fun c7 e => ?_) (fun c7 e => ?_)
    · rw [c7]
      refine gx_catch (ls2 := [(0, .ref v0), (1, .int (gI v1)), (2, .ref v2)]) [] (x := (0, 16, 19, 28)) rfl (fun z hz => by cases hz) (by decide +kernel) (by decide) gw_1028 (by decide +kernel) (Nat.le_of_ble_eq_true rfl) (Or.inl ⟨3, rfl, rfl, dL_isLeftRecursive_19⟩) rfl ?_
      refine gy_iconst dL_isLeftRecursive_20 ?_
      cases e
      exact gx_iret dL_isLeftRecursive_21 rfl ⟨Nat.le_of_ble_eq_true rfl, Nat.le_of_ble_eq_true rfl⟩ (fun z => z)
    cases e
/-! X12_isLeftRecursive  -/
set_option maxRecDepth 100000 in
def b_X12_isLeftRecursive_37 (n : Nat)    (h : gi_H) : Option (Int × gi_H) :=
  some ((0 : Int), h)
set_option maxRecDepth 100000 in
theorem zb_X12_isLeftRecursive_37 {al : Bool} {n : Nat}  {res : Int} {h1 : gi_H}    {h : gi_H} (e : b_X12_isLeftRecursive_37 n  h = some (res, h1)) : gx_Z mX12_isLeftRecursive al al 0 0 37 [] [] (gi_cv h) (.inl (some (.int (gI res)))) (gi_cv h1) := by
  refine gy_iconst dX12_isLeftRecursive_37 ?_
  cases e
  exact gx_zret (by decide +kernel) dX12_isLeftRecursive_38 rfl ⟨Nat.le_of_ble_eq_true rfl, Nat.le_of_ble_eq_true rfl⟩ (fun z => z)
set_option maxRecDepth 100000 in
def f_X12_isLeftRecursive (n : Nat) (v0 : Nat) (v1 : Int) (h : gi_H) : Option (Int × gi_H) :=
  Option.bind (gi_is h v0 10) fun _ => Option.bind (f_X12_finds n v0 h) fun q2 => Option.bind (f_X12_isBelow v1 (16 : Int) q2) fun q3 => Option.bind (gi_is q2 v0 10) fun _ => Option.bind (f_X12_goes v0 q3 (1 : Int) (1 : Int) q2) fun q5 => Option.bind (gi_rg q5.1) fun _ => if q5.1 = 0 then (b_X12_isLeftRecursive_37 n   q5.2) else (Option.bind (gi_gR q5.2 v0 10 23) fun t8 => Option.bind (gi_aI q5.2 1 t8 v1) fun t9 => Option.bind (gi_rg (gi_and (gi_shr t9 v1) (1 : Int))) fun _ => if (gi_and (gi_shr t9 v1) (1 : Int)) = (1 : Int) then (some ((1 : Int), q5.2)) else (b_X12_isLeftRecursive_37 n   q5.2))
set_option maxRecDepth 100000 in
theorem z_X12_isLeftRecursive {al : Bool} {n : Nat} {v0 : Nat} {v1 : Int} {h : gi_H} {res : Int} {h1 : gi_H} (e : f_X12_isLeftRecursive n v0 v1 h = some (res, h1)) : gx_Cw mX12_isLeftRecursive al [.ref v0, .int (gI v1)] (gi_cv h) (.inl (some (.int (gI res)))) (gi_cv h1) := by
  refine gx_enter (by decide +kernel) rfl (Nat.le_of_ble_eq_true rfl) ?_
  show gx_Z mX12_isLeftRecursive al al 0 0 0 [(0, .ref v0), (1, .int (gI v1))] [] (gi_cv h) (.inl (some (.int (gI res)))) (gi_cv h1)
  refine gx_aload_n dX12_isLeftRecursive_0 rfl 0 rfl ?_
  refine gx_bE e (fun _ hu1 e => ?_)
  refine gx_bE e (fun q2 hq2 e => ?_)
  refine gx_callV (n := 0) (st := []) (As := []) (b := v0) dX12_isLeftRecursive_1 (z_X12_finds hq2) rfl ⟨rfl, gw_cw_X12_finds, gw_14, gp_X12_finds, ⟨Nat.le_of_ble_eq_true rfl, Nat.le_of_ble_eq_true rfl⟩⟩ (gi_isS hu1) (by decide) gw_1587 gw_1589 gs_72 rfl ⟨Nat.le_of_ble_eq_true rfl, Nat.le_of_ble_eq_true rfl⟩ (Nat.le_of_ble_eq_true rfl) (gy_k0 (kc2 := 0) (ks2 := 0) ⟨rfl, rfl⟩ ?_) gy_kn
  refine gx_aload_n dX12_isLeftRecursive_4 rfl 0 rfl ?_
  refine gx_iload_n dX12_isLeftRecursive_5 rfl 1 rfl ?_
  refine gy_bipush dX12_isLeftRecursive_6 gcb_16 ?_
  refine gx_bE e (fun q3 hq3 e => ?_)
  refine gx_callS (n := 2) (st := [.ref v0]) (As := [.int (gI v1), .int (gI (16 : Int))]) dX12_isLeftRecursive_8 (z_X12_isBelow hq3) rfl ⟨rfl, gw_cw_X12_isBelow, gw_14, gp_X12_isBelow, ⟨Nat.le_of_ble_eq_true rfl, Nat.le_of_ble_eq_true rfl⟩⟩ gw_1540 gw_1541 ⟨Nat.le_of_ble_eq_true rfl, Nat.le_of_ble_eq_true rfl⟩ (Nat.le_of_ble_eq_true rfl) (gy_k1 (x := .int (gI q3)) (kc2 := 0) (ks2 := 0) ⟨rfl, rfl⟩ ?_) gy_kn
  refine gy_iconst dX12_isLeftRecursive_11 ?_
  refine gy_iconst dX12_isLeftRecursive_12 ?_
  refine gx_bE e (fun _ hu4 e => ?_)
  refine gx_bE e (fun q5 hq5 e => ?_)
  refine gx_callV (n := 3) (st := []) (As := [.int (gI q3), .int (gI (1 : Int)), .int (gI (1 : Int))]) (b := v0) dX12_isLeftRecursive_13 (z_X12_goes hq5) rfl ⟨rfl, gw_cw_X12_goes, gw_14, gp_X12_goes, ⟨Nat.le_of_ble_eq_true rfl, Nat.le_of_ble_eq_true rfl⟩⟩ (gi_isS hu4) (by decide) gw_1480 gw_1482 gs_58 rfl ⟨Nat.le_of_ble_eq_true rfl, Nat.le_of_ble_eq_true rfl⟩ (Nat.le_of_ble_eq_true rfl) (gy_k1 (x := .int (gI q5.1)) (kc2 := 0) (ks2 := 0) ⟨rfl, rfl⟩ ?_) gy_kn
  refine gx_bE e (fun _ g6 e => ?_)
  refine gx_iE e (fun c7 e => ?_) (fun c7 e => ?_)
  · refine gy_if_eq (tgt := 37) (gi_rgS g6) dX12_isLeftRecursive_16 (by decide) (fun _ => ?_) (fun z => absurd c7 z)
    refine gx_sub (ls2 := []) [] rfl ?_
    exact zb_X12_isLeftRecursive_37  e
  · refine gy_if_eq (tgt := 37) (gi_rgS g6) dX12_isLeftRecursive_16 (by decide) (fun z => absurd z c7) (fun _ => ?_)
    refine gx_aload_n dX12_isLeftRecursive_19 rfl 0 rfl ?_
    refine gx_bE e (fun t8 ht8 e => ?_)
    refine gy_fR ht8 dX12_isLeftRecursive_20 gf_RX12_65_10_23 (by decide) gkN_10_23 gkR_10_23 ?_
    refine gx_iload_n dX12_isLeftRecursive_23 rfl 1 rfl ?_
    refine gx_bE e (fun t9 ht9 e => ?_)
    refine gy_l1 ht9 dX12_isLeftRecursive_24 ?_
    refine gx_iload_n dX12_isLeftRecursive_25 rfl 1 rfl ?_
    refine gy_ishr dX12_isLeftRecursive_26 ?_
    refine gy_iconst dX12_isLeftRecursive_27 ?_
    refine gy_iand dX12_isLeftRecursive_28 ?_
    refine gy_iconst dX12_isLeftRecursive_29 ?_
    refine gx_bE e (fun _ g10 e => ?_)
    refine gx_iE e (fun c11 e => ?_) (fun c11 e => ?_)
    · refine gy_icmp_ne (tgt := 37) (gi_rgS g10) (by decide) dX12_isLeftRecursive_30 (by decide) (fun z => absurd c11 z) (fun _ => ?_)
      refine gy_iconst dX12_isLeftRecursive_33 ?_
      refine gx_goto (tgt := 38) dX12_isLeftRecursive_34 (by decide) ?_
      cases e
      exact gx_zret (by decide +kernel) dX12_isLeftRecursive_38 rfl ⟨Nat.le_of_ble_eq_true rfl, Nat.le_of_ble_eq_true rfl⟩ (fun z => z)
    · refine gy_icmp_ne (tgt := 37) (gi_rgS g10) (by decide) dX12_isLeftRecursive_30 (by decide) (fun _ => ?_) (fun z => absurd z c11)
      refine gx_sub (ls2 := []) [] rfl ?_
      exact zb_X12_isLeftRecursive_37  e
/-! X11_shortest  -/
set_option maxRecDepth 100000 in
def f_X11_shortest (n : Nat) (v0 : Nat) (v1 : Int) (h : gi_H) : Option ((Int ⊕ String) × gi_H) :=
  Option.bind (f_X11_requireNonterminal v1 h) fun q1 => gx_sm q1.1 (fun t2 => Option.bind (gi_gR q1.2 v0 9 8) fun t3 => Option.bind (gi_is q1.2 t3 2) fun _ => Option.bind (f_X3_learn n t3 q1.2) fun q5 => Option.bind (gi_gR q5 v0 9 8) fun t6 => Option.bind (gi_is q5 t6 2) fun _ => Option.bind (f_X3_least t6 v1 q5) fun q8 => some (.inl q8, q5)) (fun t2 => some (.inr t2, q1.2))
set_option maxRecDepth 100000 in
theorem z_X11_shortest {n : Nat} {v0 : Nat} {v1 : Int} {h : gi_H} {res : Int ⊕ String} {h1 : gi_H} (e : f_X11_shortest n v0 v1 h = some (res, h1)) : gx_Cw mX11_shortest false [.ref v0, .int (gI v1)] (gi_cv h) (gx_oI res) (gi_cv h1) := by
  refine gx_enter (by decide +kernel) rfl (Nat.le_of_ble_eq_true rfl) ?_
  show gx_Z mX11_shortest false false 0 0 0 [(0, .ref v0), (1, .int (gI v1))] [] (gi_cv h) (gx_oI res) (gi_cv h1)
  refine gx_iload_n dX11_shortest_0 rfl 1 rfl ?_
  refine gx_bE e (fun q1 hq1 e => ?_)
  refine gx_smE e (fun t2 ht2 e => ?_) (fun t2 ht2 e => ?_)
  · have zq1 := z_X11_requireNonterminal hq1
    rw [ht2] at zq1
    refine gx_callS (n := 1) (st := []) (As := [.int (gI v1)]) dX11_shortest_1 zq1 rfl ⟨rfl, gw_cw_X11_requireNonterminal, gw_1, gp_X11_requireNonterminal, ⟨Nat.le_of_ble_eq_true rfl, Nat.le_of_ble_eq_true rfl⟩⟩ gw_1114 gw_1115 ⟨Nat.le_of_ble_eq_true rfl, Nat.le_of_ble_eq_true rfl⟩ (Nat.le_of_ble_eq_true rfl) (gy_k0 (kc2 := 1) (ks2 := 6) ⟨rfl, rfl⟩ ?_) gy_kn
    refine gx_aload_n dX11_shortest_4 rfl 0 rfl ?_
    refine gx_bE e (fun t3 ht3 e => ?_)
    refine gy_fR ht3 dX11_shortest_5 gf_RX11_52_9_8 (by decide) gkN_9_8 gkR_9_8 ?_
    refine gx_bE e (fun _ hu4 e => ?_)
    refine gx_bE e (fun q5 hq5 e => ?_)
    refine gx_callV (n := 0) (st := []) (As := []) (b := t3) dX11_shortest_8 (z_X3_learn hq5) rfl ⟨rfl, gw_cw_X3_learn, gw_6, gp_X3_learn, ⟨Nat.le_of_ble_eq_true rfl, Nat.le_of_ble_eq_true rfl⟩⟩ (gi_isS hu4) (by decide) gw_404 gw_405 gw_406 rfl ⟨Nat.le_of_ble_eq_true rfl, Nat.le_of_ble_eq_true rfl⟩ (Nat.le_of_ble_eq_true rfl) (gy_k0 (kc2 := 1) (ks2 := 6) ⟨rfl, rfl⟩ ?_) gy_kn
    refine gx_aload_n dX11_shortest_11 rfl 0 rfl ?_
    refine gx_bE e (fun t6 ht6 e => ?_)
    refine gy_fR ht6 dX11_shortest_12 gf_RX11_52_9_8 (by decide) gkN_9_8 gkR_9_8 ?_
    refine gx_iload_n dX11_shortest_15 rfl 1 rfl ?_
    refine gx_bE e (fun _ hu7 e => ?_)
    refine gx_bE e (fun q8 hq8 e => ?_)
    refine gx_callV (n := 1) (st := []) (As := [.int (gI v1)]) (b := t6) dX11_shortest_16 (z_X3_least hq8) rfl ⟨rfl, gw_cw_X3_least, gw_6, gp_X3_least, ⟨Nat.le_of_ble_eq_true rfl, Nat.le_of_ble_eq_true rfl⟩⟩ (gi_isS hu7) (by decide) gw_1169 gw_830 gw_831 rfl ⟨Nat.le_of_ble_eq_true rfl, Nat.le_of_ble_eq_true rfl⟩ (Nat.le_of_ble_eq_true rfl) (gy_k1 (x := .int (gI q8)) (kc2 := 1) (ks2 := 6) ⟨rfl, rfl⟩ ?_) gy_kn
    cases e
    exact gx_iret dX11_shortest_19 rfl ⟨Nat.le_of_ble_eq_true rfl, Nat.le_of_ble_eq_true rfl⟩ (fun z => z)
  · have zq1 := z_X11_requireNonterminal hq1
    rw [ht2] at zq1
    refine gx_callS (n := 1) (st := []) (As := [.int (gI v1)]) dX11_shortest_1 zq1 rfl ⟨rfl, gw_cw_X11_requireNonterminal, gw_1, gp_X11_requireNonterminal, ⟨Nat.le_of_ble_eq_true rfl, Nat.le_of_ble_eq_true rfl⟩⟩ gw_1114 gw_1115 ⟨Nat.le_of_ble_eq_true rfl, Nat.le_of_ble_eq_true rfl⟩ (Nat.le_of_ble_eq_true rfl) gy_kN (gy_kE (kc2 := 1) (ks2 := 6) ⟨rfl, rfl⟩ ?_)
    cases e
    exact gx_out rfl ⟨Nat.le_of_ble_eq_true rfl, Nat.le_of_ble_eq_true rfl⟩ (fun z => z)
/-! L_shortest  -/
set_option maxRecDepth 100000 in
def f_L_shortest (n : Nat) (v0 : Nat) (v1 : Int) (v2 : Nat) (h : gi_H) : Option (Int × gi_H) :=
  Option.bind (gi_is h v0 9) fun _ => Option.bind (f_X11_shortest n v0 v1 h) fun q2 => gx_sm q2.1 (fun t3 => Option.bind (gi_rg t3) fun _ => Option.bind (gi_s2 q2.2 v2 (0 : Int) t3) fun h5 => some ((0 : Int), h5)) (fun t3 => if t3 = gx_IOB then (some ((1 : Int), q2.2)) else (none))
set_option maxRecDepth 100000 in
theorem z_L_shortest {n : Nat} {v0 : Nat} {v1 : Int} {v2 : Nat} {h : gi_H} {res : Int} {h1 : gi_H} (e : f_L_shortest n v0 v1 v2 h = some (res, h1)) : gx_Cw mL_shortest false [.ref v0, .int (gI v1), .ref v2] (gi_cv h) (.inl (some (.int (gI res)))) (gi_cv h1) := by
  refine gx_enter (by decide +kernel) rfl (Nat.le_of_ble_eq_true rfl) ?_
  show gx_Z mL_shortest false false 0 0 0 [(0, .ref v0), (1, .int (gI v1)), (2, .ref v2)] [] (gi_cv h) (.inl (some (.int (gI res)))) (gi_cv h1)
  refine gx_aload_n dL_shortest_0 rfl 2 rfl ?_
  refine gy_iconst dL_shortest_1 ?_
  refine gx_aload_n dL_shortest_2 rfl 0 rfl ?_
  refine gx_iload_n dL_shortest_3 rfl 1 rfl ?_
  refine gx_bE e (fun _ hu1 e => ?_)
  refine gx_bE e (fun q2 hq2 e => ?_)
  refine gx_smE e (fun t3 ht3 e => ?_) (fun t3 ht3 e => ?_)
  · have zq2 := z_X11_shortest hq2
    rw [ht3] at zq2
    refine gx_callV (n := 1) (st := [.int (gI (0 : Int)), .ref v2]) (As := [.int (gI v1)]) (b := v0) dL_shortest_4 zq2 rfl ⟨rfl, gw_cw_X11_shortest, gw_1, gp_X11_shortest, ⟨Nat.le_of_ble_eq_true rfl, Nat.le_of_ble_eq_true rfl⟩⟩ (gi_isS hu1) (by decide) gw_1165 gw_1166 gw_1167 rfl ⟨Nat.le_of_ble_eq_true rfl, Nat.le_of_ble_eq_true rfl⟩ (Nat.le_of_ble_eq_true rfl) (gy_k1 (x := .int (gI t3)) (kc2 := 1) (ks2 := 6) ⟨rfl, rfl⟩ ?_) gy_kn
    refine gx_bE e (fun _ g4 e => ?_)
    refine gy_i2l (gi_rgS g4) dL_shortest_7 ?_
    refine gx_bE e (fun h5 hh5 e => ?_)
    refine gy_t2 hh5 dL_shortest_8 ?_
    refine gx_goto (tgt := 15) dL_shortest_9 (by decide) ?_
    refine gy_iconst dL_shortest_15 ?_
    cases e
    exact gx_iret dL_shortest_16 rfl ⟨Nat.le_of_ble_eq_true rfl, Nat.le_of_ble_eq_true rfl⟩ (fun z => z)
  · have zq2 := z_X11_shortest hq2
    rw [ht3] at zq2
    refine gx_callV (n := 1) (st := [.int (gI (0 : Int)), .ref v2]) (As := [.int (gI v1)]) (b := v0) dL_shortest_4 zq2 rfl ⟨rfl, gw_cw_X11_shortest, gw_1, gp_X11_shortest, ⟨Nat.le_of_ble_eq_true rfl, Nat.le_of_ble_eq_true rfl⟩⟩ (gi_isS hu1) (by decide) gw_1165 gw_1166 gw_1167 rfl ⟨Nat.le_of_ble_eq_true rfl, Nat.le_of_ble_eq_true rfl⟩ (Nat.le_of_ble_eq_true rfl) gy_kN (gy_kE (kc2 := 1) (ks2 := 6) ⟨rfl, rfl⟩ ?_)
    refine gx_iE e (fun c6 e => ?_) (fun c6 e => ?_)
    · rw [c6]
      refine gx_catch (ls2 := [(0, .ref v0), (1, .int (gI v1)), (2, .ref v2)]) [] (x := (0, 9, 12, 28)) rfl (fun z hz => by cases hz) (by decide +kernel) (by decide) gw_1028 (by decide +kernel) (Nat.le_of_ble_eq_true rfl) (Or.inl ⟨3, rfl, rfl, dL_shortest_12⟩) rfl ?_
      refine gy_iconst dL_shortest_13 ?_
      cases e
      exact gx_iret dL_shortest_14 rfl ⟨Nat.le_of_ble_eq_true rfl, Nat.le_of_ble_eq_true rfl⟩ (fun z => z)
    cases e
/-! X12_shortest  -/
set_option maxRecDepth 100000 in
def f_X12_shortest (n : Nat) (v0 : Nat) (v1 : Int) (h : gi_H) : Option (Int × gi_H) :=
  Option.bind (gi_is h v0 10) fun _ => Option.bind (f_X12_finds n v0 h) fun q2 => Option.bind (f_X12_isBelow v1 (16 : Int) q2) fun q3 => Option.bind (gi_is q2 v0 10) fun _ => Option.bind (f_X12_goes v0 q3 (1 : Int) (1 : Int) q2) fun q5 => Option.bind (gi_rg q5.1) fun _ => if q5.1 = 0 then (some ((0 : Int), q5.2)) else (Option.bind (gi_gR q5.2 v0 10 21) fun t8 => Option.bind (gi_aI q5.2 1 t8 v1) fun t9 => Option.bind (gi_rg t9) fun _ => if t9 ≤ (100 : Int) then (Option.bind (gi_gR q5.2 v0 10 21) fun t12 => Option.bind (gi_aI q5.2 1 t12 v1) fun t13 => Option.bind (gi_rg t13) fun _ => if t13 ≤ (99 : Int) then (Option.bind (gi_gR q5.2 v0 10 21) fun t16 => Option.bind (gi_aI q5.2 1 t16 v1) fun t17 => some (t17, q5.2)) else (some ((99 : Int), q5.2))) else (some ((-1 : Int), q5.2)))
set_option maxRecDepth 100000 in
theorem z_X12_shortest {al : Bool} {n : Nat} {v0 : Nat} {v1 : Int} {h : gi_H} {res : Int} {h1 : gi_H} (e : f_X12_shortest n v0 v1 h = some (res, h1)) : gx_Cw mX12_shortest al [.ref v0, .int (gI v1)] (gi_cv h) (.inl (some (.int (gI res)))) (gi_cv h1) := by
  refine gx_enter (by decide +kernel) rfl (Nat.le_of_ble_eq_true rfl) ?_
  show gx_Z mX12_shortest al al 0 0 0 [(0, .ref v0), (1, .int (gI v1))] [] (gi_cv h) (.inl (some (.int (gI res)))) (gi_cv h1)
  refine gx_aload_n dX12_shortest_0 rfl 0 rfl ?_
  refine gx_bE e (fun _ hu1 e => ?_)
  refine gx_bE e (fun q2 hq2 e => ?_)
  refine gx_callV (n := 0) (st := []) (As := []) (b := v0) dX12_shortest_1 (z_X12_finds hq2) rfl ⟨rfl, gw_cw_X12_finds, gw_14, gp_X12_finds, ⟨Nat.le_of_ble_eq_true rfl, Nat.le_of_ble_eq_true rfl⟩⟩ (gi_isS hu1) (by decide) gw_1587 gw_1589 gs_72 rfl ⟨Nat.le_of_ble_eq_true rfl, Nat.le_of_ble_eq_true rfl⟩ (Nat.le_of_ble_eq_true rfl) (gy_k0 (kc2 := 0) (ks2 := 0) ⟨rfl, rfl⟩ ?_) gy_kn
  refine gx_aload_n dX12_shortest_4 rfl 0 rfl ?_
  refine gx_iload_n dX12_shortest_5 rfl 1 rfl ?_
  refine gy_bipush dX12_shortest_6 gcb_16 ?_
  refine gx_bE e (fun q3 hq3 e => ?_)
  refine gx_callS (n := 2) (st := [.ref v0]) (As := [.int (gI v1), .int (gI (16 : Int))]) dX12_shortest_8 (z_X12_isBelow hq3) rfl ⟨rfl, gw_cw_X12_isBelow, gw_14, gp_X12_isBelow, ⟨Nat.le_of_ble_eq_true rfl, Nat.le_of_ble_eq_true rfl⟩⟩ gw_1540 gw_1541 ⟨Nat.le_of_ble_eq_true rfl, Nat.le_of_ble_eq_true rfl⟩ (Nat.le_of_ble_eq_true rfl) (gy_k1 (x := .int (gI q3)) (kc2 := 0) (ks2 := 0) ⟨rfl, rfl⟩ ?_) gy_kn
  refine gy_iconst dX12_shortest_11 ?_
  refine gy_iconst dX12_shortest_12 ?_
  refine gx_bE e (fun _ hu4 e => ?_)
  refine gx_bE e (fun q5 hq5 e => ?_)
  refine gx_callV (n := 3) (st := []) (As := [.int (gI q3), .int (gI (1 : Int)), .int (gI (1 : Int))]) (b := v0) dX12_shortest_13 (z_X12_goes hq5) rfl ⟨rfl, gw_cw_X12_goes, gw_14, gp_X12_goes, ⟨Nat.le_of_ble_eq_true rfl, Nat.le_of_ble_eq_true rfl⟩⟩ (gi_isS hu4) (by decide) gw_1480 gw_1482 gs_58 rfl ⟨Nat.le_of_ble_eq_true rfl, Nat.le_of_ble_eq_true rfl⟩ (Nat.le_of_ble_eq_true rfl) (gy_k1 (x := .int (gI q5.1)) (kc2 := 0) (ks2 := 0) ⟨rfl, rfl⟩ ?_) gy_kn
  refine gx_bE e (fun _ g6 e => ?_)
  refine gx_iE e (fun c7 e => ?_) (fun c7 e => ?_)
  · refine gy_if_ne (tgt := 21) (gi_rgS g6) dX12_shortest_16 (by decide) (fun z => absurd c7 z) (fun _ => ?_)
    refine gy_iconst dX12_shortest_19 ?_
    cases e
    exact gx_iret dX12_shortest_20 rfl ⟨Nat.le_of_ble_eq_true rfl, Nat.le_of_ble_eq_true rfl⟩ (fun z => z)
  · refine gy_if_ne (tgt := 21) (gi_rgS g6) dX12_shortest_16 (by decide) (fun _ => ?_) (fun z => absurd z c7)
    refine gx_aload_n dX12_shortest_21 rfl 0 rfl ?_
    refine gx_bE e (fun t8 ht8 e => ?_)
    refine gy_fR ht8 dX12_shortest_22 gf_RX12_58_10_21 (by decide) gkN_10_21 gkR_10_21 ?_
    refine gx_iload_n dX12_shortest_25 rfl 1 rfl ?_
    refine gx_bE e (fun t9 ht9 e => ?_)
    refine gy_l1 ht9 dX12_shortest_26 ?_
    refine gy_bipush dX12_shortest_27 gcb_100 ?_
    refine gx_bE e (fun _ g10 e => ?_)
    refine gx_iE e (fun c11 e => ?_) (fun c11 e => ?_)
    · refine gy_icmp_le (tgt := 36) (gi_rgS g10) (by decide) dX12_shortest_29 (by decide) (fun _ => ?_) (fun z => absurd c11 z)
      refine gx_aload_n dX12_shortest_36 rfl 0 rfl ?_
      refine gx_bE e (fun t12 ht12 e => ?_)
      refine gy_fR ht12 dX12_shortest_37 gf_RX12_58_10_21 (by decide) gkN_10_21 gkR_10_21 ?_
      refine gx_iload_n dX12_shortest_40 rfl 1 rfl ?_
      refine gx_bE e (fun t13 ht13 e => ?_)
      refine gy_l1 ht13 dX12_shortest_41 ?_
      refine gy_bipush dX12_shortest_42 gcb_99 ?_
      refine gx_bE e (fun _ g14 e => ?_)
      refine gx_iE e (fun c15 e => ?_) (fun c15 e => ?_)
      · refine gy_icmp_le (tgt := 52) (gi_rgS g14) (by decide) dX12_shortest_44 (by decide) (fun _ => ?_) (fun z => absurd c15 z)
        refine gx_aload_n dX12_shortest_52 rfl 0 rfl ?_
        refine gx_bE e (fun t16 ht16 e => ?_)
        refine gy_fR ht16 dX12_shortest_53 gf_RX12_58_10_21 (by decide) gkN_10_21 gkR_10_21 ?_
        refine gx_iload_n dX12_shortest_56 rfl 1 rfl ?_
        refine gx_bE e (fun t17 ht17 e => ?_)
        refine gy_l1 ht17 dX12_shortest_57 ?_
        cases e
        exact gx_iret dX12_shortest_58 rfl ⟨Nat.le_of_ble_eq_true rfl, Nat.le_of_ble_eq_true rfl⟩ (fun z => z)
      · refine gy_icmp_le (tgt := 52) (gi_rgS g14) (by decide) dX12_shortest_44 (by decide) (fun z => absurd z c15) (fun _ => ?_)
        refine gy_bipush dX12_shortest_47 gcb_99 ?_
        refine gx_goto (tgt := 58) dX12_shortest_49 (by decide) ?_
        cases e
        exact gx_iret dX12_shortest_58 rfl ⟨Nat.le_of_ble_eq_true rfl, Nat.le_of_ble_eq_true rfl⟩ (fun z => z)
    · refine gy_icmp_le (tgt := 36) (gi_rgS g10) (by decide) dX12_shortest_29 (by decide) (fun z => absurd z c11) (fun _ => ?_)
      refine gy_iconst dX12_shortest_32 ?_
      refine gx_goto (tgt := 58) dX12_shortest_33 (by decide) ?_
      cases e
      exact gx_iret dX12_shortest_58 rfl ⟨Nat.le_of_ble_eq_true rfl, Nat.le_of_ble_eq_true rfl⟩ (fun z => z)
/-! X3_spelled  -/
set_option maxRecDepth 100000 in
def f_X3_spelled (v0 : Nat) (v1 : Int) (v2 : Int) (h : gi_H) : Option (Int) :=
  Option.bind (gi_is h v0 2) fun _ => Option.bind (f_X3_least v0 v1 h) fun q2 => gx_nm ((q2 - (1 : Int)) - v2) fun t3 => Option.bind (gi_rg v1) fun _ => if v1 < 0 then (some (-1 : Int)) else (if (16 : Int) ≤ v1 then (some (-1 : Int)) else (Option.bind (gi_rg t3) fun _ => if t3 < 0 then (some (-1 : Int)) else (if t3 < (20 : Int) then (Option.bind (gi_gR h v0 2 9) fun t10 => Option.bind (gi_aL h t10 ((16 : Int) + v1)) fun t11 => some (gi_and (gi_shrL t11 ((3 : Int) * t3)) (7 : Int))) else (some (-1 : Int)))))
set_option maxRecDepth 100000 in
theorem z_X3_spelled {al : Bool} {v0 : Nat} {v1 : Int} {v2 : Int} {h : gi_H} {res : Int} (e : f_X3_spelled v0 v1 v2 h = some res) : gx_Cw mX3_spelled al [.ref v0, .int (gI v1), .int (gI v2)] (gi_cv h) (.inl (some (.int (gI res)))) (gi_cv h) := by
  refine gx_enter (by decide +kernel) rfl (Nat.le_of_ble_eq_true rfl) ?_
  show gx_Z mX3_spelled al al 0 0 0 [(0, .ref v0), (1, .int (gI v1)), (2, .int (gI v2))] [] (gi_cv h) (.inl (some (.int (gI res)))) (gi_cv h)
  refine gx_aload_n dX3_spelled_0 rfl 0 rfl ?_
  refine gx_iload_n dX3_spelled_1 rfl 1 rfl ?_
  refine gx_bE e (fun _ hu1 e => ?_)
  refine gx_bE e (fun q2 hq2 e => ?_)
  refine gx_callV (n := 1) (st := []) (As := [.int (gI v1)]) (b := v0) dX3_spelled_2 (z_X3_least hq2) rfl ⟨rfl, gw_cw_X3_least, gw_6, gp_X3_least, ⟨Nat.le_of_ble_eq_true rfl, Nat.le_of_ble_eq_true rfl⟩⟩ (gi_isS hu1) (by decide) gw_829 gw_830 gw_831 rfl ⟨Nat.le_of_ble_eq_true rfl, Nat.le_of_ble_eq_true rfl⟩ (Nat.le_of_ble_eq_true rfl) (gy_k1 (x := .int (gI q2)) (kc2 := 0) (ks2 := 0) ⟨rfl, rfl⟩ ?_) gy_kn
  refine gy_iconst dX3_spelled_5 ?_
  refine gy_isub dX3_spelled_6 ?_
  refine gx_iload_n dX3_spelled_7 rfl 2 rfl ?_
  refine gy_isub dX3_spelled_8 ?_
  refine gx_nE e (fun t3 ht3 e => ?_)
  rw [ht3]
  refine gx_istore_n (ls2 := [(3, .int (gI t3)), (0, .ref v0), (1, .int (gI v1)), (2, .int (gI v2))]) dX3_spelled_9 rfl (Nat.le_of_ble_eq_true rfl) rfl ?_
  refine gx_iload_n dX3_spelled_10 rfl 2 rfl ?_
  refine gx_bE e (fun _ g4 e => ?_)
  refine gx_iE e (fun c5 e => ?_) (fun c5 e => ?_)
  · refine gy_if_lt (tgt := 30) (gi_rgS g4) dX3_spelled_11 (by decide) (fun _ => ?_) (fun z => absurd c5 z)
    refine gy_iconst dX3_spelled_30 ?_
    cases e
    exact gx_iret dX3_spelled_31 rfl ⟨Nat.le_of_ble_eq_true rfl, Nat.le_of_ble_eq_true rfl⟩ (fun z => z)
  · refine gy_if_lt (tgt := 30) (gi_rgS g4) dX3_spelled_11 (by decide) (fun z => absurd z c5) (fun _ => ?_)
    refine gx_iload_n dX3_spelled_14 rfl 2 rfl ?_
    refine gy_bipush dX3_spelled_15 gcb_16 ?_
    refine gx_iE e (fun c6 e => ?_) (fun c6 e => ?_)
    · refine gy_icmp_ge (tgt := 30) (gi_rgS g4) (by decide) dX3_spelled_17 (by decide) (fun _ => ?_) (fun z => absurd c6 z)
      refine gy_iconst dX3_spelled_30 ?_
      cases e
      exact gx_iret dX3_spelled_31 rfl ⟨Nat.le_of_ble_eq_true rfl, Nat.le_of_ble_eq_true rfl⟩ (fun z => z)
    · refine gy_icmp_ge (tgt := 30) (gi_rgS g4) (by decide) dX3_spelled_17 (by decide) (fun z => absurd z c6) (fun _ => ?_)
      refine gx_iload_n dX3_spelled_20 rfl 0 rfl ?_
      refine gx_bE e (fun _ g7 e => ?_)
      refine gx_iE e (fun c8 e => ?_) (fun c8 e => ?_)
      · refine gy_if_lt (tgt := 30) (gi_rgS g7) dX3_spelled_21 (by decide) (fun _ => ?_) (fun z => absurd c8 z)
        refine gy_iconst dX3_spelled_30 ?_
        cases e
        exact gx_iret dX3_spelled_31 rfl ⟨Nat.le_of_ble_eq_true rfl, Nat.le_of_ble_eq_true rfl⟩ (fun z => z)
      · refine gy_if_lt (tgt := 30) (gi_rgS g7) dX3_spelled_21 (by decide) (fun z => absurd z c8) (fun _ => ?_)
        refine gx_iload_n dX3_spelled_24 rfl 0 rfl ?_
        refine gy_bipush dX3_spelled_25 gcb_20 ?_
        refine gx_iE e (fun c9 e => ?_) (fun c9 e => ?_)
        · refine gy_icmp_lt (tgt := 32) (gi_rgS g7) (by decide) dX3_spelled_27 (by decide) (fun _ => ?_) (fun z => absurd c9 z)
          refine gx_aload_n dX3_spelled_32 rfl 1 rfl ?_
          refine gx_bE e (fun t10 ht10 e => ?_)
          refine gy_fR ht10 dX3_spelled_33 gf_RX3_24_2_9 (by decide) gkN_2_9 gkR_2_9 ?_
          refine gy_bipush dX3_spelled_36 gcb_16 ?_
          refine gx_iload_n dX3_spelled_38 rfl 2 rfl ?_
          refine gy_iadd dX3_spelled_39 ?_
          refine gx_bE e (fun t11 ht11 e => ?_)
          refine gy_l2 ht11 dX3_spelled_40 ?_
          refine gy_iconst dX3_spelled_41 ?_
          refine gx_iload_n dX3_spelled_42 rfl 0 rfl ?_
          refine gy_imul dX3_spelled_43 ?_
          refine gy_lshr dX3_spelled_44 ?_
          refine gy_l2i dX3_spelled_45 ?_
          refine gy_bipush dX3_spelled_46 gcb_7 ?_
          refine gy_iand dX3_spelled_48 ?_
          cases e
          exact gx_iret dX3_spelled_49 rfl ⟨Nat.le_of_ble_eq_true rfl, Nat.le_of_ble_eq_true rfl⟩ (fun z => z)
        · refine gy_icmp_lt (tgt := 32) (gi_rgS g7) (by decide) dX3_spelled_27 (by decide) (fun z => absurd z c9) (fun _ => ?_)
          refine gy_iconst dX3_spelled_30 ?_
          cases e
          exact gx_iret dX3_spelled_31 rfl ⟨Nat.le_of_ble_eq_true rfl, Nat.le_of_ble_eq_true rfl⟩ (fun z => z)
/-! X11_sentence  -/
set_option maxRecDepth 100000 in
def b_X11_sentence_50 (n : Nat)    (h : gi_H) : Option ((Int ⊕ String) × gi_H) :=
  some (.inr gx_ISE, h)
set_option maxRecDepth 100000 in
theorem zb_X11_sentence_50 {n : Nat}  {res : Int ⊕ String} {h1 : gi_H}    {h : gi_H} (e : b_X11_sentence_50 n  h = some (res, h1)) : gx_Z mX11_sentence false false 1 6 50 [] [] (gi_cv h) (gx_oI res) (gi_cv h1) := by
  cases e
  exact gx_throw rfl gt_116_229_120 rfl dX11_sentence_50 dX11_sentence_53 dX11_sentence_54 dX11_sentence_56 dX11_sentence_59 (Nat.le_of_ble_eq_true rfl) (Nat.le_of_ble_eq_true rfl) ⟨Nat.le_of_ble_eq_true rfl, Nat.le_of_ble_eq_true rfl⟩
set_option maxRecDepth 100000 in
def f_X11_sentence (n : Nat) (v0 : Nat) (v1 : Int) (v2 : Int) (h : gi_H) : Option ((Int ⊕ String) × gi_H) :=
  Option.bind (f_X11_requireNonterminal v1 h) fun q1 => gx_sm q1.1 (fun t2 => Option.bind (gi_rg v2) fun _ => if 0 ≤ v2 then (Option.bind (gi_gR q1.2 v0 9 8) fun t5 => Option.bind (gi_is q1.2 t5 2) fun _ => Option.bind (f_X3_learn n t5 q1.2) fun q7 => Option.bind (gi_gR q7 v0 9 8) fun t8 => Option.bind (gi_is q7 t8 2) fun _ => Option.bind (f_X3_least t8 v1 q7) fun q10 => Option.bind (gi_rg q10) fun _ => if q10 = (-1 : Int) then (b_X11_sentence_50 n   q7) else (if (20 : Int) < q10 then (b_X11_sentence_50 n   q7) else (if v2 < q10 then (Option.bind (gi_gR q7 v0 9 8) fun t15 => Option.bind (gi_is q7 t15 2) fun _ => Option.bind (f_X3_spelled t15 v1 v2 q7) fun q17 => some (.inl q17, q7)) else (b_X11_sentence_50 n   q7)))) else (some (.inr gx_IOB, q1.2))) (fun t2 => some (.inr t2, q1.2))
set_option maxRecDepth 100000 in
theorem z_X11_sentence {n : Nat} {v0 : Nat} {v1 : Int} {v2 : Int} {h : gi_H} {res : Int ⊕ String} {h1 : gi_H} (e : f_X11_sentence n v0 v1 v2 h = some (res, h1)) : gx_Cw mX11_sentence false [.ref v0, .int (gI v1), .int (gI v2)] (gi_cv h) (gx_oI res) (gi_cv h1) := by
  refine gx_enter (by decide +kernel) rfl (Nat.le_of_ble_eq_true rfl) ?_
  show gx_Z mX11_sentence false false 0 0 0 [(0, .ref v0), (1, .int (gI v1)), (2, .int (gI v2))] [] (gi_cv h) (gx_oI res) (gi_cv h1)
  refine gx_iload_n dX11_sentence_0 rfl 1 rfl ?_
  refine gx_bE e (fun q1 hq1 e => ?_)
  refine gx_smE e (fun t2 ht2 e => ?_) (fun t2 ht2 e => ?_)
  · have zq1 := z_X11_requireNonterminal hq1
    rw [ht2] at zq1
    refine gx_callS (n := 1) (st := []) (As := [.int (gI v1)]) dX11_sentence_1 zq1 rfl ⟨rfl, gw_cw_X11_requireNonterminal, gw_1, gp_X11_requireNonterminal, ⟨Nat.le_of_ble_eq_true rfl, Nat.le_of_ble_eq_true rfl⟩⟩ gw_1114 gw_1115 ⟨Nat.le_of_ble_eq_true rfl, Nat.le_of_ble_eq_true rfl⟩ (Nat.le_of_ble_eq_true rfl) (gy_k0 (kc2 := 1) (ks2 := 6) ⟨rfl, rfl⟩ ?_) gy_kn
    refine gx_iload_n dX11_sentence_4 rfl 2 rfl ?_
    refine gx_bE e (fun _ g3 e => ?_)
    refine gx_iE e (fun c4 e => ?_) (fun c4 e => ?_)
    · refine gy_if_ge (tgt := 18) (gi_rgS g3) dX11_sentence_5 (by decide) (fun _ => ?_) (fun z => absurd c4 z)
      refine gx_aload_n dX11_sentence_18 rfl 0 rfl ?_
      refine gx_bE e (fun t5 ht5 e => ?_)
      refine gy_fR ht5 dX11_sentence_19 gf_RX11_52_9_8 (by decide) gkN_9_8 gkR_9_8 ?_
      refine gx_bE e (fun _ hu6 e => ?_)
      refine gx_bE e (fun q7 hq7 e => ?_)
      refine gx_callV (n := 0) (st := []) (As := []) (b := t5) dX11_sentence_22 (z_X3_learn hq7) rfl ⟨rfl, gw_cw_X3_learn, gw_6, gp_X3_learn, ⟨Nat.le_of_ble_eq_true rfl, Nat.le_of_ble_eq_true rfl⟩⟩ (gi_isS hu6) (by decide) gw_404 gw_405 gw_406 rfl ⟨Nat.le_of_ble_eq_true rfl, Nat.le_of_ble_eq_true rfl⟩ (Nat.le_of_ble_eq_true rfl) (gy_k0 (kc2 := 1) (ks2 := 6) ⟨rfl, rfl⟩ ?_) gy_kn
      refine gx_aload_n dX11_sentence_25 rfl 0 rfl ?_
      refine gx_bE e (fun t8 ht8 e => ?_)
      refine gy_fR ht8 dX11_sentence_26 gf_RX11_52_9_8 (by decide) gkN_9_8 gkR_9_8 ?_
      refine gx_iload_n dX11_sentence_29 rfl 1 rfl ?_
      refine gx_bE e (fun _ hu9 e => ?_)
      refine gx_bE e (fun q10 hq10 e => ?_)
      refine gx_callV (n := 1) (st := []) (As := [.int (gI v1)]) (b := t8) dX11_sentence_30 (z_X3_least hq10) rfl ⟨rfl, gw_cw_X3_least, gw_6, gp_X3_least, ⟨Nat.le_of_ble_eq_true rfl, Nat.le_of_ble_eq_true rfl⟩⟩ (gi_isS hu9) (by decide) gw_1169 gw_830 gw_831 rfl ⟨Nat.le_of_ble_eq_true rfl, Nat.le_of_ble_eq_true rfl⟩ (Nat.le_of_ble_eq_true rfl) (gy_k1 (x := .int (gI q10)) (kc2 := 1) (ks2 := 6) ⟨rfl, rfl⟩ ?_) gy_kn
      refine gx_istore_n (ls2 := [(3, .int (gI q10)), (0, .ref v0), (1, .int (gI v1)), (2, .int (gI v2))]) dX11_sentence_33 rfl (Nat.le_of_ble_eq_true rfl) rfl ?_
      refine gx_iload_n dX11_sentence_34 rfl 0 rfl ?_
      refine gy_iconst dX11_sentence_35 ?_
      refine gx_bE e (fun _ g11 e => ?_)
      refine gx_iE e (fun c12 e => ?_) (fun c12 e => ?_)
      · refine gy_icmp_eq (tgt := 50) (gi_rgS g11) (by decide) dX11_sentence_36 (by decide) (fun _ => ?_) (fun z => absurd c12 z)
        refine gx_sub (ls2 := []) [] rfl ?_
        exact zb_X11_sentence_50  e
      · refine gy_icmp_eq (tgt := 50) (gi_rgS g11) (by decide) dX11_sentence_36 (by decide) (fun z => absurd z c12) (fun _ => ?_)
        refine gx_iload_n dX11_sentence_39 rfl 0 rfl ?_
        refine gy_bipush dX11_sentence_40 gcb_20 ?_
        refine gx_iE e (fun c13 e => ?_) (fun c13 e => ?_)
        · refine gy_icmp_gt (tgt := 50) (gi_rgS g11) (by decide) dX11_sentence_42 (by decide) (fun _ => ?_) (fun z => absurd c13 z)
          refine gx_sub (ls2 := []) [] rfl ?_
          exact zb_X11_sentence_50  e
        · refine gy_icmp_gt (tgt := 50) (gi_rgS g11) (by decide) dX11_sentence_42 (by decide) (fun z => absurd z c13) (fun _ => ?_)
          refine gx_iload_n dX11_sentence_45 rfl 3 rfl ?_
          refine gx_iload_n dX11_sentence_46 rfl 0 rfl ?_
          refine gx_iE e (fun c14 e => ?_) (fun c14 e => ?_)
          · refine gy_icmp_lt (tgt := 60) (gi_rgS g3) (gi_rgS g11) dX11_sentence_47 (by decide) (fun _ => ?_) (fun z => absurd c14 z)
            refine gx_aload_n dX11_sentence_60 rfl 1 rfl ?_
            refine gx_bE e (fun t15 ht15 e => ?_)
            refine gy_fR ht15 dX11_sentence_61 gf_RX11_52_9_8 (by decide) gkN_9_8 gkR_9_8 ?_
            refine gx_iload_n dX11_sentence_64 rfl 2 rfl ?_
            refine gx_iload_n dX11_sentence_65 rfl 3 rfl ?_
            refine gx_bE e (fun _ hu16 e => ?_)
            refine gx_bE e (fun q17 hq17 e => ?_)
            refine gx_callV (n := 2) (st := []) (As := [.int (gI v1), .int (gI v2)]) (b := t15) dX11_sentence_66 (z_X3_spelled hq17) rfl ⟨rfl, gw_cw_X3_spelled, gw_6, gp_X3_spelled, ⟨Nat.le_of_ble_eq_true rfl, Nat.le_of_ble_eq_true rfl⟩⟩ (gi_isS hu16) (by decide) gw_1179 gw_1180 gw_1181 rfl ⟨Nat.le_of_ble_eq_true rfl, Nat.le_of_ble_eq_true rfl⟩ (Nat.le_of_ble_eq_true rfl) (gy_k1 (x := .int (gI q17)) (kc2 := 1) (ks2 := 6) ⟨rfl, rfl⟩ ?_) gy_kn
            cases e
            exact gx_iret dX11_sentence_69 rfl ⟨Nat.le_of_ble_eq_true rfl, Nat.le_of_ble_eq_true rfl⟩ (fun z => z)
          · refine gy_icmp_lt (tgt := 60) (gi_rgS g3) (gi_rgS g11) dX11_sentence_47 (by decide) (fun z => absurd z c14) (fun _ => ?_)
            refine gx_sub (ls2 := []) [] rfl ?_
            exact zb_X11_sentence_50  e
    · refine gy_if_ge (tgt := 18) (gi_rgS g3) dX11_sentence_5 (by decide) (fun z => absurd z c4) (fun _ => ?_)
      cases e
      exact gx_throw rfl gt_151_227_155 rfl dX11_sentence_8 dX11_sentence_11 dX11_sentence_12 dX11_sentence_14 dX11_sentence_17 (Nat.le_of_ble_eq_true rfl) (Nat.le_of_ble_eq_true rfl) ⟨Nat.le_of_ble_eq_true rfl, Nat.le_of_ble_eq_true rfl⟩
  · have zq1 := z_X11_requireNonterminal hq1
    rw [ht2] at zq1
    refine gx_callS (n := 1) (st := []) (As := [.int (gI v1)]) dX11_sentence_1 zq1 rfl ⟨rfl, gw_cw_X11_requireNonterminal, gw_1, gp_X11_requireNonterminal, ⟨Nat.le_of_ble_eq_true rfl, Nat.le_of_ble_eq_true rfl⟩⟩ gw_1114 gw_1115 ⟨Nat.le_of_ble_eq_true rfl, Nat.le_of_ble_eq_true rfl⟩ (Nat.le_of_ble_eq_true rfl) gy_kN (gy_kE (kc2 := 1) (ks2 := 6) ⟨rfl, rfl⟩ ?_)
    cases e
    exact gx_out rfl ⟨Nat.le_of_ble_eq_true rfl, Nat.le_of_ble_eq_true rfl⟩ (fun z => z)
/-! L_sentence  -/
set_option maxRecDepth 100000 in
def f_L_sentence (n : Nat) (v0 : Nat) (v1 : Int) (v2 : Int) (v3 : Nat) (h : gi_H) : Option (Int × gi_H) :=
  Option.bind (gi_is h v0 9) fun _ => Option.bind (f_X11_sentence n v0 v1 v2 h) fun q2 => gx_sm q2.1 (fun t3 => Option.bind (gi_rg t3) fun _ => Option.bind (gi_s2 q2.2 v3 (0 : Int) t3) fun h5 => some ((0 : Int), h5)) (fun t3 => if t3 = gx_IOB then (some ((1 : Int), q2.2)) else (if t3 = gx_ISE then (some ((2 : Int), q2.2)) else (none)))
set_option maxRecDepth 100000 in
theorem z_L_sentence {n : Nat} {v0 : Nat} {v1 : Int} {v2 : Int} {v3 : Nat} {h : gi_H} {res : Int} {h1 : gi_H} (e : f_L_sentence n v0 v1 v2 v3 h = some (res, h1)) : gx_Cw mL_sentence false [.ref v0, .int (gI v1), .int (gI v2), .ref v3] (gi_cv h) (.inl (some (.int (gI res)))) (gi_cv h1) := by
  refine gx_enter (by decide +kernel) rfl (Nat.le_of_ble_eq_true rfl) ?_
  show gx_Z mL_sentence false false 0 0 0 [(0, .ref v0), (1, .int (gI v1)), (2, .int (gI v2)), (3, .ref v3)] [] (gi_cv h) (.inl (some (.int (gI res)))) (gi_cv h1)
  refine gx_aload_n dL_sentence_0 rfl 3 rfl ?_
  refine gy_iconst dL_sentence_1 ?_
  refine gx_aload_n dL_sentence_2 rfl 0 rfl ?_
  refine gx_iload_n dL_sentence_3 rfl 1 rfl ?_
  refine gx_iload_n dL_sentence_4 rfl 2 rfl ?_
  refine gx_bE e (fun _ hu1 e => ?_)
  refine gx_bE e (fun q2 hq2 e => ?_)
  refine gx_smE e (fun t3 ht3 e => ?_) (fun t3 ht3 e => ?_)
  · have zq2 := z_X11_sentence hq2
    rw [ht3] at zq2
    refine gx_callV (n := 2) (st := [.int (gI (0 : Int)), .ref v3]) (As := [.int (gI v1), .int (gI v2)]) (b := v0) dL_sentence_5 zq2 rfl ⟨rfl, gw_cw_X11_sentence, gw_1, gp_X11_sentence, ⟨Nat.le_of_ble_eq_true rfl, Nat.le_of_ble_eq_true rfl⟩⟩ (gi_isS hu1) (by decide) gw_1173 gw_1174 gw_1175 rfl ⟨Nat.le_of_ble_eq_true rfl, Nat.le_of_ble_eq_true rfl⟩ (Nat.le_of_ble_eq_true rfl) (gy_k1 (x := .int (gI t3)) (kc2 := 2) (ks2 := 12) ⟨rfl, rfl⟩ ?_) gy_kn
    refine gx_bE e (fun _ g4 e => ?_)
    refine gy_i2l (gi_rgS g4) dL_sentence_8 ?_
    refine gx_bE e (fun h5 hh5 e => ?_)
    refine gy_t2 hh5 dL_sentence_9 ?_
    refine gx_goto (tgt := 21) dL_sentence_10 (by decide) ?_
    refine gy_iconst dL_sentence_21 ?_
    cases e
    exact gx_iret dL_sentence_22 rfl ⟨Nat.le_of_ble_eq_true rfl, Nat.le_of_ble_eq_true rfl⟩ (fun z => z)
  · have zq2 := z_X11_sentence hq2
    rw [ht3] at zq2
    refine gx_callV (n := 2) (st := [.int (gI (0 : Int)), .ref v3]) (As := [.int (gI v1), .int (gI v2)]) (b := v0) dL_sentence_5 zq2 rfl ⟨rfl, gw_cw_X11_sentence, gw_1, gp_X11_sentence, ⟨Nat.le_of_ble_eq_true rfl, Nat.le_of_ble_eq_true rfl⟩⟩ (gi_isS hu1) (by decide) gw_1173 gw_1174 gw_1175 rfl ⟨Nat.le_of_ble_eq_true rfl, Nat.le_of_ble_eq_true rfl⟩ (Nat.le_of_ble_eq_true rfl) gy_kN (gy_kE (kc2 := 2) (ks2 := 12) ⟨rfl, rfl⟩ ?_)
    refine gx_iE e (fun c6 e => ?_) (fun c6 e => ?_)
    · rw [c6]
      refine gx_catch (ls2 := [(0, .ref v0), (1, .int (gI v1)), (2, .int (gI v2)), (3, .ref v3)]) [] (x := (0, 10, 13, 28)) rfl (fun z hz => by cases hz) (by decide +kernel) (by decide) gw_1028 (by decide +kernel) (Nat.le_of_ble_eq_true rfl) (Or.inr ⟨rfl, dL_sentence_13⟩) rfl ?_
      refine gy_iconst dL_sentence_15 ?_
      cases e
      exact gx_iret dL_sentence_16 rfl ⟨Nat.le_of_ble_eq_true rfl, Nat.le_of_ble_eq_true rfl⟩ (fun z => z)
    refine gx_iE e (fun c7 e => ?_) (fun c7 e => ?_)
    · rw [c7]
      refine gx_catch (ls2 := [(0, .ref v0), (1, .int (gI v1)), (2, .int (gI v2)), (3, .ref v3)]) [(0, 10, 13, 28)] (x := (0, 10, 17, 15)) rfl (by refine List.forall_mem_cons.mpr ⟨⟨by decide, "java/lang/IndexOutOfBoundsException", gw_1028, by decide +kernel⟩, ?_⟩;  exact fun z hz => absurd hz List.not_mem_nil) (by decide +kernel) (by decide) gw_837 (by decide +kernel) (Nat.le_of_ble_eq_true rfl) (Or.inr ⟨rfl, dL_sentence_17⟩) rfl ?_
      refine gy_iconst dL_sentence_19 ?_
      cases e
      exact gx_iret dL_sentence_20 rfl ⟨Nat.le_of_ble_eq_true rfl, Nat.le_of_ble_eq_true rfl⟩ (fun z => z)
    cases e
/-! X12_sentence  -/
set_option maxRecDepth 100000 in
def b_X12_sentence_55 (n : Nat)  (v0 : Nat) (v1 : Int) (v2 : Int) (s0 : Nat) (s1 : Int) (s2 : Int) (h : gi_H) : Option (Int × gi_H) :=
  Option.bind (gi_is h s0 10) fun _ => Option.bind (f_X12_goes s0 s1 s2 (1 : Int) h) fun q9 => Option.bind (gi_rg q9.1) fun _ => if q9.1 = 0 then (some ((0 : Int), q9.2)) else (Option.bind (gi_gR q9.2 v0 10 22) fun t12 => Option.bind (gi_aL q9.2 t12 v1) fun t13 => Option.bind (gi_gR q9.2 v0 10 21) fun t14 => Option.bind (gi_aI q9.2 1 t14 v1) fun t15 => some ((gi_andL (gi_shrL t13 ((3 : Int) * ((t15 - (1 : Int)) - v2))) (7 : Int)), q9.2))
set_option maxRecDepth 100000 in
theorem zb_X12_sentence_55 {al : Bool} {n : Nat}  {res : Int} {h1 : gi_H}  {v0 : Nat} {v1 : Int} {v2 : Int} {s0 : Nat} {s1 : Int} {s2 : Int} {h : gi_H} (e : b_X12_sentence_55 n v0 v1 v2 s0 s1 s2 h = some (res, h1)) : gx_Z mX12_sentence al al 0 0 55 [(0, .ref v0), (1, .int (gI v1)), (2, .int (gI v2))] [.int (gI s2), .int (gI s1), .ref s0] (gi_cv h) (.inl (some (.int (gI res)))) (gi_cv h1) := by
  refine gy_iconst dX12_sentence_55 ?_
  refine gx_bE e (fun _ hu8 e => ?_)
  refine gx_bE e (fun q9 hq9 e => ?_)
  refine gx_callV (n := 3) (st := []) (As := [.int (gI s1), .int (gI s2), .int (gI (1 : Int))]) (b := s0) dX12_sentence_56 (z_X12_goes hq9) rfl ⟨rfl, gw_cw_X12_goes, gw_14, gp_X12_goes, ⟨Nat.le_of_ble_eq_true rfl, Nat.le_of_ble_eq_true rfl⟩⟩ (gi_isS hu8) (by decide) gw_1480 gw_1482 gs_58 rfl ⟨Nat.le_of_ble_eq_true rfl, Nat.le_of_ble_eq_true rfl⟩ (Nat.le_of_ble_eq_true rfl) (gy_k1 (x := .int (gI q9.1)) (kc2 := 0) (ks2 := 0) ⟨rfl, rfl⟩ ?_) gy_kn
  refine gx_bE e (fun _ g10 e => ?_)
  refine gx_iE e (fun c11 e => ?_) (fun c11 e => ?_)
  · refine gy_if_ne (tgt := 64) (gi_rgS g10) dX12_sentence_59 (by decide) (fun z => absurd c11 z) (fun _ => ?_)
    refine gy_iconst dX12_sentence_62 ?_
    cases e
    exact gx_iret dX12_sentence_63 rfl ⟨Nat.le_of_ble_eq_true rfl, Nat.le_of_ble_eq_true rfl⟩ (fun z => z)
  · refine gy_if_ne (tgt := 64) (gi_rgS g10) dX12_sentence_59 (by decide) (fun _ => ?_) (fun z => absurd z c11)
    refine gx_aload_n dX12_sentence_64 rfl 0 rfl ?_
    refine gx_bE e (fun t12 ht12 e => ?_)
    refine gy_fR ht12 dX12_sentence_65 gf_RX12_61_10_22 (by decide) gkN_10_22 gkR_10_22 ?_
    refine gx_iload_n dX12_sentence_68 rfl 1 rfl ?_
    refine gx_bE e (fun t13 ht13 e => ?_)
    refine gy_l2 ht13 dX12_sentence_69 ?_
    refine gy_iconst dX12_sentence_70 ?_
    refine gx_aload_n dX12_sentence_71 rfl 0 rfl ?_
    refine gx_bE e (fun t14 ht14 e => ?_)
    refine gy_fR ht14 dX12_sentence_72 gf_RX12_58_10_21 (by decide) gkN_10_21 gkR_10_21 ?_
    refine gx_iload_n dX12_sentence_75 rfl 1 rfl ?_
    refine gx_bE e (fun t15 ht15 e => ?_)
    refine gy_l1 ht15 dX12_sentence_76 ?_
    refine gy_iconst dX12_sentence_77 ?_
    refine gy_isub dX12_sentence_78 ?_
    refine gx_iload_n dX12_sentence_79 rfl 2 rfl ?_
    refine gy_isub dX12_sentence_80 ?_
    refine gy_imul dX12_sentence_81 ?_
    refine gy_lshr dX12_sentence_82 ?_
    refine gy_ldc2 (n := 7) dX12_sentence_83 gw_1644 (by decide +kernel) ?_
    refine gy_land dX12_sentence_86 ?_
    refine gy_l2i dX12_sentence_87 ?_
    cases e
    exact gx_iret dX12_sentence_88 rfl ⟨Nat.le_of_ble_eq_true rfl, Nat.le_of_ble_eq_true rfl⟩ (fun z => z)
set_option maxRecDepth 100000 in
def b_X12_sentence_54 (n : Nat)  (v0 : Nat) (v1 : Int) (v2 : Int) (s0 : Nat) (s1 : Int) (h : gi_H) : Option (Int × gi_H) :=
  b_X12_sentence_55 n  v0 v1 v2 s0 s1 (0 : Int) h
set_option maxRecDepth 100000 in
theorem zb_X12_sentence_54 {al : Bool} {n : Nat}  {res : Int} {h1 : gi_H}  {v0 : Nat} {v1 : Int} {v2 : Int} {s0 : Nat} {s1 : Int} {h : gi_H} (e : b_X12_sentence_54 n v0 v1 v2 s0 s1 h = some (res, h1)) : gx_Z mX12_sentence al al 0 0 54 [(0, .ref v0), (1, .int (gI v1)), (2, .int (gI v2))] [.int (gI s1), .ref s0] (gi_cv h) (.inl (some (.int (gI res)))) (gi_cv h1) := by
  refine gy_iconst dX12_sentence_54 ?_
  exact zb_X12_sentence_55  e
set_option maxRecDepth 100000 in
def b_X12_sentence_22 (n : Nat)  (v0 : Nat) (v1 : Int) (v2 : Int) (s0 : Int) (h : gi_H) : Option (Int × gi_H) :=
  Option.bind (gi_rg s0) fun _ => if s0 = 0 then (b_X12_sentence_54 n  v0 v1 v2 v0 s0 h) else (Option.bind (gi_gR h v0 10 21) fun t16 => Option.bind (gi_aI h 1 t16 v1) fun t17 => Option.bind (gi_rg t17) fun _ => if (20 : Int) < t17 then (b_X12_sentence_54 n  v0 v1 v2 v0 s0 h) else (Option.bind (gi_gR h v0 10 21) fun t20 => Option.bind (gi_aI h 1 t20 v1) fun t21 => Option.bind (gi_rg v2) fun _ => Option.bind (gi_rg t21) fun _ => if t21 ≤ v2 then (b_X12_sentence_54 n  v0 v1 v2 v0 s0 h) else (b_X12_sentence_55 n  v0 v1 v2 v0 s0 (1 : Int) h)))
set_option maxRecDepth 100000 in
theorem zb_X12_sentence_22 {al : Bool} {n : Nat}  {res : Int} {h1 : gi_H}  {v0 : Nat} {v1 : Int} {v2 : Int} {s0 : Int} {h : gi_H} (e : b_X12_sentence_22 n v0 v1 v2 s0 h = some (res, h1)) : gx_Z mX12_sentence al al 0 0 22 [(0, .ref v0), (1, .int (gI v1)), (2, .int (gI v2))] [.int (gI s0)] (gi_cv h) (.inl (some (.int (gI res)))) (gi_cv h1) := by
  refine gx_istore_n (ls2 := [(3, .int (gI s0)), (0, .ref v0), (1, .int (gI v1)), (2, .int (gI v2))]) dX12_sentence_22 rfl (Nat.le_of_ble_eq_true rfl) rfl ?_
  refine gx_aload_n dX12_sentence_23 rfl 1 rfl ?_
  refine gx_iload_n dX12_sentence_24 rfl 0 rfl ?_
  refine gx_iload_n dX12_sentence_25 rfl 0 rfl ?_
  refine gx_bE e (fun _ g6 e => ?_)
  refine gx_iE e (fun c7 e => ?_) (fun c7 e => ?_)
  · refine gy_if_eq (tgt := 54) (gi_rgS g6) dX12_sentence_26 (by decide) (fun _ => ?_) (fun z => absurd c7 z)
    refine gx_sub (ls2 := [(0, .ref v0), (1, .int (gI v1)), (2, .int (gI v2))]) [1, 2, 3] rfl ?_
    exact zb_X12_sentence_54  e
  · refine gy_if_eq (tgt := 54) (gi_rgS g6) dX12_sentence_26 (by decide) (fun z => absurd z c7) (fun _ => ?_)
    refine gx_aload_n dX12_sentence_29 rfl 1 rfl ?_
    refine gx_bE e (fun t16 ht16 e => ?_)
    refine gy_fR ht16 dX12_sentence_30 gf_RX12_58_10_21 (by decide) gkN_10_21 gkR_10_21 ?_
    refine gx_iload_n dX12_sentence_33 rfl 2 rfl ?_
    refine gx_bE e (fun t17 ht17 e => ?_)
    refine gy_l1 ht17 dX12_sentence_34 ?_
    refine gy_bipush dX12_sentence_35 gcb_20 ?_
    refine gx_bE e (fun _ g18 e => ?_)
    refine gx_iE e (fun c19 e => ?_) (fun c19 e => ?_)
    · refine gy_icmp_gt (tgt := 54) (gi_rgS g18) (by decide) dX12_sentence_37 (by decide) (fun _ => ?_) (fun z => absurd c19 z)
      refine gx_sub (ls2 := [(0, .ref v0), (1, .int (gI v1)), (2, .int (gI v2))]) [1, 2, 3] rfl ?_
      exact zb_X12_sentence_54  e
    · refine gy_icmp_gt (tgt := 54) (gi_rgS g18) (by decide) dX12_sentence_37 (by decide) (fun z => absurd z c19) (fun _ => ?_)
      refine gx_iload_n dX12_sentence_40 rfl 3 rfl ?_
      refine gx_aload_n dX12_sentence_41 rfl 1 rfl ?_
      refine gx_bE e (fun t20 ht20 e => ?_)
      refine gy_fR ht20 dX12_sentence_42 gf_RX12_58_10_21 (by decide) gkN_10_21 gkR_10_21 ?_
      refine gx_iload_n dX12_sentence_45 rfl 2 rfl ?_
      refine gx_bE e (fun t21 ht21 e => ?_)
      refine gy_l1 ht21 dX12_sentence_46 ?_
      refine gx_bE e (fun _ g22 e => ?_)
      refine gx_bE e (fun _ g23 e => ?_)
      refine gx_iE e (fun c24 e => ?_) (fun c24 e => ?_)
      · refine gy_icmp_ge (tgt := 54) (gi_rgS g22) (gi_rgS g23) dX12_sentence_47 (by decide) (fun _ => ?_) (fun z => absurd c24 z)
        refine gx_sub (ls2 := [(0, .ref v0), (1, .int (gI v1)), (2, .int (gI v2))]) [1, 2, 3] rfl ?_
        exact zb_X12_sentence_54  e
      · refine gy_icmp_ge (tgt := 54) (gi_rgS g22) (gi_rgS g23) dX12_sentence_47 (by decide) (fun z => absurd z c24) (fun _ => ?_)
        refine gy_iconst dX12_sentence_50 ?_
        refine gx_goto (tgt := 55) dX12_sentence_51 (by decide) ?_
        refine gx_sub (ls2 := [(0, .ref v0), (1, .int (gI v1)), (2, .int (gI v2))]) [1, 2, 3] rfl ?_
        exact zb_X12_sentence_55  e
set_option maxRecDepth 100000 in
def b_X12_sentence_21 (n : Nat)  (v0 : Nat) (v1 : Int) (v2 : Int)  (h : gi_H) : Option (Int × gi_H) :=
  b_X12_sentence_22 n  v0 v1 v2 (0 : Int) h
set_option maxRecDepth 100000 in
theorem zb_X12_sentence_21 {al : Bool} {n : Nat}  {res : Int} {h1 : gi_H}  {v0 : Nat} {v1 : Int} {v2 : Int}  {h : gi_H} (e : b_X12_sentence_21 n v0 v1 v2 h = some (res, h1)) : gx_Z mX12_sentence al al 0 0 21 [(0, .ref v0), (1, .int (gI v1)), (2, .int (gI v2))] [] (gi_cv h) (.inl (some (.int (gI res)))) (gi_cv h1) := by
  refine gy_iconst dX12_sentence_21 ?_
  exact zb_X12_sentence_22  e
set_option maxRecDepth 100000 in
def f_X12_sentence (n : Nat) (v0 : Nat) (v1 : Int) (v2 : Int) (h : gi_H) : Option (Int × gi_H) :=
  Option.bind (gi_is h v0 10) fun _ => Option.bind (f_X12_finds n v0 h) fun q2 => Option.bind (f_X12_isBelow v1 (16 : Int) q2) fun q3 => Option.bind (gi_rg q3) fun _ => if q3 = 0 then (b_X12_sentence_21 n  v0 v1 v2 q2) else (Option.bind (gi_rg v2) fun _ => if v2 < 0 then (b_X12_sentence_21 n  v0 v1 v2 q2) else (b_X12_sentence_22 n  v0 v1 v2 (1 : Int) q2))
set_option maxRecDepth 100000 in
theorem z_X12_sentence {al : Bool} {n : Nat} {v0 : Nat} {v1 : Int} {v2 : Int} {h : gi_H} {res : Int} {h1 : gi_H} (e : f_X12_sentence n v0 v1 v2 h = some (res, h1)) : gx_Cw mX12_sentence al [.ref v0, .int (gI v1), .int (gI v2)] (gi_cv h) (.inl (some (.int (gI res)))) (gi_cv h1) := by
  refine gx_enter (by decide +kernel) rfl (Nat.le_of_ble_eq_true rfl) ?_
  show gx_Z mX12_sentence al al 0 0 0 [(0, .ref v0), (1, .int (gI v1)), (2, .int (gI v2))] [] (gi_cv h) (.inl (some (.int (gI res)))) (gi_cv h1)
  refine gx_aload_n dX12_sentence_0 rfl 0 rfl ?_
  refine gx_bE e (fun _ hu1 e => ?_)
  refine gx_bE e (fun q2 hq2 e => ?_)
  refine gx_callV (n := 0) (st := []) (As := []) (b := v0) dX12_sentence_1 (z_X12_finds hq2) rfl ⟨rfl, gw_cw_X12_finds, gw_14, gp_X12_finds, ⟨Nat.le_of_ble_eq_true rfl, Nat.le_of_ble_eq_true rfl⟩⟩ (gi_isS hu1) (by decide) gw_1587 gw_1589 gs_72 rfl ⟨Nat.le_of_ble_eq_true rfl, Nat.le_of_ble_eq_true rfl⟩ (Nat.le_of_ble_eq_true rfl) (gy_k0 (kc2 := 0) (ks2 := 0) ⟨rfl, rfl⟩ ?_) gy_kn
  refine gx_iload_n dX12_sentence_4 rfl 1 rfl ?_
  refine gy_bipush dX12_sentence_5 gcb_16 ?_
  refine gx_bE e (fun q3 hq3 e => ?_)
  refine gx_callS (n := 2) (st := []) (As := [.int (gI v1), .int (gI (16 : Int))]) dX12_sentence_7 (z_X12_isBelow hq3) rfl ⟨rfl, gw_cw_X12_isBelow, gw_14, gp_X12_isBelow, ⟨Nat.le_of_ble_eq_true rfl, Nat.le_of_ble_eq_true rfl⟩⟩ gw_1540 gw_1541 ⟨Nat.le_of_ble_eq_true rfl, Nat.le_of_ble_eq_true rfl⟩ (Nat.le_of_ble_eq_true rfl) (gy_k1 (x := .int (gI q3)) (kc2 := 0) (ks2 := 0) ⟨rfl, rfl⟩ ?_) gy_kn
  refine gx_bE e (fun _ g4 e => ?_)
  refine gx_iE e (fun c5 e => ?_) (fun c5 e => ?_)
  · refine gy_if_eq (tgt := 21) (gi_rgS g4) dX12_sentence_10 (by decide) (fun _ => ?_) (fun z => absurd c5 z)
    exact zb_X12_sentence_21  e
  · refine gy_if_eq (tgt := 21) (gi_rgS g4) dX12_sentence_10 (by decide) (fun z => absurd z c5) (fun _ => ?_)
    refine gx_iload_n dX12_sentence_13 rfl 2 rfl ?_
    refine gx_bE e (fun _ g25 e => ?_)
    refine gx_iE e (fun c26 e => ?_) (fun c26 e => ?_)
    · refine gy_if_lt (tgt := 21) (gi_rgS g25) dX12_sentence_14 (by decide) (fun _ => ?_) (fun z => absurd c26 z)
      exact zb_X12_sentence_21  e
    · refine gy_if_lt (tgt := 21) (gi_rgS g25) dX12_sentence_14 (by decide) (fun z => absurd z c26) (fun _ => ?_)
      refine gy_iconst dX12_sentence_17 ?_
      refine gx_goto (tgt := 22) dX12_sentence_18 (by decide) ?_
      exact zb_X12_sentence_22  e
/-! X11_requireKind  -/
set_option maxRecDepth 100000 in
def b_X11_requireKind_9    (h : gi_H) : Option ((Unit ⊕ String) × gi_H) :=
  some (.inr gx_IOB, h)
set_option maxRecDepth 100000 in
theorem zb_X11_requireKind_9  {res : Unit ⊕ String} {h1 : gi_H}    {h : gi_H} (e : b_X11_requireKind_9  h = some (res, h1)) : gx_Z mX11_requireKind false false 0 0 9 [] [] (gi_cv h) (gx_oV res) (gi_cv h1) := by
  cases e
  exact gx_throwW rfl gt_151_278_155 rfl dX11_requireKind_9 dX11_requireKind_12 dX11_requireKind_13 dX11_requireKind_16 dX11_requireKind_19 (Nat.le_of_ble_eq_true rfl) (Nat.le_of_ble_eq_true rfl) ⟨Nat.le_of_ble_eq_true rfl, Nat.le_of_ble_eq_true rfl⟩
set_option maxRecDepth 100000 in
def f_X11_requireKind (v0 : Int) (h : gi_H) : Option ((Unit ⊕ String) × gi_H) :=
  Option.bind (gi_rg v0) fun _ => if v0 < 0 then (b_X11_requireKind_9   h) else (if v0 ≤ (3 : Int) then (some (.inl (), h)) else (b_X11_requireKind_9   h))
set_option maxRecDepth 100000 in
theorem z_X11_requireKind {v0 : Int} {h : gi_H} {res : Unit ⊕ String} {h1 : gi_H} (e : f_X11_requireKind v0 h = some (res, h1)) : gx_Cw mX11_requireKind false [.int (gI v0)] (gi_cv h) (gx_oV res) (gi_cv h1) := by
  refine gx_enter (by decide +kernel) rfl (Nat.le_of_ble_eq_true rfl) ?_
  show gx_Z mX11_requireKind false false 0 0 0 [(0, .int (gI v0))] [] (gi_cv h) (gx_oV res) (gi_cv h1)
  refine gx_iload_n dX11_requireKind_0 rfl 0 rfl ?_
  refine gx_bE e (fun _ g1 e => ?_)
  refine gx_iE e (fun c2 e => ?_) (fun c2 e => ?_)
  · refine gy_if_lt (tgt := 9) (gi_rgS g1) dX11_requireKind_1 (by decide) (fun _ => ?_) (fun z => absurd c2 z)
    refine gx_sub (ls2 := []) [] rfl ?_
    exact zb_X11_requireKind_9  e
  · refine gy_if_lt (tgt := 9) (gi_rgS g1) dX11_requireKind_1 (by decide) (fun z => absurd z c2) (fun _ => ?_)
    refine gx_iload_n dX11_requireKind_4 rfl 0 rfl ?_
    refine gy_iconst dX11_requireKind_5 ?_
    refine gx_iE e (fun c3 e => ?_) (fun c3 e => ?_)
    · refine gy_icmp_le (tgt := 20) (gi_rgS g1) (by decide) dX11_requireKind_6 (by decide) (fun _ => ?_) (fun z => absurd c3 z)
      cases e
      exact gx_vret dX11_requireKind_20 rfl ⟨Nat.le_of_ble_eq_true rfl, Nat.le_of_ble_eq_true rfl⟩ (fun z => z)
    · refine gy_icmp_le (tgt := 20) (gi_rgS g1) (by decide) dX11_requireKind_6 (by decide) (fun z => absurd z c3) (fun _ => ?_)
      refine gx_sub (ls2 := []) [] rfl ?_
      exact zb_X11_requireKind_9  e
/-! X0_addState  -/
set_option maxRecDepth 100000 in
def b_X0_addState_16 (n : Nat)  (v0 : Nat)  (h : gi_H) : Option (Int × gi_H) :=
  Option.bind (gi_pZ h v0 0 3 (1 : Int)) fun h4 => some ((-1 : Int), h4)
set_option maxRecDepth 100000 in
theorem zb_X0_addState_16 {al : Bool} {n : Nat}  {res : Int} {h1 : gi_H}  {v0 : Nat}  {h : gi_H} (e : b_X0_addState_16 n v0 h = some (res, h1)) : gx_Z mX0_addState al al 0 0 16 [(0, .ref v0)] [] (gi_cv h) (.inl (some (.int (gI res)))) (gi_cv h1) := by
  refine gx_aload_n dX0_addState_16 rfl 0 rfl ?_
  refine gy_iconst dX0_addState_17 ?_
  refine gx_bE e (fun h4 hh4 e => ?_)
  refine gy_qZ hh4 dX0_addState_18 gf_RX0_39_0_3 (by decide) gkN_0_3 rfl (Or.inl rfl) ?_
  refine gy_iconst dX0_addState_21 ?_
  cases e
  exact gx_iret dX0_addState_22 rfl ⟨Nat.le_of_ble_eq_true rfl, Nat.le_of_ble_eq_true rfl⟩ (fun z => z)
set_option maxRecDepth 100000 in
def b_X0_addState_97 (n : Nat)  (v0 : Nat) (v1 : Int) (v2 : Int)  (h : gi_H) : Option (Int × gi_H) :=
  Option.bind (gi_gR h v0 0 7) fun t15 => Option.bind (gi_s1 h t15 v2 v1) fun h16 => Option.bind (gi_gR h16 v0 0 8) fun t17 => Option.bind (gi_s4 h16 t17 v2 (1 : Int)) fun h18 => some (v2, h18)
set_option maxRecDepth 100000 in
theorem zb_X0_addState_97 {al : Bool} {n : Nat}  {res : Int} {h1 : gi_H}  {v0 : Nat} {v1 : Int} {v2 : Int}  {h : gi_H} (e : b_X0_addState_97 n v0 v1 v2 h = some (res, h1)) : gx_Z mX0_addState al al 0 0 97 [(0, .ref v0), (1, .int (gI v1)), (2, .int (gI v2))] [] (gi_cv h) (.inl (some (.int (gI res)))) (gi_cv h1) := by
  refine gx_aload_n dX0_addState_97 rfl 0 rfl ?_
  refine gx_bE e (fun t15 ht15 e => ?_)
  refine gy_fR ht15 dX0_addState_98 gf_RX0_18_0_7 (by decide) gkN_0_7 gkR_0_7 ?_
  refine gx_iload_n dX0_addState_101 rfl 2 rfl ?_
  refine gx_iload_n dX0_addState_102 rfl 1 rfl ?_
  refine gx_bE e (fun h16 hh16 e => ?_)
  refine gy_t1 hh16 dX0_addState_103 ?_
  refine gx_aload_n dX0_addState_104 rfl 0 rfl ?_
  refine gx_bE e (fun t17 ht17 e => ?_)
  refine gy_fR ht17 dX0_addState_105 gf_RX0_21_0_8 (by decide) gkN_0_8 gkR_0_8 ?_
  refine gx_iload_n dX0_addState_108 rfl 2 rfl ?_
  refine gy_iconst dX0_addState_109 ?_
  refine gx_bE e (fun h18 hh18 e => ?_)
  refine gy_t4 hh18 dX0_addState_110 ?_
  refine gx_iload_n dX0_addState_111 rfl 2 rfl ?_
  cases e
  exact gx_iret dX0_addState_112 rfl ⟨Nat.le_of_ble_eq_true rfl, Nat.le_of_ble_eq_true rfl⟩ (fun z => z)
set_option maxRecDepth 100000 in
def b_X0_addState_73 (n : Nat) (r73 : Nat → Int → Int → Int → gi_H → Option (Int × gi_H)) (v0 : Nat) (v1 : Int) (v2 : Int) (v3 : Int)  (h : gi_H) : Option (Int × gi_H) :=
  Option.bind (gi_rg v3) fun _ => if (32 : Int) ≤ v3 then (b_X0_addState_97 n  v0 v1 v2 h) else (Option.bind (gi_gR h v0 0 6) fun t19 => Option.bind (gi_s1 h t19 ((v2 * (32 : Int)) + v3) (-1 : Int)) fun h20 => gx_nm (v3 + (1 : Int)) fun t21 => r73 v0 v1 v2 t21 h20)
set_option maxRecDepth 100000 in
theorem zb_X0_addState_73 {al : Bool} {n : Nat} {r73 : Nat → Int → Int → Int → gi_H → Option (Int × gi_H)} {res : Int} {h1 : gi_H} (hr73 : ∀ (x0 : Nat) (x1 : Int) (x2 : Int) (x3 : Int) (hh : gi_H), r73 x0 x1 x2 x3 hh = some (res, h1) → gx_Z mX0_addState al al 0 0 73 [(0, .ref x0), (1, .int (gI x1)), (2, .int (gI x2)), (3, .int (gI x3))] [] (gi_cv hh) (.inl (some (.int (gI res)))) (gi_cv h1)) {v0 : Nat} {v1 : Int} {v2 : Int} {v3 : Int}  {h : gi_H} (e : b_X0_addState_73 n r73 v0 v1 v2 v3 h = some (res, h1)) : gx_Z mX0_addState al al 0 0 73 [(0, .ref v0), (1, .int (gI v1)), (2, .int (gI v2)), (3, .int (gI v3))] [] (gi_cv h) (.inl (some (.int (gI res)))) (gi_cv h1) := by
  refine gx_iload_n dX0_addState_73 rfl 3 rfl ?_
  refine gy_bipush dX0_addState_74 gcb_32 ?_
  refine gx_bE e (fun _ g13 e => ?_)
  refine gx_iE e (fun c14 e => ?_) (fun c14 e => ?_)
  · refine gy_icmp_ge (tgt := 97) (gi_rgS g13) (by decide) dX0_addState_76 (by decide) (fun _ => ?_) (fun z => absurd c14 z)
    refine gx_sub (ls2 := [(0, .ref v0), (1, .int (gI v1)), (2, .int (gI v2))]) [0, 1, 2] rfl ?_
    exact zb_X0_addState_97  e
  · refine gy_icmp_ge (tgt := 97) (gi_rgS g13) (by decide) dX0_addState_76 (by decide) (fun z => absurd z c14) (fun _ => ?_)
    refine gx_aload_n dX0_addState_79 rfl 0 rfl ?_
    refine gx_bE e (fun t19 ht19 e => ?_)
    refine gy_fR ht19 dX0_addState_80 gf_RX0_15_0_6 (by decide) gkN_0_6 gkR_0_6 ?_
    refine gx_iload_n dX0_addState_83 rfl 2 rfl ?_
    refine gy_bipush dX0_addState_84 gcb_32 ?_
    refine gy_imul dX0_addState_86 ?_
    refine gx_iload_n dX0_addState_87 rfl 3 rfl ?_
    refine gy_iadd dX0_addState_88 ?_
    refine gy_iconst dX0_addState_89 ?_
    refine gx_bE e (fun h20 hh20 e => ?_)
    refine gy_t1 hh20 dX0_addState_90 ?_
    refine gx_nE e (fun t21 ht21 e => ?_)
    refine gy_iinc (v := t21) (ls2 := [(3, .int (gI t21)), (0, .ref v0), (1, .int (gI v1)), (2, .int (gI v2))]) dX0_addState_91 3 rfl ht21 (Nat.le_of_ble_eq_true rfl) rfl ?_
    refine gx_goto (tgt := 73) dX0_addState_94 (by decide) ?_
    refine gx_sub (ls2 := [(0, .ref v0), (1, .int (gI v1)), (2, .int (gI v2)), (3, .int (gI t21))]) [1, 2, 3, 0] rfl ?_
    exact hr73 _ _ _ _ _ e
def l_X0_addState_73 (n : Nat)  : Nat → Nat → Int → Int → Int → gi_H → Option (Int × gi_H)
  | 0, _, _, _, _, _ => none
  | k + 1, v0, v1, v2, v3, h => b_X0_addState_73 n  (l_X0_addState_73 n  k) v0 v1 v2 v3 h
theorem zl_X0_addState_73 {al : Bool} {n : Nat}  {res : Int} {h1 : gi_H}  : ∀ (k : Nat) (v0 : Nat) (v1 : Int) (v2 : Int) (v3 : Int) (h : gi_H), l_X0_addState_73 n  k v0 v1 v2 v3 h = some (res, h1) → gx_Z mX0_addState al al 0 0 73 [(0, .ref v0), (1, .int (gI v1)), (2, .int (gI v2)), (3, .int (gI v3))] [] (gi_cv h) (.inl (some (.int (gI res)))) (gi_cv h1)
  | 0, _, _, _, _, _, e => gx_0E e
  | k + 1, _, _, _, _, _, e => zb_X0_addState_73 (n := n)  (zl_X0_addState_73  k) e
set_option maxRecDepth 100000 in
def b_X0_addState_71 (n : Nat)  (v0 : Nat) (v1 : Int) (v2 : Int)  (h : gi_H) : Option (Int × gi_H) :=
  l_X0_addState_73 n  n v0 v1 v2 (0 : Int) h
set_option maxRecDepth 100000 in
theorem zb_X0_addState_71 {al : Bool} {n : Nat}  {res : Int} {h1 : gi_H}  {v0 : Nat} {v1 : Int} {v2 : Int}  {h : gi_H} (e : b_X0_addState_71 n v0 v1 v2 h = some (res, h1)) : gx_Z mX0_addState al al 0 0 71 [(0, .ref v0), (1, .int (gI v1)), (2, .int (gI v2))] [] (gi_cv h) (.inl (some (.int (gI res)))) (gi_cv h1) := by
  refine gy_iconst dX0_addState_71 ?_
  refine gx_istore_n (ls2 := [(3, .int (gI (0 : Int))), (0, .ref v0), (1, .int (gI v1)), (2, .int (gI v2))]) dX0_addState_72 rfl (Nat.le_of_ble_eq_true rfl) rfl ?_
  refine gx_sub (ls2 := [(0, .ref v0), (1, .int (gI v1)), (2, .int (gI v2)), (3, .int (gI (0 : Int)))]) [1, 2, 3, 0] rfl ?_
  exact zl_X0_addState_73  n _ _ _ _ _ e
set_option maxRecDepth 100000 in
def b_X0_addState_40 (n : Nat) (r40 : Nat → Int → Int → Int → gi_H → Option (Int × gi_H)) (v0 : Nat) (v1 : Int) (v2 : Int) (v3 : Int)  (h : gi_H) : Option (Int × gi_H) :=
  Option.bind (gi_rg v3) fun _ => if (150 : Int) ≤ v3 then (b_X0_addState_71 n  v0 v1 v2 h) else (Option.bind (gi_gR h v0 0 5) fun t22 => Option.bind (gi_gR h v0 0 9) fun t23 => Option.bind (gi_aI h 1 t23 v3) fun t24 => Option.bind (gi_s1 h t22 ((v2 * (150 : Int)) + v3) t24) fun h25 => gx_nm (v3 + (1 : Int)) fun t26 => r40 v0 v1 v2 t26 h25)
set_option maxRecDepth 100000 in
theorem zb_X0_addState_40 {al : Bool} {n : Nat} {r40 : Nat → Int → Int → Int → gi_H → Option (Int × gi_H)} {res : Int} {h1 : gi_H} (hr40 : ∀ (x0 : Nat) (x1 : Int) (x2 : Int) (x3 : Int) (hh : gi_H), r40 x0 x1 x2 x3 hh = some (res, h1) → gx_Z mX0_addState al al 0 0 40 [(0, .ref x0), (1, .int (gI x1)), (2, .int (gI x2)), (3, .int (gI x3))] [] (gi_cv hh) (.inl (some (.int (gI res)))) (gi_cv h1)) {v0 : Nat} {v1 : Int} {v2 : Int} {v3 : Int}  {h : gi_H} (e : b_X0_addState_40 n r40 v0 v1 v2 v3 h = some (res, h1)) : gx_Z mX0_addState al al 0 0 40 [(0, .ref v0), (1, .int (gI v1)), (2, .int (gI v2)), (3, .int (gI v3))] [] (gi_cv h) (.inl (some (.int (gI res)))) (gi_cv h1) := by
  refine gx_iload_n dX0_addState_40 rfl 3 rfl ?_
  refine gy_sipush dX0_addState_41 gcs_150 ?_
  refine gx_bE e (fun _ g11 e => ?_)
  refine gx_iE e (fun c12 e => ?_) (fun c12 e => ?_)
  · refine gy_icmp_ge (tgt := 71) (gi_rgS g11) (by decide) dX0_addState_44 (by decide) (fun _ => ?_) (fun z => absurd c12 z)
    refine gx_sub (ls2 := [(0, .ref v0), (1, .int (gI v1)), (2, .int (gI v2))]) [0, 1, 2] rfl ?_
    exact zb_X0_addState_71  e
  · refine gy_icmp_ge (tgt := 71) (gi_rgS g11) (by decide) dX0_addState_44 (by decide) (fun z => absurd z c12) (fun _ => ?_)
    refine gx_aload_n dX0_addState_47 rfl 0 rfl ?_
    refine gx_bE e (fun t22 ht22 e => ?_)
    refine gy_fR ht22 dX0_addState_48 gf_RX0_9_0_5 (by decide) gkN_0_5 gkR_0_5 ?_
    refine gx_iload_n dX0_addState_51 rfl 2 rfl ?_
    refine gy_sipush dX0_addState_52 gcs_150 ?_
    refine gy_imul dX0_addState_55 ?_
    refine gx_iload_n dX0_addState_56 rfl 3 rfl ?_
    refine gy_iadd dX0_addState_57 ?_
    refine gx_aload_n dX0_addState_58 rfl 0 rfl ?_
    refine gx_bE e (fun t23 ht23 e => ?_)
    refine gy_fR ht23 dX0_addState_59 gf_RX0_25_0_9 (by decide) gkN_0_9 gkR_0_9 ?_
    refine gx_iload_n dX0_addState_62 rfl 3 rfl ?_
    refine gx_bE e (fun t24 ht24 e => ?_)
    refine gy_l1 ht24 dX0_addState_63 ?_
    refine gx_bE e (fun h25 hh25 e => ?_)
    refine gy_t1 hh25 dX0_addState_64 ?_
    refine gx_nE e (fun t26 ht26 e => ?_)
    refine gy_iinc (v := t26) (ls2 := [(3, .int (gI t26)), (0, .ref v0), (1, .int (gI v1)), (2, .int (gI v2))]) dX0_addState_65 3 rfl ht26 (Nat.le_of_ble_eq_true rfl) rfl ?_
    refine gx_goto (tgt := 40) dX0_addState_68 (by decide) ?_
    refine gx_sub (ls2 := [(0, .ref v0), (1, .int (gI v1)), (2, .int (gI v2)), (3, .int (gI t26))]) [1, 2, 3, 0] rfl ?_
    exact hr40 _ _ _ _ _ e
def l_X0_addState_40 (n : Nat)  : Nat → Nat → Int → Int → Int → gi_H → Option (Int × gi_H)
  | 0, _, _, _, _, _ => none
  | k + 1, v0, v1, v2, v3, h => b_X0_addState_40 n  (l_X0_addState_40 n  k) v0 v1 v2 v3 h
theorem zl_X0_addState_40 {al : Bool} {n : Nat}  {res : Int} {h1 : gi_H}  : ∀ (k : Nat) (v0 : Nat) (v1 : Int) (v2 : Int) (v3 : Int) (h : gi_H), l_X0_addState_40 n  k v0 v1 v2 v3 h = some (res, h1) → gx_Z mX0_addState al al 0 0 40 [(0, .ref v0), (1, .int (gI v1)), (2, .int (gI v2)), (3, .int (gI v3))] [] (gi_cv h) (.inl (some (.int (gI res)))) (gi_cv h1)
  | 0, _, _, _, _, _, e => gx_0E e
  | k + 1, _, _, _, _, _, e => zb_X0_addState_40 (n := n)  (zl_X0_addState_40  k) e
set_option maxRecDepth 100000 in
def f_X0_addState (n : Nat) (v0 : Nat) (v1 : Int) (h : gi_H) : Option (Int × gi_H) :=
  Option.bind (gi_gI h v0 0 4) fun t1 => Option.bind (gi_rg t1) fun _ => if t1 < 0 then (b_X0_addState_16 n  v0 h) else (Option.bind (gi_gI h v0 0 4) fun t5 => Option.bind (gi_rg t5) fun _ => if t5 < (80 : Int) then (Option.bind (gi_gI h v0 0 4) fun t8 => Option.bind (gi_gI h v0 0 4) fun t9 => Option.bind (gi_pI h v0 0 4 (t9 + (1 : Int))) fun h10 => l_X0_addState_40 n  n v0 v1 t8 (0 : Int) h10) else (b_X0_addState_16 n  v0 h))
set_option maxRecDepth 100000 in
theorem z_X0_addState {al : Bool} {n : Nat} {v0 : Nat} {v1 : Int} {h : gi_H} {res : Int} {h1 : gi_H} (e : f_X0_addState n v0 v1 h = some (res, h1)) : gx_Cw mX0_addState al [.ref v0, .int (gI v1)] (gi_cv h) (.inl (some (.int (gI res)))) (gi_cv h1) := by
  refine gx_enter (by decide +kernel) rfl (Nat.le_of_ble_eq_true rfl) ?_
  show gx_Z mX0_addState al al 0 0 0 [(0, .ref v0), (1, .int (gI v1))] [] (gi_cv h) (.inl (some (.int (gI res)))) (gi_cv h1)
  refine gx_aload_n dX0_addState_0 rfl 0 rfl ?_
  refine gx_bE e (fun t1 ht1 e => ?_)
  refine gy_fI ht1 dX0_addState_1 gf_RX0_42_0_4 (by decide) gkN_0_4 gkR_0_4 ?_
  refine gx_bE e (fun _ g2 e => ?_)
  refine gx_iE e (fun c3 e => ?_) (fun c3 e => ?_)
  · refine gy_if_lt (tgt := 16) (gi_rgS g2) dX0_addState_4 (by decide) (fun _ => ?_) (fun z => absurd c3 z)
    refine gx_sub (ls2 := [(0, .ref v0)]) [0] rfl ?_
    exact zb_X0_addState_16  e
  · refine gy_if_lt (tgt := 16) (gi_rgS g2) dX0_addState_4 (by decide) (fun z => absurd z c3) (fun _ => ?_)
    refine gx_aload_n dX0_addState_7 rfl 0 rfl ?_
    refine gx_bE e (fun t5 ht5 e => ?_)
    refine gy_fI ht5 dX0_addState_8 gf_RX0_42_0_4 (by decide) gkN_0_4 gkR_0_4 ?_
    refine gy_bipush dX0_addState_11 gcb_80 ?_
    refine gx_bE e (fun _ g6 e => ?_)
    refine gx_iE e (fun c7 e => ?_) (fun c7 e => ?_)
    · refine gy_icmp_lt (tgt := 23) (gi_rgS g6) (by decide) dX0_addState_13 (by decide) (fun _ => ?_) (fun z => absurd c7 z)
      refine gx_aload_n dX0_addState_23 rfl 0 rfl ?_
      refine gx_bE e (fun t8 ht8 e => ?_)
      refine gy_fI ht8 dX0_addState_24 gf_RX0_42_0_4 (by decide) gkN_0_4 gkR_0_4 ?_
      refine gx_istore_n (ls2 := [(2, .int (gI t8)), (0, .ref v0), (1, .int (gI v1))]) dX0_addState_27 rfl (Nat.le_of_ble_eq_true rfl) rfl ?_
      refine gx_aload_n dX0_addState_28 rfl 1 rfl ?_
      refine gx_dup dX0_addState_29 rfl ?_
      refine gx_bE e (fun t9 ht9 e => ?_)
      refine gy_fI ht9 dX0_addState_30 gf_RX0_42_0_4 (by decide) gkN_0_4 gkR_0_4 ?_
      refine gy_iconst dX0_addState_33 ?_
      refine gy_iadd dX0_addState_34 ?_
      refine gx_bE e (fun h10 hh10 e => ?_)
      refine gy_qI hh10 dX0_addState_35 gf_RX0_42_0_4 (by decide) gkN_0_4 rfl (Or.inl rfl) ?_
      refine gy_iconst dX0_addState_38 ?_
      refine gx_istore_n (ls2 := [(3, .int (gI (0 : Int))), (2, .int (gI t8)), (0, .ref v0), (1, .int (gI v1))]) dX0_addState_39 rfl (Nat.le_of_ble_eq_true rfl) rfl ?_
      refine gx_sub (ls2 := [(0, .ref v0), (1, .int (gI v1)), (2, .int (gI t8)), (3, .int (gI (0 : Int)))]) [2, 3, 1, 0] rfl ?_
      exact zl_X0_addState_40  n _ _ _ _ _ e
    · refine gy_icmp_lt (tgt := 23) (gi_rgS g6) (by decide) dX0_addState_13 (by decide) (fun z => absurd z c7) (fun _ => ?_)
      refine gx_sub (ls2 := [(0, .ref v0)]) [0] rfl ?_
      exact zb_X0_addState_16  e
/-! X0_row  -/
set_option maxRecDepth 100000 in
def b_X0_row_26  (v0 : Nat) (v1 : Int) (v2 : Int) (s0 : Int) (h : gi_H) : Option (Int) :=
  Option.bind (gi_rg s0) fun _ => if s0 = 0 then (some (0 : Int)) else (Option.bind (gi_gR h v0 0 5) fun t5 => Option.bind (gi_aI h 1 t5 ((v1 * (150 : Int)) + v2)) fun t6 => some t6)
set_option maxRecDepth 100000 in
theorem zb_X0_row_26 {al : Bool}  {res : Int}  {v0 : Nat} {v1 : Int} {v2 : Int} {s0 : Int} {h : gi_H} (e : b_X0_row_26 v0 v1 v2 s0 h = some res) : gx_Z mX0_row al al 0 0 26 [(0, .ref v0), (1, .int (gI v1)), (2, .int (gI v2))] [.int (gI s0)] (gi_cv h) (.inl (some (.int (gI res)))) (gi_cv h) := by
  refine gx_istore_n (ls2 := [(3, .int (gI s0)), (0, .ref v0), (1, .int (gI v1)), (2, .int (gI v2))]) dX0_row_26 rfl (Nat.le_of_ble_eq_true rfl) rfl ?_
  refine gx_iload_n dX0_row_27 rfl 0 rfl ?_
  refine gx_bE e (fun _ g3 e => ?_)
  refine gx_iE e (fun c4 e => ?_) (fun c4 e => ?_)
  · refine gy_if_eq (tgt := 46) (gi_rgS g3) dX0_row_28 (by decide) (fun _ => ?_) (fun z => absurd c4 z)
    refine gy_iconst dX0_row_46 ?_
    cases e
    exact gx_iret dX0_row_47 rfl ⟨Nat.le_of_ble_eq_true rfl, Nat.le_of_ble_eq_true rfl⟩ (fun z => z)
  · refine gy_if_eq (tgt := 46) (gi_rgS g3) dX0_row_28 (by decide) (fun z => absurd z c4) (fun _ => ?_)
    refine gx_aload_n dX0_row_31 rfl 1 rfl ?_
    refine gx_bE e (fun t5 ht5 e => ?_)
    refine gy_fR ht5 dX0_row_32 gf_RX0_9_0_5 (by decide) gkN_0_5 gkR_0_5 ?_
    refine gx_iload_n dX0_row_35 rfl 2 rfl ?_
    refine gy_sipush dX0_row_36 gcs_150 ?_
    refine gy_imul dX0_row_39 ?_
    refine gx_iload_n dX0_row_40 rfl 3 rfl ?_
    refine gy_iadd dX0_row_41 ?_
    refine gx_bE e (fun t6 ht6 e => ?_)
    refine gy_l1 ht6 dX0_row_42 ?_
    refine gx_goto (tgt := 47) dX0_row_43 (by decide) ?_
    cases e
    exact gx_iret dX0_row_47 rfl ⟨Nat.le_of_ble_eq_true rfl, Nat.le_of_ble_eq_true rfl⟩ (fun z => z)
set_option maxRecDepth 100000 in
def b_X0_row_25  (v0 : Nat) (v1 : Int) (v2 : Int)  (h : gi_H) : Option (Int) :=
  b_X0_row_26  v0 v1 v2 (0 : Int) h
set_option maxRecDepth 100000 in
theorem zb_X0_row_25 {al : Bool}  {res : Int}  {v0 : Nat} {v1 : Int} {v2 : Int}  {h : gi_H} (e : b_X0_row_25 v0 v1 v2 h = some res) : gx_Z mX0_row al al 0 0 25 [(0, .ref v0), (1, .int (gI v1)), (2, .int (gI v2))] [] (gi_cv h) (.inl (some (.int (gI res)))) (gi_cv h) := by
  refine gy_iconst dX0_row_25 ?_
  exact zb_X0_row_26  e
set_option maxRecDepth 100000 in
def f_X0_row (v0 : Nat) (v1 : Int) (v2 : Int) (h : gi_H) : Option (Int) :=
  Option.bind (gi_rg v1) fun _ => if v1 < 0 then (b_X0_row_25  v0 v1 v2 h) else (if (80 : Int) ≤ v1 then (b_X0_row_25  v0 v1 v2 h) else (Option.bind (gi_rg v2) fun _ => if v2 < 0 then (b_X0_row_25  v0 v1 v2 h) else (if (150 : Int) ≤ v2 then (b_X0_row_25  v0 v1 v2 h) else (b_X0_row_26  v0 v1 v2 (1 : Int) h))))
set_option maxRecDepth 100000 in
theorem z_X0_row {al : Bool} {v0 : Nat} {v1 : Int} {v2 : Int} {h : gi_H} {res : Int} (e : f_X0_row v0 v1 v2 h = some res) : gx_Cw mX0_row al [.ref v0, .int (gI v1), .int (gI v2)] (gi_cv h) (.inl (some (.int (gI res)))) (gi_cv h) := by
  refine gx_enter (by decide +kernel) rfl (Nat.le_of_ble_eq_true rfl) ?_
  show gx_Z mX0_row al al 0 0 0 [(0, .ref v0), (1, .int (gI v1)), (2, .int (gI v2))] [] (gi_cv h) (.inl (some (.int (gI res)))) (gi_cv h)
  refine gx_iload_n dX0_row_0 rfl 1 rfl ?_
  refine gx_bE e (fun _ g1 e => ?_)
  refine gx_iE e (fun c2 e => ?_) (fun c2 e => ?_)
  · refine gy_if_lt (tgt := 25) (gi_rgS g1) dX0_row_1 (by decide) (fun _ => ?_) (fun z => absurd c2 z)
    exact zb_X0_row_25  e
  · refine gy_if_lt (tgt := 25) (gi_rgS g1) dX0_row_1 (by decide) (fun z => absurd z c2) (fun _ => ?_)
    refine gx_iload_n dX0_row_4 rfl 1 rfl ?_
    refine gy_bipush dX0_row_5 gcb_80 ?_
    refine gx_iE e (fun c7 e => ?_) (fun c7 e => ?_)
    · refine gy_icmp_ge (tgt := 25) (gi_rgS g1) (by decide) dX0_row_7 (by decide) (fun _ => ?_) (fun z => absurd c7 z)
      exact zb_X0_row_25  e
    · refine gy_icmp_ge (tgt := 25) (gi_rgS g1) (by decide) dX0_row_7 (by decide) (fun z => absurd z c7) (fun _ => ?_)
      refine gx_iload_n dX0_row_10 rfl 2 rfl ?_
      refine gx_bE e (fun _ g8 e => ?_)
      refine gx_iE e (fun c9 e => ?_) (fun c9 e => ?_)
      · refine gy_if_lt (tgt := 25) (gi_rgS g8) dX0_row_11 (by decide) (fun _ => ?_) (fun z => absurd c9 z)
        exact zb_X0_row_25  e
      · refine gy_if_lt (tgt := 25) (gi_rgS g8) dX0_row_11 (by decide) (fun z => absurd z c9) (fun _ => ?_)
        refine gx_iload_n dX0_row_14 rfl 2 rfl ?_
        refine gy_sipush dX0_row_15 gcs_150 ?_
        refine gx_iE e (fun c10 e => ?_) (fun c10 e => ?_)
        · refine gy_icmp_ge (tgt := 25) (gi_rgS g8) (by decide) dX0_row_18 (by decide) (fun _ => ?_) (fun z => absurd c10 z)
          exact zb_X0_row_25  e
        · refine gy_icmp_ge (tgt := 25) (gi_rgS g8) (by decide) dX0_row_18 (by decide) (fun z => absurd z c10) (fun _ => ?_)
          refine gy_iconst dX0_row_21 ?_
          refine gx_goto (tgt := 26) dX0_row_22 (by decide) ?_
          exact zb_X0_row_26  e
/-! X3_front  -/
set_option maxRecDepth 100000 in
def b_X3_front_20    (h : gi_H) : Option (Int) :=
  some (-1 : Int)
set_option maxRecDepth 100000 in
theorem zb_X3_front_20 {al : Bool}  {res : Int}    {h : gi_H} (e : b_X3_front_20  h = some res) : gx_Z mX3_front al al 0 0 20 [] [] (gi_cv h) (.inl (some (.int (gI res)))) (gi_cv h) := by
  refine gy_iconst dX3_front_20 ?_
  cases e
  exact gx_iret dX3_front_21 rfl ⟨Nat.le_of_ble_eq_true rfl, Nat.le_of_ble_eq_true rfl⟩ (fun z => z)
set_option maxRecDepth 100000 in
def f_X3_front (v0 : Nat) (v1 : Int) (h : gi_H) : Option (Int) :=
  Option.bind (gi_rg v1) fun _ => if v1 < 0 then (b_X3_front_20   h) else (if (150 : Int) ≤ v1 then (b_X3_front_20   h) else (Option.bind (gi_gR h v0 2 12) fun t4 => Option.bind (gi_aI h 1 t4 v1) fun t5 => some t5))
set_option maxRecDepth 100000 in
theorem z_X3_front {al : Bool} {v0 : Nat} {v1 : Int} {h : gi_H} {res : Int} (e : f_X3_front v0 v1 h = some res) : gx_Cw mX3_front al [.ref v0, .int (gI v1)] (gi_cv h) (.inl (some (.int (gI res)))) (gi_cv h) := by
  refine gx_enter (by decide +kernel) rfl (Nat.le_of_ble_eq_true rfl) ?_
  show gx_Z mX3_front al al 0 0 0 [(0, .ref v0), (1, .int (gI v1))] [] (gi_cv h) (.inl (some (.int (gI res)))) (gi_cv h)
  refine gx_iload_n dX3_front_0 rfl 1 rfl ?_
  refine gx_bE e (fun _ g1 e => ?_)
  refine gx_iE e (fun c2 e => ?_) (fun c2 e => ?_)
  · refine gy_if_lt (tgt := 20) (gi_rgS g1) dX3_front_1 (by decide) (fun _ => ?_) (fun z => absurd c2 z)
    refine gx_sub (ls2 := []) [] rfl ?_
    exact zb_X3_front_20  e
  · refine gy_if_lt (tgt := 20) (gi_rgS g1) dX3_front_1 (by decide) (fun z => absurd z c2) (fun _ => ?_)
    refine gx_iload_n dX3_front_4 rfl 1 rfl ?_
    refine gy_sipush dX3_front_5 gcs_150 ?_
    refine gx_iE e (fun c3 e => ?_) (fun c3 e => ?_)
    · refine gy_icmp_ge (tgt := 20) (gi_rgS g1) (by decide) dX3_front_8 (by decide) (fun _ => ?_) (fun z => absurd c3 z)
      refine gx_sub (ls2 := []) [] rfl ?_
      exact zb_X3_front_20  e
    · refine gy_icmp_ge (tgt := 20) (gi_rgS g1) (by decide) dX3_front_8 (by decide) (fun z => absurd z c3) (fun _ => ?_)
      refine gx_aload_n dX3_front_11 rfl 0 rfl ?_
      refine gx_bE e (fun t4 ht4 e => ?_)
      refine gy_fR ht4 dX3_front_12 gf_RX3_31_2_12 (by decide) gkN_2_12 gkR_2_12 ?_
      refine gx_iload_n dX3_front_15 rfl 1 rfl ?_
      refine gx_bE e (fun t5 ht5 e => ?_)
      refine gy_l1 ht5 dX3_front_16 ?_
      refine gx_goto (tgt := 21) dX3_front_17 (by decide) ?_
      cases e
      exact gx_iret dX3_front_21 rfl ⟨Nat.le_of_ble_eq_true rfl, Nat.le_of_ble_eq_true rfl⟩ (fun z => z)
/-! X3_rest  -/
set_option maxRecDepth 100000 in
def b_X3_rest_20    (h : gi_H) : Option (Int) :=
  some (0 : Int)
set_option maxRecDepth 100000 in
theorem zb_X3_rest_20 {al : Bool}  {res : Int}    {h : gi_H} (e : b_X3_rest_20  h = some res) : gx_Z mX3_rest al al 0 0 20 [] [] (gi_cv h) (.inl (some (.int (gI res)))) (gi_cv h) := by
  refine gy_iconst dX3_rest_20 ?_
  cases e
  exact gx_iret dX3_rest_21 rfl ⟨Nat.le_of_ble_eq_true rfl, Nat.le_of_ble_eq_true rfl⟩ (fun z => z)
set_option maxRecDepth 100000 in
def f_X3_rest (v0 : Nat) (v1 : Int) (h : gi_H) : Option (Int) :=
  Option.bind (gi_rg v1) fun _ => if v1 < 0 then (b_X3_rest_20   h) else (if (150 : Int) ≤ v1 then (b_X3_rest_20   h) else (Option.bind (gi_gR h v0 2 13) fun t4 => Option.bind (gi_aI h 1 t4 v1) fun t5 => some t5))
set_option maxRecDepth 100000 in
theorem z_X3_rest {al : Bool} {v0 : Nat} {v1 : Int} {h : gi_H} {res : Int} (e : f_X3_rest v0 v1 h = some res) : gx_Cw mX3_rest al [.ref v0, .int (gI v1)] (gi_cv h) (.inl (some (.int (gI res)))) (gi_cv h) := by
  refine gx_enter (by decide +kernel) rfl (Nat.le_of_ble_eq_true rfl) ?_
  show gx_Z mX3_rest al al 0 0 0 [(0, .ref v0), (1, .int (gI v1))] [] (gi_cv h) (.inl (some (.int (gI res)))) (gi_cv h)
  refine gx_iload_n dX3_rest_0 rfl 1 rfl ?_
  refine gx_bE e (fun _ g1 e => ?_)
  refine gx_iE e (fun c2 e => ?_) (fun c2 e => ?_)
  · refine gy_if_lt (tgt := 20) (gi_rgS g1) dX3_rest_1 (by decide) (fun _ => ?_) (fun z => absurd c2 z)
    refine gx_sub (ls2 := []) [] rfl ?_
    exact zb_X3_rest_20  e
  · refine gy_if_lt (tgt := 20) (gi_rgS g1) dX3_rest_1 (by decide) (fun z => absurd z c2) (fun _ => ?_)
    refine gx_iload_n dX3_rest_4 rfl 1 rfl ?_
    refine gy_sipush dX3_rest_5 gcs_150 ?_
    refine gx_iE e (fun c3 e => ?_) (fun c3 e => ?_)
    · refine gy_icmp_ge (tgt := 20) (gi_rgS g1) (by decide) dX3_rest_8 (by decide) (fun _ => ?_) (fun z => absurd c3 z)
      refine gx_sub (ls2 := []) [] rfl ?_
      exact zb_X3_rest_20  e
    · refine gy_icmp_ge (tgt := 20) (gi_rgS g1) (by decide) dX3_rest_8 (by decide) (fun z => absurd z c3) (fun _ => ?_)
      refine gx_aload_n dX3_rest_11 rfl 0 rfl ?_
      refine gx_bE e (fun t4 ht4 e => ?_)
      refine gy_fR ht4 dX3_rest_12 gf_RX3_34_2_13 (by decide) gkN_2_13 gkR_2_13 ?_
      refine gx_iload_n dX3_rest_15 rfl 1 rfl ?_
      refine gx_bE e (fun t5 ht5 e => ?_)
      refine gy_l1 ht5 dX3_rest_16 ?_
      refine gx_goto (tgt := 21) dX3_rest_17 (by decide) ?_
      cases e
      exact gx_iret dX3_rest_21 rfl ⟨Nat.le_of_ble_eq_true rfl, Nat.le_of_ble_eq_true rfl⟩ (fun z => z)
/-! X3_grammar  -/
set_option maxRecDepth 100000 in
def f_X3_grammar (v0 : Nat) (h : gi_H) : Option (Nat) :=
  Option.bind (gi_gR h v0 2 0) fun t1 => some t1
set_option maxRecDepth 100000 in
theorem z_X3_grammar {al : Bool} {v0 : Nat} {h : gi_H} {res : Nat} (e : f_X3_grammar v0 h = some res) : gx_Cw mX3_grammar al [.ref v0] (gi_cv h) (.inl (some (.ref res))) (gi_cv h) := by
  refine gx_enter (by decide +kernel) rfl (Nat.le_of_ble_eq_true rfl) ?_
  show gx_Z mX3_grammar al al 0 0 0 [(0, .ref v0)] [] (gi_cv h) (.inl (some (.ref res))) (gi_cv h)
  refine gx_aload_n dX3_grammar_0 rfl 0 rfl ?_
  refine gx_bE e (fun t1 ht1 e => ?_)
  refine gy_fR ht1 dX3_grammar_1 gf_RX3_37_2_0 (by decide) gkN_2_0 gkR_2_0 ?_
  cases e
  exact gx_aret dX3_grammar_4 rfl ⟨Nat.le_of_ble_eq_true rfl, Nat.le_of_ble_eq_true rfl⟩ (fun z => z)
/-! X0_widen  -/
set_option maxRecDepth 100000 in
def f_X0_widen (v0 : Nat) (v1 : Int) (v2 : Int) (v3 : Int) (h : gi_H) : Option (Int × gi_H) :=
  Option.bind (gi_rg v1) fun _ => if v1 < 0 then (some ((0 : Int), h)) else (if (80 : Int) ≤ v1 then (some ((0 : Int), h)) else (Option.bind (gi_rg v2) fun _ => if v2 < 0 then (some ((0 : Int), h)) else (if v2 < (150 : Int) then (Option.bind (gi_gR h v0 0 5) fun t7 => Option.bind (gi_aI h 1 t7 ((v1 * (150 : Int)) + v2)) fun t8 => Option.bind (gi_gR h v0 0 5) fun t9 => Option.bind (gi_s1 h t9 ((v1 * (150 : Int)) + v2) (gi_or t8 v3)) fun h10 => Option.bind (gi_rg (gi_or t8 v3)) fun _ => Option.bind (gi_rg t8) fun _ => if (gi_or t8 v3) = t8 then (some ((0 : Int), h10)) else (some ((1 : Int), h10))) else (some ((0 : Int), h)))))
set_option maxRecDepth 100000 in
theorem z_X0_widen {al : Bool} {v0 : Nat} {v1 : Int} {v2 : Int} {v3 : Int} {h : gi_H} {res : Int} {h1 : gi_H} (e : f_X0_widen v0 v1 v2 v3 h = some (res, h1)) : gx_Cw mX0_widen al [.ref v0, .int (gI v1), .int (gI v2), .int (gI v3)] (gi_cv h) (.inl (some (.int (gI res)))) (gi_cv h1) := by
  refine gx_enter (by decide +kernel) rfl (Nat.le_of_ble_eq_true rfl) ?_
  show gx_Z mX0_widen al al 0 0 0 [(0, .ref v0), (1, .int (gI v1)), (2, .int (gI v2)), (3, .int (gI v3))] [] (gi_cv h) (.inl (some (.int (gI res)))) (gi_cv h1)
  refine gx_iload_n dX0_widen_0 rfl 1 rfl ?_
  refine gx_bE e (fun _ g1 e => ?_)
  refine gx_iE e (fun c2 e => ?_) (fun c2 e => ?_)
  · refine gy_if_lt (tgt := 21) (gi_rgS g1) dX0_widen_1 (by decide) (fun _ => ?_) (fun z => absurd c2 z)
    refine gy_iconst dX0_widen_21 ?_
    cases e
    exact gx_zret (by decide +kernel) dX0_widen_22 rfl ⟨Nat.le_of_ble_eq_true rfl, Nat.le_of_ble_eq_true rfl⟩ (fun z => z)
  · refine gy_if_lt (tgt := 21) (gi_rgS g1) dX0_widen_1 (by decide) (fun z => absurd z c2) (fun _ => ?_)
    refine gx_iload_n dX0_widen_4 rfl 1 rfl ?_
    refine gy_bipush dX0_widen_5 gcb_80 ?_
    refine gx_iE e (fun c3 e => ?_) (fun c3 e => ?_)
    · refine gy_icmp_ge (tgt := 21) (gi_rgS g1) (by decide) dX0_widen_7 (by decide) (fun _ => ?_) (fun z => absurd c3 z)
      refine gy_iconst dX0_widen_21 ?_
      cases e
      exact gx_zret (by decide +kernel) dX0_widen_22 rfl ⟨Nat.le_of_ble_eq_true rfl, Nat.le_of_ble_eq_true rfl⟩ (fun z => z)
    · refine gy_icmp_ge (tgt := 21) (gi_rgS g1) (by decide) dX0_widen_7 (by decide) (fun z => absurd z c3) (fun _ => ?_)
      refine gx_iload_n dX0_widen_10 rfl 2 rfl ?_
      refine gx_bE e (fun _ g4 e => ?_)
      refine gx_iE e (fun c5 e => ?_) (fun c5 e => ?_)
      · refine gy_if_lt (tgt := 21) (gi_rgS g4) dX0_widen_11 (by decide) (fun _ => ?_) (fun z => absurd c5 z)
        refine gy_iconst dX0_widen_21 ?_
        cases e
        exact gx_zret (by decide +kernel) dX0_widen_22 rfl ⟨Nat.le_of_ble_eq_true rfl, Nat.le_of_ble_eq_true rfl⟩ (fun z => z)
      · refine gy_if_lt (tgt := 21) (gi_rgS g4) dX0_widen_11 (by decide) (fun z => absurd z c5) (fun _ => ?_)
        refine gx_iload_n dX0_widen_14 rfl 2 rfl ?_
        refine gy_sipush dX0_widen_15 gcs_150 ?_
        refine gx_iE e (fun c6 e => ?_) (fun c6 e => ?_)
        · refine gy_icmp_lt (tgt := 23) (gi_rgS g4) (by decide) dX0_widen_18 (by decide) (fun _ => ?_) (fun z => absurd c6 z)
          refine gx_aload_n dX0_widen_23 rfl 0 rfl ?_
          refine gx_bE e (fun t7 ht7 e => ?_)
          refine gy_fR ht7 dX0_widen_24 gf_RX0_9_0_5 (by decide) gkN_0_5 gkR_0_5 ?_
          refine gx_iload_n dX0_widen_27 rfl 1 rfl ?_
          refine gy_sipush dX0_widen_28 gcs_150 ?_
          refine gy_imul dX0_widen_31 ?_
          refine gx_iload_n dX0_widen_32 rfl 2 rfl ?_
          refine gy_iadd dX0_widen_33 ?_
          refine gx_bE e (fun t8 ht8 e => ?_)
          refine gy_l1 ht8 dX0_widen_34 ?_
          refine gx_istore (ls2 := [(4, .int (gI t8)), (0, .ref v0), (1, .int (gI v1)), (2, .int (gI v2)), (3, .int (gI v3))]) dX0_widen_35 (Nat.le_of_ble_eq_true rfl) rfl ?_
          refine gx_aload_n dX0_widen_37 rfl 1 rfl ?_
          refine gx_bE e (fun t9 ht9 e => ?_)
          refine gy_fR ht9 dX0_widen_38 gf_RX0_9_0_5 (by decide) gkN_0_5 gkR_0_5 ?_
          refine gx_iload_n dX0_widen_41 rfl 2 rfl ?_
          refine gy_sipush dX0_widen_42 gcs_150 ?_
          refine gy_imul dX0_widen_45 ?_
          refine gx_iload_n dX0_widen_46 rfl 3 rfl ?_
          refine gy_iadd dX0_widen_47 ?_
          refine gx_iload dX0_widen_48 0 rfl ?_
          refine gx_iload_n dX0_widen_50 rfl 4 rfl ?_
          refine gy_ior dX0_widen_51 ?_
          refine gx_bE e (fun h10 hh10 e => ?_)
          refine gy_t1 hh10 dX0_widen_52 ?_
          refine gx_iload dX0_widen_53 0 rfl ?_
          refine gx_iload_n dX0_widen_55 rfl 4 rfl ?_
          refine gy_ior dX0_widen_56 ?_
          refine gx_iload dX0_widen_57 0 rfl ?_
          refine gx_bE e (fun _ g11 e => ?_)
          refine gx_bE e (fun _ g12 e => ?_)
          refine gx_iE e (fun c13 e => ?_) (fun c13 e => ?_)
          · refine gy_icmp_eq (tgt := 66) (gi_rgS g11) (gi_rgS g12) dX0_widen_59 (by decide) (fun _ => ?_) (fun z => absurd c13 z)
            refine gy_iconst dX0_widen_66 ?_
            cases e
            exact gx_zret (by decide +kernel) dX0_widen_67 rfl ⟨Nat.le_of_ble_eq_true rfl, Nat.le_of_ble_eq_true rfl⟩ (fun z => z)
          · refine gy_icmp_eq (tgt := 66) (gi_rgS g11) (gi_rgS g12) dX0_widen_59 (by decide) (fun z => absurd z c13) (fun _ => ?_)
            refine gy_iconst dX0_widen_62 ?_
            refine gx_goto (tgt := 67) dX0_widen_63 (by decide) ?_
            cases e
            exact gx_zret (by decide +kernel) dX0_widen_67 rfl ⟨Nat.le_of_ble_eq_true rfl, Nat.le_of_ble_eq_true rfl⟩ (fun z => z)
        · refine gy_icmp_lt (tgt := 23) (gi_rgS g4) (by decide) dX0_widen_18 (by decide) (fun z => absurd z c6) (fun _ => ?_)
          refine gy_iconst dX0_widen_21 ?_
          cases e
          exact gx_zret (by decide +kernel) dX0_widen_22 rfl ⟨Nat.le_of_ble_eq_true rfl, Nat.le_of_ble_eq_true rfl⟩ (fun z => z)
/-! X0_addItems  -/
set_option maxRecDepth 100000 in
def b_X0_addItems_92 (n : Nat) (r50 : Nat → Int → Int → Int → Nat → Int → Int → gi_H → Option (Int × gi_H)) (v0 : Nat) (v1 : Int) (v3 : Int) (v4 : Int) (v5 : Nat) (v6 : Int) (v7 : Int)  (h : gi_H) : Option (Int × gi_H) :=
  gx_nm (v7 + (1 : Int)) fun t28 => r50 v0 v1 v3 v4 v5 v6 t28 h
set_option maxRecDepth 100000 in
theorem zb_X0_addItems_92 {al : Bool} {n : Nat} {r50 : Nat → Int → Int → Int → Nat → Int → Int → gi_H → Option (Int × gi_H)} {res : Int} {h1 : gi_H} (hr50 : ∀ (x0 : Nat) (x1 : Int) (x3 : Int) (x4 : Int) (x5 : Nat) (x6 : Int) (x7 : Int) (hh : gi_H), r50 x0 x1 x3 x4 x5 x6 x7 hh = some (res, h1) → gx_Z mX0_addItems al al 0 0 50 [(0, .ref x0), (1, .int (gI x1)), (3, .int (gI x3)), (4, .int (gI x4)), (5, .ref x5), (6, .int (gI x6)), (7, .int (gI x7))] [] (gi_cv hh) (.inl (some (.int (gI res)))) (gi_cv h1)) {v0 : Nat} {v1 : Int} {v3 : Int} {v4 : Int} {v5 : Nat} {v6 : Int} {v7 : Int}  {h : gi_H} (e : b_X0_addItems_92 n r50 v0 v1 v3 v4 v5 v6 v7 h = some (res, h1)) : gx_Z mX0_addItems al al 0 0 92 [(0, .ref v0), (1, .int (gI v1)), (3, .int (gI v3)), (4, .int (gI v4)), (5, .ref v5), (6, .int (gI v6)), (7, .int (gI v7))] [] (gi_cv h) (.inl (some (.int (gI res)))) (gi_cv h1) := by
  refine gx_nE e (fun t28 ht28 e => ?_)
  refine gy_iinc (v := t28) (ls2 := [(7, .int (gI t28)), (0, .ref v0), (1, .int (gI v1)), (3, .int (gI v3)), (4, .int (gI v4)), (5, .ref v5), (6, .int (gI v6))]) dX0_addItems_92 6 rfl ht28 (Nat.le_of_ble_eq_true rfl) rfl ?_
  refine gx_goto (tgt := 50) dX0_addItems_95 (by decide) ?_
  refine gx_sub (ls2 := [(0, .ref v0), (1, .int (gI v1)), (3, .int (gI v3)), (4, .int (gI v4)), (5, .ref v5), (6, .int (gI v6)), (7, .int (gI t28))]) [1, 2, 3, 4, 5, 6, 0] rfl ?_
  exact hr50 _ _ _ _ _ _ _ _ e
set_option maxRecDepth 100000 in
def b_X0_addItems_50 (n : Nat) (r50 : Nat → Int → Int → Int → Nat → Int → Int → gi_H → Option (Int × gi_H)) (v0 : Nat) (v1 : Int) (v3 : Int) (v4 : Int) (v5 : Nat) (v6 : Int) (v7 : Int)  (h : gi_H) : Option (Int × gi_H) :=
  Option.bind (gi_is h v5 3) fun _ => Option.bind (f_X4_count v5 h) fun q15 => Option.bind (gi_rg v7) fun _ => Option.bind (gi_rg q15) fun _ => if q15 ≤ v7 then (Option.bind (gi_zo v6) fun _ => some (v6, h)) else (Option.bind (gi_is h v5 3) fun _ => Option.bind (f_X4_owner v5 v7 h) fun q21 => Option.bind (gi_rg q21) fun _ => Option.bind (gi_rg v4) fun _ => if q21 = v4 then (Option.bind (gi_is h v0 0) fun _ => Option.bind (f_X0_widen v0 v1 (v7 * (6 : Int)) (gi_or (512 : Int) v3) h) fun q26 => gx_nm (gi_or v6 q26.1) fun t27 => b_X0_addItems_92 n r50 v0 v1 v3 v4 v5 t27 v7 q26.2) else (b_X0_addItems_92 n r50 v0 v1 v3 v4 v5 v6 v7 h))
set_option maxRecDepth 100000 in
theorem zb_X0_addItems_50 {al : Bool} {n : Nat} {r50 : Nat → Int → Int → Int → Nat → Int → Int → gi_H → Option (Int × gi_H)} {res : Int} {h1 : gi_H} (hr50 : ∀ (x0 : Nat) (x1 : Int) (x3 : Int) (x4 : Int) (x5 : Nat) (x6 : Int) (x7 : Int) (hh : gi_H), r50 x0 x1 x3 x4 x5 x6 x7 hh = some (res, h1) → gx_Z mX0_addItems al al 0 0 50 [(0, .ref x0), (1, .int (gI x1)), (3, .int (gI x3)), (4, .int (gI x4)), (5, .ref x5), (6, .int (gI x6)), (7, .int (gI x7))] [] (gi_cv hh) (.inl (some (.int (gI res)))) (gi_cv h1)) {v0 : Nat} {v1 : Int} {v3 : Int} {v4 : Int} {v5 : Nat} {v6 : Int} {v7 : Int}  {h : gi_H} (e : b_X0_addItems_50 n r50 v0 v1 v3 v4 v5 v6 v7 h = some (res, h1)) : gx_Z mX0_addItems al al 0 0 50 [(0, .ref v0), (1, .int (gI v1)), (3, .int (gI v3)), (4, .int (gI v4)), (5, .ref v5), (6, .int (gI v6)), (7, .int (gI v7))] [] (gi_cv h) (.inl (some (.int (gI res)))) (gi_cv h1) := by
  refine gx_iload dX0_addItems_50 6 rfl ?_
  refine gx_aload dX0_addItems_52 4 rfl ?_
  refine gx_bE e (fun _ hu14 e => ?_)
  refine gx_bE e (fun q15 hq15 e => ?_)
  refine gx_callV (n := 0) (st := [.int (gI v7)]) (As := []) (b := v5) dX0_addItems_54 (z_X4_count hq15) rfl ⟨rfl, gw_cw_X4_count, gw_3, gp_X4_count, ⟨Nat.le_of_ble_eq_true rfl, Nat.le_of_ble_eq_true rfl⟩⟩ (gi_isS hu14) (by decide) gw_559 gw_393 gw_394 rfl ⟨Nat.le_of_ble_eq_true rfl, Nat.le_of_ble_eq_true rfl⟩ (Nat.le_of_ble_eq_true rfl) (gy_k1 (x := .int (gI q15)) (kc2 := 0) (ks2 := 0) ⟨rfl, rfl⟩ ?_) gy_kn
  refine gx_bE e (fun _ g16 e => ?_)
  refine gx_bE e (fun _ g17 e => ?_)
  refine gx_iE e (fun c18 e => ?_) (fun c18 e => ?_)
  · refine gy_icmp_ge (tgt := 98) (gi_rgS g16) (gi_rgS g17) dX0_addItems_57 (by decide) (fun _ => ?_) (fun z => absurd c18 z)
    refine gx_iload dX0_addItems_98 5 rfl ?_
    refine gx_bE e (fun _ hu19 e => ?_)
    cases e
    exact gx_zret (gi_zoS hu19) dX0_addItems_100 rfl ⟨Nat.le_of_ble_eq_true rfl, Nat.le_of_ble_eq_true rfl⟩ (fun z => z)
  · refine gy_icmp_ge (tgt := 98) (gi_rgS g16) (gi_rgS g17) dX0_addItems_57 (by decide) (fun z => absurd z c18) (fun _ => ?_)
    refine gx_aload dX0_addItems_60 4 rfl ?_
    refine gx_iload dX0_addItems_62 6 rfl ?_
    refine gx_bE e (fun _ hu20 e => ?_)
    refine gx_bE e (fun q21 hq21 e => ?_)
    refine gx_callV (n := 1) (st := []) (As := [.int (gI v7)]) (b := v5) dX0_addItems_64 (z_X4_owner hq21) rfl ⟨rfl, gw_cw_X4_owner, gw_3, gp_X4_owner, ⟨Nat.le_of_ble_eq_true rfl, Nat.le_of_ble_eq_true rfl⟩⟩ (gi_isS hu20) (by decide) gw_560 gw_416 gw_417 rfl ⟨Nat.le_of_ble_eq_true rfl, Nat.le_of_ble_eq_true rfl⟩ (Nat.le_of_ble_eq_true rfl) (gy_k1 (x := .int (gI q21)) (kc2 := 0) (ks2 := 0) ⟨rfl, rfl⟩ ?_) gy_kn
    refine gx_iload dX0_addItems_67 3 rfl ?_
    refine gx_bE e (fun _ g22 e => ?_)
    refine gx_bE e (fun _ g23 e => ?_)
    refine gx_iE e (fun c24 e => ?_) (fun c24 e => ?_)
    · refine gy_icmp_ne (tgt := 92) (gi_rgS g22) (gi_rgS g23) dX0_addItems_69 (by decide) (fun z => absurd c24 z) (fun _ => ?_)
      refine gx_iload dX0_addItems_72 5 rfl ?_
      refine gx_aload_n dX0_addItems_74 rfl 0 rfl ?_
      refine gx_iload_n dX0_addItems_75 rfl 1 rfl ?_
      refine gx_iload dX0_addItems_76 6 rfl ?_
      refine gy_bipush dX0_addItems_78 gcb_6 ?_
      refine gy_imul dX0_addItems_80 ?_
      refine gy_sipush dX0_addItems_81 gcs_512 ?_
      refine gx_iload_n dX0_addItems_84 rfl 2 rfl ?_
      refine gy_ior dX0_addItems_85 ?_
      refine gx_bE e (fun _ hu25 e => ?_)
      refine gx_bE e (fun q26 hq26 e => ?_)
      refine gx_callV (n := 3) (st := [.int (gI v6)]) (As := [.int (gI v1), .int (gI (v7 * (6 : Int))), .int (gI (gi_or (512 : Int) v3))]) (b := v0) dX0_addItems_86 (z_X0_widen hq26) rfl ⟨rfl, gw_cw_X0_widen, gw_7, gp_X0_widen, ⟨Nat.le_of_ble_eq_true rfl, Nat.le_of_ble_eq_true rfl⟩⟩ (gi_isS hu25) (by decide) gw_561 gw_563 gs_23 rfl ⟨Nat.le_of_ble_eq_true rfl, Nat.le_of_ble_eq_true rfl⟩ (Nat.le_of_ble_eq_true rfl) (gy_k1 (x := .int (gI q26.1)) (kc2 := 0) (ks2 := 0) ⟨rfl, rfl⟩ ?_) gy_kn
      refine gy_ior dX0_addItems_89 ?_
      refine gx_nE e (fun t27 ht27 e => ?_)
      rw [ht27]
      refine gx_istore (ls2 := [(6, .int (gI t27)), (0, .ref v0), (1, .int (gI v1)), (3, .int (gI v3)), (4, .int (gI v4)), (5, .ref v5), (7, .int (gI v7))]) dX0_addItems_90 (Nat.le_of_ble_eq_true rfl) rfl ?_
      refine gx_sub (ls2 := [(0, .ref v0), (1, .int (gI v1)), (3, .int (gI v3)), (4, .int (gI v4)), (5, .ref v5), (6, .int (gI t27)), (7, .int (gI v7))]) [1, 2, 3, 4, 5, 0, 6] rfl ?_
      exact zb_X0_addItems_92 hr50 e
    · refine gy_icmp_ne (tgt := 92) (gi_rgS g22) (gi_rgS g23) dX0_addItems_69 (by decide) (fun _ => ?_) (fun z => absurd z c24)
      exact zb_X0_addItems_92 hr50 e
def l_X0_addItems_50 (n : Nat)  : Nat → Nat → Int → Int → Int → Nat → Int → Int → gi_H → Option (Int × gi_H)
  | 0, _, _, _, _, _, _, _, _ => none
  | k + 1, v0, v1, v3, v4, v5, v6, v7, h => b_X0_addItems_50 n  (l_X0_addItems_50 n  k) v0 v1 v3 v4 v5 v6 v7 h
theorem zl_X0_addItems_50 {al : Bool} {n : Nat}  {res : Int} {h1 : gi_H}  : ∀ (k : Nat) (v0 : Nat) (v1 : Int) (v3 : Int) (v4 : Int) (v5 : Nat) (v6 : Int) (v7 : Int) (h : gi_H), l_X0_addItems_50 n  k v0 v1 v3 v4 v5 v6 v7 h = some (res, h1) → gx_Z mX0_addItems al al 0 0 50 [(0, .ref v0), (1, .int (gI v1)), (3, .int (gI v3)), (4, .int (gI v4)), (5, .ref v5), (6, .int (gI v6)), (7, .int (gI v7))] [] (gi_cv h) (.inl (some (.int (gI res)))) (gi_cv h1)
  | 0, _, _, _, _, _, _, _, _, e => gx_0E e
  | k + 1, _, _, _, _, _, _, _, _, e => zb_X0_addItems_50 (n := n)  (zl_X0_addItems_50  k) e
set_option maxRecDepth 100000 in
def f_X0_addItems (n : Nat) (v0 : Nat) (v1 : Int) (v2 : Int) (h : gi_H) : Option (Int × gi_H) :=
  Option.bind (gi_gR h v0 0 0) fun t1 => Option.bind (gi_is h t1 2) fun _ => Option.bind (f_X3_rest t1 v2 h) fun q3 => Option.bind (gi_is h v0 0) fun _ => Option.bind (f_X0_row v0 v1 v2 h) fun q5 => Option.bind (f_X11_behindOf q3 (gi_and q5 (511 : Int)) h) fun q6 => Option.bind (gi_gR h v0 0 0) fun t7 => Option.bind (gi_is h t7 2) fun _ => Option.bind (f_X3_front t7 v2 h) fun q9 => gx_nm (q9 - (16 : Int)) fun t10 => Option.bind (gi_gR h v0 0 0) fun t11 => Option.bind (gi_is h t11 2) fun _ => Option.bind (f_X3_grammar t11 h) fun q13 => l_X0_addItems_50 n  n v0 v1 q6 t10 q13 (0 : Int) (0 : Int) h
set_option maxRecDepth 100000 in
theorem z_X0_addItems {al : Bool} {n : Nat} {v0 : Nat} {v1 : Int} {v2 : Int} {h : gi_H} {res : Int} {h1 : gi_H} (e : f_X0_addItems n v0 v1 v2 h = some (res, h1)) : gx_Cw mX0_addItems al [.ref v0, .int (gI v1), .int (gI v2)] (gi_cv h) (.inl (some (.int (gI res)))) (gi_cv h1) := by
  refine gx_enter (by decide +kernel) rfl (Nat.le_of_ble_eq_true rfl) ?_
  show gx_Z mX0_addItems al al 0 0 0 [(0, .ref v0), (1, .int (gI v1)), (2, .int (gI v2))] [] (gi_cv h) (.inl (some (.int (gI res)))) (gi_cv h1)
  refine gx_aload_n dX0_addItems_0 rfl 0 rfl ?_
  refine gx_bE e (fun t1 ht1 e => ?_)
  refine gy_fR ht1 dX0_addItems_1 gf_RX0_28_0_0 (by decide) gkN_0_0 gkR_0_0 ?_
  refine gx_iload_n dX0_addItems_4 rfl 2 rfl ?_
  refine gx_bE e (fun _ hu2 e => ?_)
  refine gx_bE e (fun q3 hq3 e => ?_)
  refine gx_callV (n := 1) (st := []) (As := [.int (gI v2)]) (b := t1) dX0_addItems_5 (z_X3_rest hq3) rfl ⟨rfl, gw_cw_X3_rest, gw_6, gp_X3_rest, ⟨Nat.le_of_ble_eq_true rfl, Nat.le_of_ble_eq_true rfl⟩⟩ (gi_isS hu2) (by decide) gw_550 gw_551 gw_552 rfl ⟨Nat.le_of_ble_eq_true rfl, Nat.le_of_ble_eq_true rfl⟩ (Nat.le_of_ble_eq_true rfl) (gy_k1 (x := .int (gI q3)) (kc2 := 0) (ks2 := 0) ⟨rfl, rfl⟩ ?_) gy_kn
  refine gx_aload_n dX0_addItems_8 rfl 0 rfl ?_
  refine gx_iload_n dX0_addItems_9 rfl 1 rfl ?_
  refine gx_iload_n dX0_addItems_10 rfl 2 rfl ?_
  refine gx_bE e (fun _ hu4 e => ?_)
  refine gx_bE e (fun q5 hq5 e => ?_)
  refine gx_callV (n := 2) (st := [.int (gI q3)]) (As := [.int (gI v1), .int (gI v2)]) (b := v0) dX0_addItems_11 (z_X0_row hq5) rfl ⟨rfl, gw_cw_X0_row, gw_7, gp_X0_row, ⟨Nat.le_of_ble_eq_true rfl, Nat.le_of_ble_eq_true rfl⟩⟩ (gi_isS hu4) (by decide) gw_537 gw_538 gw_539 rfl ⟨Nat.le_of_ble_eq_true rfl, Nat.le_of_ble_eq_true rfl⟩ (Nat.le_of_ble_eq_true rfl) (gy_k1 (x := .int (gI q5)) (kc2 := 0) (ks2 := 0) ⟨rfl, rfl⟩ ?_) gy_kn
  refine gy_sipush dX0_addItems_14 gcs_511 ?_
  refine gy_iand dX0_addItems_17 ?_
  refine gx_bE e (fun q6 hq6 e => ?_)
  refine gx_callSN (n := 2) (st := []) (As := [.int (gI q3), .int (gI (gi_and q5 (511 : Int)))]) dX0_addItems_18 (z_X11_behindOf hq6) rfl ⟨rfl, gw_cw_X11_behindOf, gw_1, gp_X11_behindOf, ⟨Nat.le_of_ble_eq_true rfl, Nat.le_of_ble_eq_true rfl⟩⟩ (host := "Grammarsmith") (by decide +kernel) gw_458 ⟨Nat.le_of_ble_eq_true rfl, Nat.le_of_ble_eq_true rfl⟩ (Nat.le_of_ble_eq_true rfl) (gy_k1 (x := .int (gI q6)) (kc2 := 0) (ks2 := 0) ⟨rfl, rfl⟩ ?_) gy_kn
  refine gx_istore_n (ls2 := [(3, .int (gI q6)), (0, .ref v0), (1, .int (gI v1)), (2, .int (gI v2))]) dX0_addItems_21 rfl (Nat.le_of_ble_eq_true rfl) rfl ?_
  refine gx_aload_n dX0_addItems_22 rfl 1 rfl ?_
  refine gx_bE e (fun t7 ht7 e => ?_)
  refine gy_fR ht7 dX0_addItems_23 gf_RX0_28_0_0 (by decide) gkN_0_0 gkR_0_0 ?_
  refine gx_iload_n dX0_addItems_26 rfl 3 rfl ?_
  refine gx_bE e (fun _ hu8 e => ?_)
  refine gx_bE e (fun q9 hq9 e => ?_)
  refine gx_callV (n := 1) (st := []) (As := [.int (gI v2)]) (b := t7) dX0_addItems_27 (z_X3_front hq9) rfl ⟨rfl, gw_cw_X3_front, gw_6, gp_X3_front, ⟨Nat.le_of_ble_eq_true rfl, Nat.le_of_ble_eq_true rfl⟩⟩ (gi_isS hu8) (by decide) gw_541 gw_542 gw_543 rfl ⟨Nat.le_of_ble_eq_true rfl, Nat.le_of_ble_eq_true rfl⟩ (Nat.le_of_ble_eq_true rfl) (gy_k1 (x := .int (gI q9)) (kc2 := 0) (ks2 := 0) ⟨rfl, rfl⟩ ?_) gy_kn
  refine gy_bipush dX0_addItems_30 gcb_16 ?_
  refine gy_isub dX0_addItems_32 ?_
  refine gx_nE e (fun t10 ht10 e => ?_)
  rw [ht10]
  refine gx_istore (ls2 := [(4, .int (gI t10)), (3, .int (gI q6)), (0, .ref v0), (1, .int (gI v1)), (2, .int (gI v2))]) dX0_addItems_33 (Nat.le_of_ble_eq_true rfl) rfl ?_
  refine gx_aload_n dX0_addItems_35 rfl 2 rfl ?_
  refine gx_bE e (fun t11 ht11 e => ?_)
  refine gy_fR ht11 dX0_addItems_36 gf_RX0_28_0_0 (by decide) gkN_0_0 gkR_0_0 ?_
  refine gx_bE e (fun _ hu12 e => ?_)
  refine gx_bE e (fun q13 hq13 e => ?_)
  refine gx_callV (n := 0) (st := []) (As := []) (b := t11) dX0_addItems_39 (z_X3_grammar hq13) rfl ⟨rfl, gw_cw_X3_grammar, gw_6, gp_X3_grammar, ⟨Nat.le_of_ble_eq_true rfl, Nat.le_of_ble_eq_true rfl⟩⟩ (gi_isS hu12) (by decide) gw_555 gw_556 gw_557 rfl ⟨Nat.le_of_ble_eq_true rfl, Nat.le_of_ble_eq_true rfl⟩ (Nat.le_of_ble_eq_true rfl) (gy_k1 (x := .ref q13) (kc2 := 0) (ks2 := 0) ⟨rfl, rfl⟩ ?_) gy_kn
  refine gx_astore (ls2 := [(5, .ref q13), (4, .int (gI t10)), (3, .int (gI q6)), (0, .ref v0), (1, .int (gI v1)), (2, .int (gI v2))]) dX0_addItems_42 (Nat.le_of_ble_eq_true rfl) rfl ?_
  refine gy_iconst dX0_addItems_44 ?_
  refine gx_istore (ls2 := [(6, .int (gI (0 : Int))), (5, .ref q13), (4, .int (gI t10)), (3, .int (gI q6)), (0, .ref v0), (1, .int (gI v1)), (2, .int (gI v2))]) dX0_addItems_45 (Nat.le_of_ble_eq_true rfl) rfl ?_
  refine gy_iconst dX0_addItems_47 ?_
  refine gx_istore (ls2 := [(7, .int (gI (0 : Int))), (6, .int (gI (0 : Int))), (5, .ref q13), (4, .int (gI t10)), (3, .int (gI q6)), (0, .ref v0), (1, .int (gI v1)), (2, .int (gI v2))]) dX0_addItems_48 (Nat.le_of_ble_eq_true rfl) rfl ?_
  refine gx_sub (ls2 := [(0, .ref v0), (1, .int (gI v1)), (3, .int (gI q6)), (4, .int (gI t10)), (5, .ref q13), (6, .int (gI (0 : Int))), (7, .int (gI (0 : Int)))]) [5, 6, 4, 3, 2, 1, 0] rfl ?_
  exact zl_X0_addItems_50  n _ _ _ _ _ _ _ _ e
/-! X0_complete  -/
set_option maxRecDepth 100000 in
def b_X0_complete_68 (n : Nat) (r4 : Nat → Int → Int → Int → gi_H → Option (gi_H)) (v0 : Nat) (v1 : Int) (v2 : Int) (v3 : Int)  (h : gi_H) : Option (gi_H) :=
  gx_nm (v3 + (1 : Int)) fun t7 => r4 v0 v1 v2 t7 h
set_option maxRecDepth 100000 in
theorem zb_X0_complete_68 {al : Bool} {n : Nat} {r4 : Nat → Int → Int → Int → gi_H → Option (gi_H)} {h1 : gi_H} (hr4 : ∀ (x0 : Nat) (x1 : Int) (x2 : Int) (x3 : Int) (hh : gi_H), r4 x0 x1 x2 x3 hh = some h1 → gx_Z mX0_complete al al 0 0 4 [(0, .ref x0), (1, .int (gI x1)), (2, .int (gI x2)), (3, .int (gI x3))] [] (gi_cv hh) (.inl none) (gi_cv h1)) {v0 : Nat} {v1 : Int} {v2 : Int} {v3 : Int}  {h : gi_H} (e : b_X0_complete_68 n r4 v0 v1 v2 v3 h = some h1) : gx_Z mX0_complete al al 0 0 68 [(0, .ref v0), (1, .int (gI v1)), (2, .int (gI v2)), (3, .int (gI v3))] [] (gi_cv h) (.inl none) (gi_cv h1) := by
  refine gx_nE e (fun t7 ht7 e => ?_)
  refine gy_iinc (v := t7) (ls2 := [(3, .int (gI t7)), (0, .ref v0), (1, .int (gI v1)), (2, .int (gI v2))]) dX0_complete_68 3 rfl ht7 (Nat.le_of_ble_eq_true rfl) rfl ?_
  refine gx_goto (tgt := 4) dX0_complete_71 (by decide) ?_
  refine gx_sub (ls2 := [(0, .ref v0), (1, .int (gI v1)), (2, .int (gI v2)), (3, .int (gI t7))]) [1, 2, 3, 0] rfl ?_
  exact hr4 _ _ _ _ _ e
set_option maxRecDepth 100000 in
def b_X0_complete_62 (n : Nat) (r4 : Nat → Int → Int → Int → gi_H → Option (gi_H)) (r19 : Nat → Int → Int → Int → Int → gi_H → Option (gi_H)) (v0 : Nat) (v1 : Int) (v2 : Int) (v3 : Int) (v4 : Int)  (h : gi_H) : Option (gi_H) :=
  gx_nm (v4 + (1 : Int)) fun t12 => r19 v0 v1 v2 v3 t12 h
set_option maxRecDepth 100000 in
theorem zb_X0_complete_62 {al : Bool} {n : Nat} {r4 : Nat → Int → Int → Int → gi_H → Option (gi_H)} {r19 : Nat → Int → Int → Int → Int → gi_H → Option (gi_H)} {h1 : gi_H} (hr4 : ∀ (x0 : Nat) (x1 : Int) (x2 : Int) (x3 : Int) (hh : gi_H), r4 x0 x1 x2 x3 hh = some h1 → gx_Z mX0_complete al al 0 0 4 [(0, .ref x0), (1, .int (gI x1)), (2, .int (gI x2)), (3, .int (gI x3))] [] (gi_cv hh) (.inl none) (gi_cv h1)) (hr19 : ∀ (x0 : Nat) (x1 : Int) (x2 : Int) (x3 : Int) (x4 : Int) (hh : gi_H), r19 x0 x1 x2 x3 x4 hh = some h1 → gx_Z mX0_complete al al 0 0 19 [(0, .ref x0), (1, .int (gI x1)), (2, .int (gI x2)), (3, .int (gI x3)), (4, .int (gI x4))] [] (gi_cv hh) (.inl none) (gi_cv h1)) {v0 : Nat} {v1 : Int} {v2 : Int} {v3 : Int} {v4 : Int}  {h : gi_H} (e : b_X0_complete_62 n r4 r19 v0 v1 v2 v3 v4 h = some h1) : gx_Z mX0_complete al al 0 0 62 [(0, .ref v0), (1, .int (gI v1)), (2, .int (gI v2)), (3, .int (gI v3)), (4, .int (gI v4))] [] (gi_cv h) (.inl none) (gi_cv h1) := by
  refine gx_nE e (fun t12 ht12 e => ?_)
  refine gy_iinc (v := t12) (ls2 := [(4, .int (gI t12)), (0, .ref v0), (1, .int (gI v1)), (2, .int (gI v2)), (3, .int (gI v3))]) dX0_complete_62 4 rfl ht12 (Nat.le_of_ble_eq_true rfl) rfl ?_
  refine gx_goto (tgt := 19) dX0_complete_65 (by decide) ?_
  refine gx_sub (ls2 := [(0, .ref v0), (1, .int (gI v1)), (2, .int (gI v2)), (3, .int (gI v3)), (4, .int (gI t12))]) [1, 2, 3, 4, 0] rfl ?_
  exact hr19 _ _ _ _ _ _ e
set_option maxRecDepth 100000 in
def b_X0_complete_19 (n : Nat) (r4 : Nat → Int → Int → Int → gi_H → Option (gi_H)) (r19 : Nat → Int → Int → Int → Int → gi_H → Option (gi_H)) (v0 : Nat) (v1 : Int) (v2 : Int) (v3 : Int) (v4 : Int)  (h : gi_H) : Option (gi_H) :=
  Option.bind (gi_rg v4) fun _ => if (150 : Int) ≤ v4 then (b_X0_complete_68 n r4 v0 v1 v2 v3 h) else (Option.bind (gi_is h v0 0) fun _ => Option.bind (f_X0_row v0 v1 v4 h) fun q9 => Option.bind (gi_rg q9) fun _ => if q9 = 0 then (b_X0_complete_62 n r4 r19 v0 v1 v2 v3 v4 h) else (Option.bind (gi_gR h v0 0 0) fun t13 => Option.bind (gi_is h t13 2) fun _ => Option.bind (f_X3_front t13 v4 h) fun q15 => Option.bind (f_X11_isNonterminal q15 h) fun q16 => Option.bind (gi_rg q16) fun _ => if q16 = 0 then (b_X0_complete_62 n r4 r19 v0 v1 v2 v3 v4 h) else (Option.bind (gi_is h v0 0) fun _ => Option.bind (f_X0_addItems n v0 v1 v4 h) fun q20 => gx_nm (gi_or v2 q20.1) fun t21 => b_X0_complete_62 n r4 r19 v0 v1 t21 v3 v4 q20.2)))
set_option maxRecDepth 100000 in
theorem zb_X0_complete_19 {al : Bool} {n : Nat} {r4 : Nat → Int → Int → Int → gi_H → Option (gi_H)} {r19 : Nat → Int → Int → Int → Int → gi_H → Option (gi_H)} {h1 : gi_H} (hr4 : ∀ (x0 : Nat) (x1 : Int) (x2 : Int) (x3 : Int) (hh : gi_H), r4 x0 x1 x2 x3 hh = some h1 → gx_Z mX0_complete al al 0 0 4 [(0, .ref x0), (1, .int (gI x1)), (2, .int (gI x2)), (3, .int (gI x3))] [] (gi_cv hh) (.inl none) (gi_cv h1)) (hr19 : ∀ (x0 : Nat) (x1 : Int) (x2 : Int) (x3 : Int) (x4 : Int) (hh : gi_H), r19 x0 x1 x2 x3 x4 hh = some h1 → gx_Z mX0_complete al al 0 0 19 [(0, .ref x0), (1, .int (gI x1)), (2, .int (gI x2)), (3, .int (gI x3)), (4, .int (gI x4))] [] (gi_cv hh) (.inl none) (gi_cv h1)) {v0 : Nat} {v1 : Int} {v2 : Int} {v3 : Int} {v4 : Int}  {h : gi_H} (e : b_X0_complete_19 n r4 r19 v0 v1 v2 v3 v4 h = some h1) : gx_Z mX0_complete al al 0 0 19 [(0, .ref v0), (1, .int (gI v1)), (2, .int (gI v2)), (3, .int (gI v3)), (4, .int (gI v4))] [] (gi_cv h) (.inl none) (gi_cv h1) := by
  refine gx_iload dX0_complete_19 4 rfl ?_
  refine gy_sipush dX0_complete_21 gcs_150 ?_
  refine gx_bE e (fun _ g5 e => ?_)
  refine gx_iE e (fun c6 e => ?_) (fun c6 e => ?_)
  · refine gy_icmp_ge (tgt := 68) (gi_rgS g5) (by decide) dX0_complete_24 (by decide) (fun _ => ?_) (fun z => absurd c6 z)
    refine gx_sub (ls2 := [(0, .ref v0), (1, .int (gI v1)), (2, .int (gI v2)), (3, .int (gI v3))]) [0, 1, 2, 3] rfl ?_
    exact zb_X0_complete_68 hr4 e
  · refine gy_icmp_ge (tgt := 68) (gi_rgS g5) (by decide) dX0_complete_24 (by decide) (fun z => absurd z c6) (fun _ => ?_)
    refine gx_aload_n dX0_complete_27 rfl 0 rfl ?_
    refine gx_iload_n dX0_complete_28 rfl 1 rfl ?_
    refine gx_iload dX0_complete_29 4 rfl ?_
    refine gx_bE e (fun _ hu8 e => ?_)
    refine gx_bE e (fun q9 hq9 e => ?_)
    refine gx_callV (n := 2) (st := []) (As := [.int (gI v1), .int (gI v4)]) (b := v0) dX0_complete_31 (z_X0_row hq9) rfl ⟨rfl, gw_cw_X0_row, gw_7, gp_X0_row, ⟨Nat.le_of_ble_eq_true rfl, Nat.le_of_ble_eq_true rfl⟩⟩ (gi_isS hu8) (by decide) gw_537 gw_538 gw_539 rfl ⟨Nat.le_of_ble_eq_true rfl, Nat.le_of_ble_eq_true rfl⟩ (Nat.le_of_ble_eq_true rfl) (gy_k1 (x := .int (gI q9)) (kc2 := 0) (ks2 := 0) ⟨rfl, rfl⟩ ?_) gy_kn
    refine gx_bE e (fun _ g10 e => ?_)
    refine gx_iE e (fun c11 e => ?_) (fun c11 e => ?_)
    · refine gy_if_eq (tgt := 62) (gi_rgS g10) dX0_complete_34 (by decide) (fun _ => ?_) (fun z => absurd c11 z)
      exact zb_X0_complete_62 hr4 hr19 e
    · refine gy_if_eq (tgt := 62) (gi_rgS g10) dX0_complete_34 (by decide) (fun z => absurd z c11) (fun _ => ?_)
      refine gx_aload_n dX0_complete_37 rfl 0 rfl ?_
      refine gx_bE e (fun t13 ht13 e => ?_)
      refine gy_fR ht13 dX0_complete_38 gf_RX0_28_0_0 (by decide) gkN_0_0 gkR_0_0 ?_
      refine gx_iload dX0_complete_41 4 rfl ?_
      refine gx_bE e (fun _ hu14 e => ?_)
      refine gx_bE e (fun q15 hq15 e => ?_)
      refine gx_callV (n := 1) (st := []) (As := [.int (gI v4)]) (b := t13) dX0_complete_43 (z_X3_front hq15) rfl ⟨rfl, gw_cw_X3_front, gw_6, gp_X3_front, ⟨Nat.le_of_ble_eq_true rfl, Nat.le_of_ble_eq_true rfl⟩⟩ (gi_isS hu14) (by decide) gw_541 gw_542 gw_543 rfl ⟨Nat.le_of_ble_eq_true rfl, Nat.le_of_ble_eq_true rfl⟩ (Nat.le_of_ble_eq_true rfl) (gy_k1 (x := .int (gI q15)) (kc2 := 0) (ks2 := 0) ⟨rfl, rfl⟩ ?_) gy_kn
      refine gx_bE e (fun q16 hq16 e => ?_)
      refine gx_callSN (n := 1) (st := []) (As := [.int (gI q15)]) dX0_complete_46 (z_X11_isNonterminal hq16) rfl ⟨rfl, gw_cw_X11_isNonterminal, gw_1, gp_X11_isNonterminal, ⟨Nat.le_of_ble_eq_true rfl, Nat.le_of_ble_eq_true rfl⟩⟩ (host := "Grammarsmith") (by decide +kernel) gw_451 ⟨Nat.le_of_ble_eq_true rfl, Nat.le_of_ble_eq_true rfl⟩ (Nat.le_of_ble_eq_true rfl) (gy_k1 (x := .int (gI q16)) (kc2 := 0) (ks2 := 0) ⟨rfl, rfl⟩ ?_) gy_kn
      refine gx_bE e (fun _ g17 e => ?_)
      refine gx_iE e (fun c18 e => ?_) (fun c18 e => ?_)
      · refine gy_if_eq (tgt := 62) (gi_rgS g17) dX0_complete_49 (by decide) (fun _ => ?_) (fun z => absurd c18 z)
        exact zb_X0_complete_62 hr4 hr19 e
      · refine gy_if_eq (tgt := 62) (gi_rgS g17) dX0_complete_49 (by decide) (fun z => absurd z c18) (fun _ => ?_)
        refine gx_iload_n dX0_complete_52 rfl 2 rfl ?_
        refine gx_aload_n dX0_complete_53 rfl 0 rfl ?_
        refine gx_iload_n dX0_complete_54 rfl 1 rfl ?_
        refine gx_iload dX0_complete_55 4 rfl ?_
        refine gx_bE e (fun _ hu19 e => ?_)
        refine gx_bE e (fun q20 hq20 e => ?_)
        refine gx_callV (n := 2) (st := [.int (gI v2)]) (As := [.int (gI v1), .int (gI v4)]) (b := v0) dX0_complete_57 (z_X0_addItems hq20) rfl ⟨rfl, gw_cw_X0_addItems, gw_7, gp_X0_addItems, ⟨Nat.le_of_ble_eq_true rfl, Nat.le_of_ble_eq_true rfl⟩⟩ (gi_isS hu19) (by decide) gw_546 gw_548 gs_22 rfl ⟨Nat.le_of_ble_eq_true rfl, Nat.le_of_ble_eq_true rfl⟩ (Nat.le_of_ble_eq_true rfl) (gy_k1 (x := .int (gI q20.1)) (kc2 := 0) (ks2 := 0) ⟨rfl, rfl⟩ ?_) gy_kn
        refine gy_ior dX0_complete_60 ?_
        refine gx_nE e (fun t21 ht21 e => ?_)
        rw [ht21]
        refine gx_istore_n (ls2 := [(2, .int (gI t21)), (0, .ref v0), (1, .int (gI v1)), (3, .int (gI v3)), (4, .int (gI v4))]) dX0_complete_61 rfl (Nat.le_of_ble_eq_true rfl) rfl ?_
        refine gx_sub (ls2 := [(0, .ref v0), (1, .int (gI v1)), (2, .int (gI t21)), (3, .int (gI v3)), (4, .int (gI v4))]) [1, 2, 0, 3, 4] rfl ?_
        exact zb_X0_complete_62 hr4 hr19 e
def l_X0_complete_19 (n : Nat) (r4 : Nat → Int → Int → Int → gi_H → Option (gi_H)) : Nat → Nat → Int → Int → Int → Int → gi_H → Option (gi_H)
  | 0, _, _, _, _, _, _ => none
  | k + 1, v0, v1, v2, v3, v4, h => b_X0_complete_19 n r4 (l_X0_complete_19 n r4 k) v0 v1 v2 v3 v4 h
theorem zl_X0_complete_19 {al : Bool} {n : Nat} {r4 : Nat → Int → Int → Int → gi_H → Option (gi_H)} {h1 : gi_H} (hr4 : ∀ (x0 : Nat) (x1 : Int) (x2 : Int) (x3 : Int) (hh : gi_H), r4 x0 x1 x2 x3 hh = some h1 → gx_Z mX0_complete al al 0 0 4 [(0, .ref x0), (1, .int (gI x1)), (2, .int (gI x2)), (3, .int (gI x3))] [] (gi_cv hh) (.inl none) (gi_cv h1)) : ∀ (k : Nat) (v0 : Nat) (v1 : Int) (v2 : Int) (v3 : Int) (v4 : Int) (h : gi_H), l_X0_complete_19 n r4 k v0 v1 v2 v3 v4 h = some h1 → gx_Z mX0_complete al al 0 0 19 [(0, .ref v0), (1, .int (gI v1)), (2, .int (gI v2)), (3, .int (gI v3)), (4, .int (gI v4))] [] (gi_cv h) (.inl none) (gi_cv h1)
  | 0, _, _, _, _, _, _, e => gx_0E e
  | k + 1, _, _, _, _, _, _, e => zb_X0_complete_19 (n := n) hr4 (zl_X0_complete_19 hr4 k) e
set_option maxRecDepth 100000 in
def b_X0_complete_4 (n : Nat) (r4 : Nat → Int → Int → Int → gi_H → Option (gi_H)) (v0 : Nat) (v1 : Int) (v2 : Int) (v3 : Int)  (h : gi_H) : Option (gi_H) :=
  Option.bind (gi_rg v3) fun _ => if (1000000 : Int) ≤ v3 then (some h) else (Option.bind (gi_rg v2) fun _ => if v2 = 0 then (some h) else (l_X0_complete_19 n r4 n v0 v1 (0 : Int) v3 (0 : Int) h))
set_option maxRecDepth 100000 in
theorem zb_X0_complete_4 {al : Bool} {n : Nat} {r4 : Nat → Int → Int → Int → gi_H → Option (gi_H)} {h1 : gi_H} (hr4 : ∀ (x0 : Nat) (x1 : Int) (x2 : Int) (x3 : Int) (hh : gi_H), r4 x0 x1 x2 x3 hh = some h1 → gx_Z mX0_complete al al 0 0 4 [(0, .ref x0), (1, .int (gI x1)), (2, .int (gI x2)), (3, .int (gI x3))] [] (gi_cv hh) (.inl none) (gi_cv h1)) {v0 : Nat} {v1 : Int} {v2 : Int} {v3 : Int}  {h : gi_H} (e : b_X0_complete_4 n r4 v0 v1 v2 v3 h = some h1) : gx_Z mX0_complete al al 0 0 4 [(0, .ref v0), (1, .int (gI v1)), (2, .int (gI v2)), (3, .int (gI v3))] [] (gi_cv h) (.inl none) (gi_cv h1) := by
  refine gx_iload_n dX0_complete_4 rfl 3 rfl ?_
  refine gy_ldc (n := 1000000) dX0_complete_5 gw_532 (by decide +kernel) ?_
  refine gx_bE e (fun _ g1 e => ?_)
  refine gx_iE e (fun c2 e => ?_) (fun c2 e => ?_)
  · refine gy_icmp_ge (tgt := 74) (gi_rgS g1) (by decide) dX0_complete_7 (by decide) (fun _ => ?_) (fun z => absurd c2 z)
    cases e
    exact gx_vret dX0_complete_74 rfl ⟨Nat.le_of_ble_eq_true rfl, Nat.le_of_ble_eq_true rfl⟩ (fun z => z)
  · refine gy_icmp_ge (tgt := 74) (gi_rgS g1) (by decide) dX0_complete_7 (by decide) (fun z => absurd z c2) (fun _ => ?_)
    refine gx_iload_n dX0_complete_10 rfl 2 rfl ?_
    refine gx_bE e (fun _ g3 e => ?_)
    refine gx_iE e (fun c4 e => ?_) (fun c4 e => ?_)
    · refine gy_if_eq (tgt := 74) (gi_rgS g3) dX0_complete_11 (by decide) (fun _ => ?_) (fun z => absurd c4 z)
      cases e
      exact gx_vret dX0_complete_74 rfl ⟨Nat.le_of_ble_eq_true rfl, Nat.le_of_ble_eq_true rfl⟩ (fun z => z)
    · refine gy_if_eq (tgt := 74) (gi_rgS g3) dX0_complete_11 (by decide) (fun z => absurd z c4) (fun _ => ?_)
      refine gy_iconst dX0_complete_14 ?_
      refine gx_istore_n (ls2 := [(2, .int (gI (0 : Int))), (0, .ref v0), (1, .int (gI v1)), (3, .int (gI v3))]) dX0_complete_15 rfl (Nat.le_of_ble_eq_true rfl) rfl ?_
      refine gy_iconst dX0_complete_16 ?_
      refine gx_istore (ls2 := [(4, .int (gI (0 : Int))), (2, .int (gI (0 : Int))), (0, .ref v0), (1, .int (gI v1)), (3, .int (gI v3))]) dX0_complete_17 (Nat.le_of_ble_eq_true rfl) rfl ?_
      refine gx_sub (ls2 := [(0, .ref v0), (1, .int (gI v1)), (2, .int (gI (0 : Int))), (3, .int (gI v3)), (4, .int (gI (0 : Int)))]) [2, 3, 1, 4, 0] rfl ?_
      exact zl_X0_complete_19 hr4 n _ _ _ _ _ _ e
def l_X0_complete_4 (n : Nat)  : Nat → Nat → Int → Int → Int → gi_H → Option (gi_H)
  | 0, _, _, _, _, _ => none
  | k + 1, v0, v1, v2, v3, h => b_X0_complete_4 n  (l_X0_complete_4 n  k) v0 v1 v2 v3 h
theorem zl_X0_complete_4 {al : Bool} {n : Nat}  {h1 : gi_H}  : ∀ (k : Nat) (v0 : Nat) (v1 : Int) (v2 : Int) (v3 : Int) (h : gi_H), l_X0_complete_4 n  k v0 v1 v2 v3 h = some h1 → gx_Z mX0_complete al al 0 0 4 [(0, .ref v0), (1, .int (gI v1)), (2, .int (gI v2)), (3, .int (gI v3))] [] (gi_cv h) (.inl none) (gi_cv h1)
  | 0, _, _, _, _, _, e => gx_0E e
  | k + 1, _, _, _, _, _, e => zb_X0_complete_4 (n := n)  (zl_X0_complete_4  k) e
set_option maxRecDepth 100000 in
def f_X0_complete (n : Nat) (v0 : Nat) (v1 : Int) (h : gi_H) : Option (gi_H) :=
  l_X0_complete_4 n  n v0 v1 (1 : Int) (0 : Int) h
set_option maxRecDepth 100000 in
theorem z_X0_complete {al : Bool} {n : Nat} {v0 : Nat} {v1 : Int} {h : gi_H} {h1 : gi_H} (e : f_X0_complete n v0 v1 h = some h1) : gx_Cw mX0_complete al [.ref v0, .int (gI v1)] (gi_cv h) (.inl none) (gi_cv h1) := by
  refine gx_enter (by decide +kernel) rfl (Nat.le_of_ble_eq_true rfl) ?_
  show gx_Z mX0_complete al al 0 0 0 [(0, .ref v0), (1, .int (gI v1))] [] (gi_cv h) (.inl none) (gi_cv h1)
  refine gy_iconst dX0_complete_0 ?_
  refine gx_istore_n (ls2 := [(2, .int (gI (1 : Int))), (0, .ref v0), (1, .int (gI v1))]) dX0_complete_1 rfl (Nat.le_of_ble_eq_true rfl) rfl ?_
  refine gy_iconst dX0_complete_2 ?_
  refine gx_istore_n (ls2 := [(3, .int (gI (0 : Int))), (2, .int (gI (1 : Int))), (0, .ref v0), (1, .int (gI v1))]) dX0_complete_3 rfl (Nat.le_of_ble_eq_true rfl) rfl ?_
  refine gx_sub (ls2 := [(0, .ref v0), (1, .int (gI v1)), (2, .int (gI (1 : Int))), (3, .int (gI (0 : Int)))]) [2, 3, 1, 0] rfl ?_
  exact zl_X0_complete_4  n _ _ _ _ _ e
/-! X0_symbolsInFront  -/
set_option maxRecDepth 100000 in
def b_X0_symbolsInFront_43 (n : Nat) (r4 : Nat → Int → Int → Int → gi_H → Option (Int)) (v0 : Nat) (v1 : Int) (v2 : Int) (v3 : Int)  (h : gi_H) : Option (Int) :=
  gx_nm (v3 + (1 : Int)) fun t10 => r4 v0 v1 v2 t10 h
set_option maxRecDepth 100000 in
theorem zb_X0_symbolsInFront_43 {al : Bool} {n : Nat} {r4 : Nat → Int → Int → Int → gi_H → Option (Int)} {res : Int} (hr4 : ∀ (x0 : Nat) (x1 : Int) (x2 : Int) (x3 : Int) (hh : gi_H), r4 x0 x1 x2 x3 hh = some res → gx_Z mX0_symbolsInFront al al 0 0 4 [(0, .ref x0), (1, .int (gI x1)), (2, .int (gI x2)), (3, .int (gI x3))] [] (gi_cv hh) (.inl (some (.int (gI res)))) (gi_cv hh)) {v0 : Nat} {v1 : Int} {v2 : Int} {v3 : Int}  {h : gi_H} (e : b_X0_symbolsInFront_43 n r4 v0 v1 v2 v3 h = some res) : gx_Z mX0_symbolsInFront al al 0 0 43 [(0, .ref v0), (1, .int (gI v1)), (2, .int (gI v2)), (3, .int (gI v3))] [] (gi_cv h) (.inl (some (.int (gI res)))) (gi_cv h) := by
  refine gx_nE e (fun t10 ht10 e => ?_)
  refine gy_iinc (v := t10) (ls2 := [(3, .int (gI t10)), (0, .ref v0), (1, .int (gI v1)), (2, .int (gI v2))]) dX0_symbolsInFront_43 3 rfl ht10 (Nat.le_of_ble_eq_true rfl) rfl ?_
  refine gx_goto (tgt := 4) dX0_symbolsInFront_46 (by decide) ?_
  refine gx_sub (ls2 := [(0, .ref v0), (1, .int (gI v1)), (2, .int (gI v2)), (3, .int (gI t10))]) [1, 2, 3, 0] rfl ?_
  exact hr4 _ _ _ _ _ e
set_option maxRecDepth 100000 in
def b_X0_symbolsInFront_4 (n : Nat) (r4 : Nat → Int → Int → Int → gi_H → Option (Int)) (v0 : Nat) (v1 : Int) (v2 : Int) (v3 : Int)  (h : gi_H) : Option (Int) :=
  Option.bind (gi_rg v3) fun _ => if (150 : Int) ≤ v3 then (some v2) else (Option.bind (gi_gR h v0 0 0) fun t3 => Option.bind (gi_is h t3 2) fun _ => Option.bind (f_X3_front t3 v3 h) fun q5 => Option.bind (gi_is h v0 0) fun _ => Option.bind (f_X0_row v0 v1 v3 h) fun q7 => Option.bind (gi_rg q7) fun _ => if q7 = 0 then (b_X0_symbolsInFront_43 n r4 v0 v1 v2 v3 h) else (Option.bind (gi_rg q5) fun _ => if q5 = (-1 : Int) then (b_X0_symbolsInFront_43 n r4 v0 v1 v2 v3 h) else (gx_nm (gi_or v2 (gi_shl (1 : Int) q5)) fun t13 => b_X0_symbolsInFront_43 n r4 v0 v1 t13 v3 h)))
set_option maxRecDepth 100000 in
theorem zb_X0_symbolsInFront_4 {al : Bool} {n : Nat} {r4 : Nat → Int → Int → Int → gi_H → Option (Int)} {res : Int} (hr4 : ∀ (x0 : Nat) (x1 : Int) (x2 : Int) (x3 : Int) (hh : gi_H), r4 x0 x1 x2 x3 hh = some res → gx_Z mX0_symbolsInFront al al 0 0 4 [(0, .ref x0), (1, .int (gI x1)), (2, .int (gI x2)), (3, .int (gI x3))] [] (gi_cv hh) (.inl (some (.int (gI res)))) (gi_cv hh)) {v0 : Nat} {v1 : Int} {v2 : Int} {v3 : Int}  {h : gi_H} (e : b_X0_symbolsInFront_4 n r4 v0 v1 v2 v3 h = some res) : gx_Z mX0_symbolsInFront al al 0 0 4 [(0, .ref v0), (1, .int (gI v1)), (2, .int (gI v2)), (3, .int (gI v3))] [] (gi_cv h) (.inl (some (.int (gI res)))) (gi_cv h) := by
  refine gx_iload_n dX0_symbolsInFront_4 rfl 3 rfl ?_
  refine gy_sipush dX0_symbolsInFront_5 gcs_150 ?_
  refine gx_bE e (fun _ g1 e => ?_)
  refine gx_iE e (fun c2 e => ?_) (fun c2 e => ?_)
  · refine gy_icmp_ge (tgt := 49) (gi_rgS g1) (by decide) dX0_symbolsInFront_8 (by decide) (fun _ => ?_) (fun z => absurd c2 z)
    refine gx_iload_n dX0_symbolsInFront_49 rfl 2 rfl ?_
    cases e
    exact gx_iret dX0_symbolsInFront_50 rfl ⟨Nat.le_of_ble_eq_true rfl, Nat.le_of_ble_eq_true rfl⟩ (fun z => z)
  · refine gy_icmp_ge (tgt := 49) (gi_rgS g1) (by decide) dX0_symbolsInFront_8 (by decide) (fun z => absurd z c2) (fun _ => ?_)
    refine gx_aload_n dX0_symbolsInFront_11 rfl 0 rfl ?_
    refine gx_bE e (fun t3 ht3 e => ?_)
    refine gy_fR ht3 dX0_symbolsInFront_12 gf_RX0_28_0_0 (by decide) gkN_0_0 gkR_0_0 ?_
    refine gx_iload_n dX0_symbolsInFront_15 rfl 3 rfl ?_
    refine gx_bE e (fun _ hu4 e => ?_)
    refine gx_bE e (fun q5 hq5 e => ?_)
    refine gx_callV (n := 1) (st := []) (As := [.int (gI v3)]) (b := t3) dX0_symbolsInFront_16 (z_X3_front hq5) rfl ⟨rfl, gw_cw_X3_front, gw_6, gp_X3_front, ⟨Nat.le_of_ble_eq_true rfl, Nat.le_of_ble_eq_true rfl⟩⟩ (gi_isS hu4) (by decide) gw_541 gw_542 gw_543 rfl ⟨Nat.le_of_ble_eq_true rfl, Nat.le_of_ble_eq_true rfl⟩ (Nat.le_of_ble_eq_true rfl) (gy_k1 (x := .int (gI q5)) (kc2 := 0) (ks2 := 0) ⟨rfl, rfl⟩ ?_) gy_kn
    refine gx_istore (ls2 := [(4, .int (gI q5)), (0, .ref v0), (1, .int (gI v1)), (2, .int (gI v2)), (3, .int (gI v3))]) dX0_symbolsInFront_19 (Nat.le_of_ble_eq_true rfl) rfl ?_
    refine gx_aload_n dX0_symbolsInFront_21 rfl 1 rfl ?_
    refine gx_iload_n dX0_symbolsInFront_22 rfl 2 rfl ?_
    refine gx_iload_n dX0_symbolsInFront_23 rfl 4 rfl ?_
    refine gx_bE e (fun _ hu6 e => ?_)
    refine gx_bE e (fun q7 hq7 e => ?_)
    refine gx_callV (n := 2) (st := []) (As := [.int (gI v1), .int (gI v3)]) (b := v0) dX0_symbolsInFront_24 (z_X0_row hq7) rfl ⟨rfl, gw_cw_X0_row, gw_7, gp_X0_row, ⟨Nat.le_of_ble_eq_true rfl, Nat.le_of_ble_eq_true rfl⟩⟩ (gi_isS hu6) (by decide) gw_537 gw_538 gw_539 rfl ⟨Nat.le_of_ble_eq_true rfl, Nat.le_of_ble_eq_true rfl⟩ (Nat.le_of_ble_eq_true rfl) (gy_k1 (x := .int (gI q7)) (kc2 := 0) (ks2 := 0) ⟨rfl, rfl⟩ ?_) gy_kn
    refine gx_bE e (fun _ g8 e => ?_)
    refine gx_iE e (fun c9 e => ?_) (fun c9 e => ?_)
    · refine gy_if_eq (tgt := 43) (gi_rgS g8) dX0_symbolsInFront_27 (by decide) (fun _ => ?_) (fun z => absurd c9 z)
      refine gx_sub (ls2 := [(0, .ref v0), (1, .int (gI v1)), (2, .int (gI v2)), (3, .int (gI v3))]) [1, 2, 3, 4] rfl ?_
      exact zb_X0_symbolsInFront_43 hr4 e
    · refine gy_if_eq (tgt := 43) (gi_rgS g8) dX0_symbolsInFront_27 (by decide) (fun z => absurd z c9) (fun _ => ?_)
      refine gx_iload dX0_symbolsInFront_30 0 rfl ?_
      refine gy_iconst dX0_symbolsInFront_32 ?_
      refine gx_bE e (fun _ g11 e => ?_)
      refine gx_iE e (fun c12 e => ?_) (fun c12 e => ?_)
      · refine gy_icmp_eq (tgt := 43) (gi_rgS g11) (by decide) dX0_symbolsInFront_33 (by decide) (fun _ => ?_) (fun z => absurd c12 z)
        refine gx_sub (ls2 := [(0, .ref v0), (1, .int (gI v1)), (2, .int (gI v2)), (3, .int (gI v3))]) [1, 2, 3, 4] rfl ?_
        exact zb_X0_symbolsInFront_43 hr4 e
      · refine gy_icmp_eq (tgt := 43) (gi_rgS g11) (by decide) dX0_symbolsInFront_33 (by decide) (fun z => absurd z c12) (fun _ => ?_)
        refine gx_iload_n dX0_symbolsInFront_36 rfl 3 rfl ?_
        refine gy_iconst dX0_symbolsInFront_37 ?_
        refine gx_iload dX0_symbolsInFront_38 0 rfl ?_
        refine gy_ishl dX0_symbolsInFront_40 ?_
        refine gy_ior dX0_symbolsInFront_41 ?_
        refine gx_nE e (fun t13 ht13 e => ?_)
        rw [ht13]
        refine gx_istore_n (ls2 := [(2, .int (gI t13)), (4, .int (gI q5)), (0, .ref v0), (1, .int (gI v1)), (3, .int (gI v3))]) dX0_symbolsInFront_42 rfl (Nat.le_of_ble_eq_true rfl) rfl ?_
        refine gx_sub (ls2 := [(0, .ref v0), (1, .int (gI v1)), (2, .int (gI t13)), (3, .int (gI v3))]) [2, 3, 0, 4] rfl ?_
        exact zb_X0_symbolsInFront_43 hr4 e
def l_X0_symbolsInFront_4 (n : Nat)  : Nat → Nat → Int → Int → Int → gi_H → Option (Int)
  | 0, _, _, _, _, _ => none
  | k + 1, v0, v1, v2, v3, h => b_X0_symbolsInFront_4 n  (l_X0_symbolsInFront_4 n  k) v0 v1 v2 v3 h
theorem zl_X0_symbolsInFront_4 {al : Bool} {n : Nat}  {res : Int}  : ∀ (k : Nat) (v0 : Nat) (v1 : Int) (v2 : Int) (v3 : Int) (h : gi_H), l_X0_symbolsInFront_4 n  k v0 v1 v2 v3 h = some res → gx_Z mX0_symbolsInFront al al 0 0 4 [(0, .ref v0), (1, .int (gI v1)), (2, .int (gI v2)), (3, .int (gI v3))] [] (gi_cv h) (.inl (some (.int (gI res)))) (gi_cv h)
  | 0, _, _, _, _, _, e => gx_0E e
  | k + 1, _, _, _, _, _, e => zb_X0_symbolsInFront_4 (n := n)  (zl_X0_symbolsInFront_4  k) e
set_option maxRecDepth 100000 in
def f_X0_symbolsInFront (n : Nat) (v0 : Nat) (v1 : Int) (h : gi_H) : Option (Int) :=
  l_X0_symbolsInFront_4 n  n v0 v1 (0 : Int) (0 : Int) h
set_option maxRecDepth 100000 in
theorem z_X0_symbolsInFront {al : Bool} {n : Nat} {v0 : Nat} {v1 : Int} {h : gi_H} {res : Int} (e : f_X0_symbolsInFront n v0 v1 h = some res) : gx_Cw mX0_symbolsInFront al [.ref v0, .int (gI v1)] (gi_cv h) (.inl (some (.int (gI res)))) (gi_cv h) := by
  refine gx_enter (by decide +kernel) rfl (Nat.le_of_ble_eq_true rfl) ?_
  show gx_Z mX0_symbolsInFront al al 0 0 0 [(0, .ref v0), (1, .int (gI v1))] [] (gi_cv h) (.inl (some (.int (gI res)))) (gi_cv h)
  refine gy_iconst dX0_symbolsInFront_0 ?_
  refine gx_istore_n (ls2 := [(2, .int (gI (0 : Int))), (0, .ref v0), (1, .int (gI v1))]) dX0_symbolsInFront_1 rfl (Nat.le_of_ble_eq_true rfl) rfl ?_
  refine gy_iconst dX0_symbolsInFront_2 ?_
  refine gx_istore_n (ls2 := [(3, .int (gI (0 : Int))), (2, .int (gI (0 : Int))), (0, .ref v0), (1, .int (gI v1))]) dX0_symbolsInFront_3 rfl (Nat.le_of_ble_eq_true rfl) rfl ?_
  refine gx_sub (ls2 := [(0, .ref v0), (1, .int (gI v1)), (2, .int (gI (0 : Int))), (3, .int (gI (0 : Int)))]) [2, 3, 1, 0] rfl ?_
  exact zl_X0_symbolsInFront_4  n _ _ _ _ _ e
/-! X0_beginsFresh  -/
set_option maxRecDepth 100000 in
def b_X0_beginsFresh_106 (n : Nat) (r14 : Nat → Int → Int → gi_H → Option (Int)) (v0 : Nat) (v1 : Int) (v2 : Int)  (h : gi_H) : Option (Int) :=
  gx_nm (v2 + (1 : Int)) fun t9 => r14 v0 v1 t9 h
set_option maxRecDepth 100000 in
theorem zb_X0_beginsFresh_106 {al : Bool} {n : Nat} {r14 : Nat → Int → Int → gi_H → Option (Int)} {res : Int} (hr14 : ∀ (x0 : Nat) (x1 : Int) (x2 : Int) (hh : gi_H), r14 x0 x1 x2 hh = some res → gx_Z mX0_beginsFresh al al 0 0 14 [(0, .ref x0), (1, .int (gI x1)), (2, .int (gI x2))] [] (gi_cv hh) (.inl (some (.int (gI res)))) (gi_cv hh)) {v0 : Nat} {v1 : Int} {v2 : Int}  {h : gi_H} (e : b_X0_beginsFresh_106 n r14 v0 v1 v2 h = some res) : gx_Z mX0_beginsFresh al al 0 0 106 [(0, .ref v0), (1, .int (gI v1)), (2, .int (gI v2))] [] (gi_cv h) (.inl (some (.int (gI res)))) (gi_cv h) := by
  refine gx_nE e (fun t9 ht9 e => ?_)
  refine gy_iinc (v := t9) (ls2 := [(2, .int (gI t9)), (0, .ref v0), (1, .int (gI v1))]) dX0_beginsFresh_106 2 rfl ht9 (Nat.le_of_ble_eq_true rfl) rfl ?_
  refine gx_goto (tgt := 14) dX0_beginsFresh_109 (by decide) ?_
  refine gx_sub (ls2 := [(0, .ref v0), (1, .int (gI v1)), (2, .int (gI t9))]) [1, 2, 0] rfl ?_
  exact hr14 _ _ _ _ e
set_option maxRecDepth 100000 in
def b_X0_beginsFresh_97 (n : Nat) (r14 : Nat → Int → Int → gi_H → Option (Int)) (v0 : Nat) (v1 : Int) (v2 : Int) (s0 : Int) (h : gi_H) : Option (Int) :=
  Option.bind (gi_rg s0) fun _ => if s0 = 0 then (some (0 : Int)) else (b_X0_beginsFresh_106 n r14 v0 v1 v2 h)
set_option maxRecDepth 100000 in
theorem zb_X0_beginsFresh_97 {al : Bool} {n : Nat} {r14 : Nat → Int → Int → gi_H → Option (Int)} {res : Int} (hr14 : ∀ (x0 : Nat) (x1 : Int) (x2 : Int) (hh : gi_H), r14 x0 x1 x2 hh = some res → gx_Z mX0_beginsFresh al al 0 0 14 [(0, .ref x0), (1, .int (gI x1)), (2, .int (gI x2))] [] (gi_cv hh) (.inl (some (.int (gI res)))) (gi_cv hh)) {v0 : Nat} {v1 : Int} {v2 : Int} {s0 : Int} {h : gi_H} (e : b_X0_beginsFresh_97 n r14 v0 v1 v2 s0 h = some res) : gx_Z mX0_beginsFresh al al 0 0 97 [(0, .ref v0), (1, .int (gI v1)), (2, .int (gI v2))] [.int (gI s0)] (gi_cv h) (.inl (some (.int (gI res)))) (gi_cv h) := by
  refine gx_istore (ls2 := [(4, .int (gI s0)), (0, .ref v0), (1, .int (gI v1)), (2, .int (gI v2))]) dX0_beginsFresh_97 (Nat.le_of_ble_eq_true rfl) rfl ?_
  refine gx_iload dX0_beginsFresh_99 0 rfl ?_
  refine gx_bE e (fun _ g20 e => ?_)
  refine gx_iE e (fun c21 e => ?_) (fun c21 e => ?_)
  · refine gy_if_ne (tgt := 106) (gi_rgS g20) dX0_beginsFresh_101 (by decide) (fun z => absurd c21 z) (fun _ => ?_)
    refine gy_iconst dX0_beginsFresh_104 ?_
    cases e
    exact gx_zret (by decide +kernel) dX0_beginsFresh_105 rfl ⟨Nat.le_of_ble_eq_true rfl, Nat.le_of_ble_eq_true rfl⟩ (fun z => z)
  · refine gy_if_ne (tgt := 106) (gi_rgS g20) dX0_beginsFresh_101 (by decide) (fun _ => ?_) (fun z => absurd z c21)
    refine gx_sub (ls2 := [(0, .ref v0), (1, .int (gI v1)), (2, .int (gI v2))]) [1, 2, 3] rfl ?_
    exact zb_X0_beginsFresh_106 hr14 e
set_option maxRecDepth 100000 in
def b_X0_beginsFresh_71 (n : Nat) (r14 : Nat → Int → Int → gi_H → Option (Int)) (v0 : Nat) (v1 : Int) (v2 : Int) (s0 : Int) (s1 : Int) (h : gi_H) : Option (Int) :=
  Option.bind (gi_rg s0) fun _ => Option.bind (gi_rg s1) fun _ => if s0 = s1 then (b_X0_beginsFresh_97 n r14 v0 v1 v2 (1 : Int) h) else (b_X0_beginsFresh_97 n r14 v0 v1 v2 (0 : Int) h)
set_option maxRecDepth 100000 in
theorem zb_X0_beginsFresh_71 {al : Bool} {n : Nat} {r14 : Nat → Int → Int → gi_H → Option (Int)} {res : Int} (hr14 : ∀ (x0 : Nat) (x1 : Int) (x2 : Int) (hh : gi_H), r14 x0 x1 x2 hh = some res → gx_Z mX0_beginsFresh al al 0 0 14 [(0, .ref x0), (1, .int (gI x1)), (2, .int (gI x2))] [] (gi_cv hh) (.inl (some (.int (gI res)))) (gi_cv hh)) {v0 : Nat} {v1 : Int} {v2 : Int} {s0 : Int} {s1 : Int} {h : gi_H} (e : b_X0_beginsFresh_71 n r14 v0 v1 v2 s0 s1 h = some res) : gx_Z mX0_beginsFresh al al 0 0 71 [(0, .ref v0), (1, .int (gI v1)), (2, .int (gI v2))] [.int (gI s1), .int (gI s0)] (gi_cv h) (.inl (some (.int (gI res)))) (gi_cv h) := by
  refine gx_bE e (fun _ g28 e => ?_)
  refine gx_bE e (fun _ g29 e => ?_)
  refine gx_iE e (fun c30 e => ?_) (fun c30 e => ?_)
  · refine gy_icmp_ne (tgt := 78) (gi_rgS g28) (gi_rgS g29) dX0_beginsFresh_71 (by decide) (fun z => absurd c30 z) (fun _ => ?_)
    refine gy_iconst dX0_beginsFresh_74 ?_
    refine gx_goto (tgt := 97) dX0_beginsFresh_75 (by decide) ?_
    exact zb_X0_beginsFresh_97 hr14 e
  · refine gy_icmp_ne (tgt := 78) (gi_rgS g28) (gi_rgS g29) dX0_beginsFresh_71 (by decide) (fun _ => ?_) (fun z => absurd z c30)
    refine gy_iconst dX0_beginsFresh_78 ?_
    refine gx_goto (tgt := 97) dX0_beginsFresh_79 (by decide) ?_
    exact zb_X0_beginsFresh_97 hr14 e
set_option maxRecDepth 100000 in
def b_X0_beginsFresh_57 (n : Nat) (r14 : Nat → Int → Int → gi_H → Option (Int)) (v0 : Nat) (v1 : Int) (v2 : Int) (s0 : Int) (h : gi_H) : Option (Int) :=
  Option.bind (gi_gR h v0 0 9) fun t24 => Option.bind (gi_aI h 1 t24 v2) fun t25 => Option.bind (gi_rg t25) fun _ => if t25 = 0 then (b_X0_beginsFresh_71 n r14 v0 v1 v2 s0 (1 : Int) h) else (b_X0_beginsFresh_71 n r14 v0 v1 v2 s0 (0 : Int) h)
set_option maxRecDepth 100000 in
theorem zb_X0_beginsFresh_57 {al : Bool} {n : Nat} {r14 : Nat → Int → Int → gi_H → Option (Int)} {res : Int} (hr14 : ∀ (x0 : Nat) (x1 : Int) (x2 : Int) (hh : gi_H), r14 x0 x1 x2 hh = some res → gx_Z mX0_beginsFresh al al 0 0 14 [(0, .ref x0), (1, .int (gI x1)), (2, .int (gI x2))] [] (gi_cv hh) (.inl (some (.int (gI res)))) (gi_cv hh)) {v0 : Nat} {v1 : Int} {v2 : Int} {s0 : Int} {h : gi_H} (e : b_X0_beginsFresh_57 n r14 v0 v1 v2 s0 h = some res) : gx_Z mX0_beginsFresh al al 0 0 57 [(0, .ref v0), (1, .int (gI v1)), (2, .int (gI v2))] [.int (gI s0)] (gi_cv h) (.inl (some (.int (gI res)))) (gi_cv h) := by
  refine gx_aload_n dX0_beginsFresh_57 rfl 0 rfl ?_
  refine gx_bE e (fun t24 ht24 e => ?_)
  refine gy_fR ht24 dX0_beginsFresh_58 gf_RX0_25_0_9 (by decide) gkN_0_9 gkR_0_9 ?_
  refine gx_iload_n dX0_beginsFresh_61 rfl 2 rfl ?_
  refine gx_bE e (fun t25 ht25 e => ?_)
  refine gy_l1 ht25 dX0_beginsFresh_62 ?_
  refine gx_bE e (fun _ g26 e => ?_)
  refine gx_iE e (fun c27 e => ?_) (fun c27 e => ?_)
  · refine gy_if_ne (tgt := 70) (gi_rgS g26) dX0_beginsFresh_63 (by decide) (fun z => absurd c27 z) (fun _ => ?_)
    refine gy_iconst dX0_beginsFresh_66 ?_
    refine gx_goto (tgt := 71) dX0_beginsFresh_67 (by decide) ?_
    exact zb_X0_beginsFresh_71 hr14 e
  · refine gy_if_ne (tgt := 70) (gi_rgS g26) dX0_beginsFresh_63 (by decide) (fun _ => ?_) (fun z => absurd z c27)
    refine gy_iconst dX0_beginsFresh_70 ?_
    exact zb_X0_beginsFresh_71 hr14 e
set_option maxRecDepth 100000 in
def b_X0_beginsFresh_14 (n : Nat) (r14 : Nat → Int → Int → gi_H → Option (Int)) (v0 : Nat) (v1 : Int) (v2 : Int)  (h : gi_H) : Option (Int) :=
  Option.bind (gi_rg v2) fun _ => if (150 : Int) ≤ v2 then (some (1 : Int)) else (Option.bind (gi_dg v2 (6 : Int)) fun _ => Option.bind (gi_rg (v2 % (6 : Int))) fun _ => if (v2 % (6 : Int)) = 0 then (b_X0_beginsFresh_106 n r14 v0 v1 v2 h) else (Option.bind (gi_gR h v0 0 5) fun t10 => Option.bind (gi_aI h 1 t10 ((v1 * (150 : Int)) + v2)) fun t11 => Option.bind (gi_gI h v0 0 1) fun t12 => Option.bind (gi_rg t12) fun _ => if t12 = 0 then (Option.bind (gi_gR h v0 0 9) fun t15 => Option.bind (gi_aI h 1 t15 v2) fun t16 => Option.bind (gi_rg t11) fun _ => Option.bind (gi_rg t16) fun _ => if t11 = t16 then (b_X0_beginsFresh_97 n r14 v0 v1 v2 (1 : Int) h) else (b_X0_beginsFresh_97 n r14 v0 v1 v2 (0 : Int) h)) else (Option.bind (gi_rg t11) fun _ => if t11 = 0 then (b_X0_beginsFresh_57 n r14 v0 v1 v2 (1 : Int) h) else (b_X0_beginsFresh_57 n r14 v0 v1 v2 (0 : Int) h))))
set_option maxRecDepth 100000 in
theorem zb_X0_beginsFresh_14 {al : Bool} {n : Nat} {r14 : Nat → Int → Int → gi_H → Option (Int)} {res : Int} (hr14 : ∀ (x0 : Nat) (x1 : Int) (x2 : Int) (hh : gi_H), r14 x0 x1 x2 hh = some res → gx_Z mX0_beginsFresh al al 0 0 14 [(0, .ref x0), (1, .int (gI x1)), (2, .int (gI x2))] [] (gi_cv hh) (.inl (some (.int (gI res)))) (gi_cv hh)) {v0 : Nat} {v1 : Int} {v2 : Int}  {h : gi_H} (e : b_X0_beginsFresh_14 n r14 v0 v1 v2 h = some res) : gx_Z mX0_beginsFresh al al 0 0 14 [(0, .ref v0), (1, .int (gI v1)), (2, .int (gI v2))] [] (gi_cv h) (.inl (some (.int (gI res)))) (gi_cv h) := by
  refine gx_iload_n dX0_beginsFresh_14 rfl 2 rfl ?_
  refine gy_sipush dX0_beginsFresh_15 gcs_150 ?_
  refine gx_bE e (fun _ g4 e => ?_)
  refine gx_iE e (fun c5 e => ?_) (fun c5 e => ?_)
  · refine gy_icmp_ge (tgt := 112) (gi_rgS g4) (by decide) dX0_beginsFresh_18 (by decide) (fun _ => ?_) (fun z => absurd c5 z)
    refine gy_iconst dX0_beginsFresh_112 ?_
    cases e
    exact gx_zret (by decide +kernel) dX0_beginsFresh_113 rfl ⟨Nat.le_of_ble_eq_true rfl, Nat.le_of_ble_eq_true rfl⟩ (fun z => z)
  · refine gy_icmp_ge (tgt := 112) (gi_rgS g4) (by decide) dX0_beginsFresh_18 (by decide) (fun z => absurd z c5) (fun _ => ?_)
    refine gx_iload_n dX0_beginsFresh_21 rfl 2 rfl ?_
    refine gy_bipush dX0_beginsFresh_22 gcb_6 ?_
    refine gx_bE e (fun _ hu6 e => ?_)
    refine gy_irem hu6 dX0_beginsFresh_24 ?_
    refine gx_bE e (fun _ g7 e => ?_)
    refine gx_iE e (fun c8 e => ?_) (fun c8 e => ?_)
    · refine gy_if_eq (tgt := 106) (gi_rgS g7) dX0_beginsFresh_25 (by decide) (fun _ => ?_) (fun z => absurd c8 z)
      exact zb_X0_beginsFresh_106 hr14 e
    · refine gy_if_eq (tgt := 106) (gi_rgS g7) dX0_beginsFresh_25 (by decide) (fun z => absurd z c8) (fun _ => ?_)
      refine gx_aload_n dX0_beginsFresh_28 rfl 0 rfl ?_
      refine gx_bE e (fun t10 ht10 e => ?_)
      refine gy_fR ht10 dX0_beginsFresh_29 gf_RX0_9_0_5 (by decide) gkN_0_5 gkR_0_5 ?_
      refine gx_iload_n dX0_beginsFresh_32 rfl 1 rfl ?_
      refine gy_sipush dX0_beginsFresh_33 gcs_150 ?_
      refine gy_imul dX0_beginsFresh_36 ?_
      refine gx_iload_n dX0_beginsFresh_37 rfl 2 rfl ?_
      refine gy_iadd dX0_beginsFresh_38 ?_
      refine gx_bE e (fun t11 ht11 e => ?_)
      refine gy_l1 ht11 dX0_beginsFresh_39 ?_
      refine gx_istore_n (ls2 := [(3, .int (gI t11)), (0, .ref v0), (1, .int (gI v1)), (2, .int (gI v2))]) dX0_beginsFresh_40 rfl (Nat.le_of_ble_eq_true rfl) rfl ?_
      refine gx_aload_n dX0_beginsFresh_41 rfl 1 rfl ?_
      refine gx_bE e (fun t12 ht12 e => ?_)
      refine gy_fI ht12 dX0_beginsFresh_42 gf_RX0_32_0_1 (by decide) gkN_0_1 gkR_0_1 ?_
      refine gx_bE e (fun _ g13 e => ?_)
      refine gx_iE e (fun c14 e => ?_) (fun c14 e => ?_)
      · refine gy_if_eq (tgt := 82) (gi_rgS g13) dX0_beginsFresh_45 (by decide) (fun _ => ?_) (fun z => absurd c14 z)
        refine gx_iload_n dX0_beginsFresh_82 rfl 0 rfl ?_
        refine gx_aload_n dX0_beginsFresh_83 rfl 1 rfl ?_
        refine gx_bE e (fun t15 ht15 e => ?_)
        refine gy_fR ht15 dX0_beginsFresh_84 gf_RX0_25_0_9 (by decide) gkN_0_9 gkR_0_9 ?_
        refine gx_iload_n dX0_beginsFresh_87 rfl 3 rfl ?_
        refine gx_bE e (fun t16 ht16 e => ?_)
        refine gy_l1 ht16 dX0_beginsFresh_88 ?_
        refine gx_bE e (fun _ g17 e => ?_)
        refine gx_bE e (fun _ g18 e => ?_)
        refine gx_iE e (fun c19 e => ?_) (fun c19 e => ?_)
        · refine gy_icmp_ne (tgt := 96) (gi_rgS g17) (gi_rgS g18) dX0_beginsFresh_89 (by decide) (fun z => absurd c19 z) (fun _ => ?_)
          refine gy_iconst dX0_beginsFresh_92 ?_
          refine gx_goto (tgt := 97) dX0_beginsFresh_93 (by decide) ?_
          refine gx_sub (ls2 := [(0, .ref v0), (1, .int (gI v1)), (2, .int (gI v2))]) [1, 2, 3] rfl ?_
          exact zb_X0_beginsFresh_97 hr14 e
        · refine gy_icmp_ne (tgt := 96) (gi_rgS g17) (gi_rgS g18) dX0_beginsFresh_89 (by decide) (fun _ => ?_) (fun z => absurd z c19)
          refine gy_iconst dX0_beginsFresh_96 ?_
          refine gx_sub (ls2 := [(0, .ref v0), (1, .int (gI v1)), (2, .int (gI v2))]) [1, 2, 3] rfl ?_
          exact zb_X0_beginsFresh_97 hr14 e
      · refine gy_if_eq (tgt := 82) (gi_rgS g13) dX0_beginsFresh_45 (by decide) (fun z => absurd z c14) (fun _ => ?_)
        refine gx_iload_n dX0_beginsFresh_48 rfl 0 rfl ?_
        refine gx_bE e (fun _ g22 e => ?_)
        refine gx_iE e (fun c23 e => ?_) (fun c23 e => ?_)
        · refine gy_if_ne (tgt := 56) (gi_rgS g22) dX0_beginsFresh_49 (by decide) (fun z => absurd c23 z) (fun _ => ?_)
          refine gy_iconst dX0_beginsFresh_52 ?_
          refine gx_goto (tgt := 57) dX0_beginsFresh_53 (by decide) ?_
          refine gx_sub (ls2 := [(0, .ref v0), (1, .int (gI v1)), (2, .int (gI v2))]) [1, 2, 3] rfl ?_
          exact zb_X0_beginsFresh_57 hr14 e
        · refine gy_if_ne (tgt := 56) (gi_rgS g22) dX0_beginsFresh_49 (by decide) (fun _ => ?_) (fun z => absurd z c23)
          refine gy_iconst dX0_beginsFresh_56 ?_
          refine gx_sub (ls2 := [(0, .ref v0), (1, .int (gI v1)), (2, .int (gI v2))]) [1, 2, 3] rfl ?_
          exact zb_X0_beginsFresh_57 hr14 e
def l_X0_beginsFresh_14 (n : Nat)  : Nat → Nat → Int → Int → gi_H → Option (Int)
  | 0, _, _, _, _ => none
  | k + 1, v0, v1, v2, h => b_X0_beginsFresh_14 n  (l_X0_beginsFresh_14 n  k) v0 v1 v2 h
theorem zl_X0_beginsFresh_14 {al : Bool} {n : Nat}  {res : Int}  : ∀ (k : Nat) (v0 : Nat) (v1 : Int) (v2 : Int) (h : gi_H), l_X0_beginsFresh_14 n  k v0 v1 v2 h = some res → gx_Z mX0_beginsFresh al al 0 0 14 [(0, .ref v0), (1, .int (gI v1)), (2, .int (gI v2))] [] (gi_cv h) (.inl (some (.int (gI res)))) (gi_cv h)
  | 0, _, _, _, _, e => gx_0E e
  | k + 1, _, _, _, _, e => zb_X0_beginsFresh_14 (n := n)  (zl_X0_beginsFresh_14  k) e
set_option maxRecDepth 100000 in
def f_X0_beginsFresh (n : Nat) (v0 : Nat) (v1 : Int) (h : gi_H) : Option (Int) :=
  Option.bind (gi_rg v1) fun _ => if v1 < 0 then (some (0 : Int)) else (if v1 < (80 : Int) then (l_X0_beginsFresh_14 n  n v0 v1 (0 : Int) h) else (some (0 : Int)))
set_option maxRecDepth 100000 in
theorem z_X0_beginsFresh {al : Bool} {n : Nat} {v0 : Nat} {v1 : Int} {h : gi_H} {res : Int} (e : f_X0_beginsFresh n v0 v1 h = some res) : gx_Cw mX0_beginsFresh al [.ref v0, .int (gI v1)] (gi_cv h) (.inl (some (.int (gI res)))) (gi_cv h) := by
  refine gx_enter (by decide +kernel) rfl (Nat.le_of_ble_eq_true rfl) ?_
  show gx_Z mX0_beginsFresh al al 0 0 0 [(0, .ref v0), (1, .int (gI v1))] [] (gi_cv h) (.inl (some (.int (gI res)))) (gi_cv h)
  refine gx_iload_n dX0_beginsFresh_0 rfl 1 rfl ?_
  refine gx_bE e (fun _ g1 e => ?_)
  refine gx_iE e (fun c2 e => ?_) (fun c2 e => ?_)
  · refine gy_if_lt (tgt := 10) (gi_rgS g1) dX0_beginsFresh_1 (by decide) (fun _ => ?_) (fun z => absurd c2 z)
    refine gy_iconst dX0_beginsFresh_10 ?_
    cases e
    exact gx_zret (by decide +kernel) dX0_beginsFresh_11 rfl ⟨Nat.le_of_ble_eq_true rfl, Nat.le_of_ble_eq_true rfl⟩ (fun z => z)
  · refine gy_if_lt (tgt := 10) (gi_rgS g1) dX0_beginsFresh_1 (by decide) (fun z => absurd z c2) (fun _ => ?_)
    refine gx_iload_n dX0_beginsFresh_4 rfl 1 rfl ?_
    refine gy_bipush dX0_beginsFresh_5 gcb_80 ?_
    refine gx_iE e (fun c3 e => ?_) (fun c3 e => ?_)
    · refine gy_icmp_lt (tgt := 12) (gi_rgS g1) (by decide) dX0_beginsFresh_7 (by decide) (fun _ => ?_) (fun z => absurd c3 z)
      refine gy_iconst dX0_beginsFresh_12 ?_
      refine gx_istore_n (ls2 := [(2, .int (gI (0 : Int))), (0, .ref v0), (1, .int (gI v1))]) dX0_beginsFresh_13 rfl (Nat.le_of_ble_eq_true rfl) rfl ?_
      refine gx_sub (ls2 := [(0, .ref v0), (1, .int (gI v1)), (2, .int (gI (0 : Int)))]) [1, 2, 0] rfl ?_
      exact zl_X0_beginsFresh_14  n _ _ _ _ e
    · refine gy_icmp_lt (tgt := 12) (gi_rgS g1) (by decide) dX0_beginsFresh_7 (by decide) (fun z => absurd z c3) (fun _ => ?_)
      refine gy_iconst dX0_beginsFresh_10 ?_
      cases e
      exact gx_zret (by decide +kernel) dX0_beginsFresh_11 rfl ⟨Nat.le_of_ble_eq_true rfl, Nat.le_of_ble_eq_true rfl⟩ (fun z => z)
/-! X0_findState  -/
set_option maxRecDepth 100000 in
def b_X0_findState_36 (n : Nat) (r2 : Nat → Int → Int → gi_H → Option (Int)) (v0 : Nat) (v1 : Int) (v2 : Int)  (h : gi_H) : Option (Int) :=
  gx_nm (v2 + (1 : Int)) fun t15 => r2 v0 v1 t15 h
set_option maxRecDepth 100000 in
theorem zb_X0_findState_36 {al : Bool} {n : Nat} {r2 : Nat → Int → Int → gi_H → Option (Int)} {res : Int} (hr2 : ∀ (x0 : Nat) (x1 : Int) (x2 : Int) (hh : gi_H), r2 x0 x1 x2 hh = some res → gx_Z mX0_findState al al 0 0 2 [(0, .ref x0), (1, .int (gI x1)), (2, .int (gI x2))] [] (gi_cv hh) (.inl (some (.int (gI res)))) (gi_cv hh)) {v0 : Nat} {v1 : Int} {v2 : Int}  {h : gi_H} (e : b_X0_findState_36 n r2 v0 v1 v2 h = some res) : gx_Z mX0_findState al al 0 0 36 [(0, .ref v0), (1, .int (gI v1)), (2, .int (gI v2))] [] (gi_cv h) (.inl (some (.int (gI res)))) (gi_cv h) := by
  refine gx_nE e (fun t15 ht15 e => ?_)
  refine gy_iinc (v := t15) (ls2 := [(2, .int (gI t15)), (0, .ref v0), (1, .int (gI v1))]) dX0_findState_36 2 rfl ht15 (Nat.le_of_ble_eq_true rfl) rfl ?_
  refine gx_goto (tgt := 2) dX0_findState_39 (by decide) ?_
  refine gx_sub (ls2 := [(0, .ref v0), (1, .int (gI v1)), (2, .int (gI t15))]) [1, 2, 0] rfl ?_
  exact hr2 _ _ _ _ e
set_option maxRecDepth 100000 in
def b_X0_findState_2 (n : Nat) (r2 : Nat → Int → Int → gi_H → Option (Int)) (v0 : Nat) (v1 : Int) (v2 : Int)  (h : gi_H) : Option (Int) :=
  Option.bind (gi_gI h v0 0 4) fun t1 => Option.bind (gi_rg v2) fun _ => Option.bind (gi_rg t1) fun _ => if t1 ≤ v2 then (some (-1 : Int)) else (if (80 : Int) ≤ v2 then (some (-1 : Int)) else (Option.bind (gi_gR h v0 0 7) fun t6 => Option.bind (gi_aI h 1 t6 v2) fun t7 => Option.bind (gi_rg t7) fun _ => Option.bind (gi_rg v1) fun _ => if t7 = v1 then (Option.bind (gi_is h v0 0) fun _ => Option.bind (f_X0_beginsFresh n v0 v2 h) fun q12 => Option.bind (gi_rg q12) fun _ => if q12 = 0 then (b_X0_findState_36 n r2 v0 v1 v2 h) else (some v2)) else (b_X0_findState_36 n r2 v0 v1 v2 h)))
set_option maxRecDepth 100000 in
theorem zb_X0_findState_2 {al : Bool} {n : Nat} {r2 : Nat → Int → Int → gi_H → Option (Int)} {res : Int} (hr2 : ∀ (x0 : Nat) (x1 : Int) (x2 : Int) (hh : gi_H), r2 x0 x1 x2 hh = some res → gx_Z mX0_findState al al 0 0 2 [(0, .ref x0), (1, .int (gI x1)), (2, .int (gI x2))] [] (gi_cv hh) (.inl (some (.int (gI res)))) (gi_cv hh)) {v0 : Nat} {v1 : Int} {v2 : Int}  {h : gi_H} (e : b_X0_findState_2 n r2 v0 v1 v2 h = some res) : gx_Z mX0_findState al al 0 0 2 [(0, .ref v0), (1, .int (gI v1)), (2, .int (gI v2))] [] (gi_cv h) (.inl (some (.int (gI res)))) (gi_cv h) := by
  refine gx_iload_n dX0_findState_2 rfl 2 rfl ?_
  refine gx_aload_n dX0_findState_3 rfl 0 rfl ?_
  refine gx_bE e (fun t1 ht1 e => ?_)
  refine gy_fI ht1 dX0_findState_4 gf_RX0_42_0_4 (by decide) gkN_0_4 gkR_0_4 ?_
  refine gx_bE e (fun _ g2 e => ?_)
  refine gx_bE e (fun _ g3 e => ?_)
  refine gx_iE e (fun c4 e => ?_) (fun c4 e => ?_)
  · refine gy_icmp_ge (tgt := 42) (gi_rgS g2) (gi_rgS g3) dX0_findState_7 (by decide) (fun _ => ?_) (fun z => absurd c4 z)
    refine gy_iconst dX0_findState_42 ?_
    cases e
    exact gx_iret dX0_findState_43 rfl ⟨Nat.le_of_ble_eq_true rfl, Nat.le_of_ble_eq_true rfl⟩ (fun z => z)
  · refine gy_icmp_ge (tgt := 42) (gi_rgS g2) (gi_rgS g3) dX0_findState_7 (by decide) (fun z => absurd z c4) (fun _ => ?_)
    refine gx_iload_n dX0_findState_10 rfl 2 rfl ?_
    refine gy_bipush dX0_findState_11 gcb_80 ?_
    refine gx_iE e (fun c5 e => ?_) (fun c5 e => ?_)
    · refine gy_icmp_ge (tgt := 42) (gi_rgS g2) (by decide) dX0_findState_13 (by decide) (fun _ => ?_) (fun z => absurd c5 z)
      refine gy_iconst dX0_findState_42 ?_
      cases e
      exact gx_iret dX0_findState_43 rfl ⟨Nat.le_of_ble_eq_true rfl, Nat.le_of_ble_eq_true rfl⟩ (fun z => z)
    · refine gy_icmp_ge (tgt := 42) (gi_rgS g2) (by decide) dX0_findState_13 (by decide) (fun z => absurd z c5) (fun _ => ?_)
      refine gx_aload_n dX0_findState_16 rfl 0 rfl ?_
      refine gx_bE e (fun t6 ht6 e => ?_)
      refine gy_fR ht6 dX0_findState_17 gf_RX0_18_0_7 (by decide) gkN_0_7 gkR_0_7 ?_
      refine gx_iload_n dX0_findState_20 rfl 2 rfl ?_
      refine gx_bE e (fun t7 ht7 e => ?_)
      refine gy_l1 ht7 dX0_findState_21 ?_
      refine gx_iload_n dX0_findState_22 rfl 1 rfl ?_
      refine gx_bE e (fun _ g8 e => ?_)
      refine gx_bE e (fun _ g9 e => ?_)
      refine gx_iE e (fun c10 e => ?_) (fun c10 e => ?_)
      · refine gy_icmp_ne (tgt := 36) (gi_rgS g8) (gi_rgS g9) dX0_findState_23 (by decide) (fun z => absurd c10 z) (fun _ => ?_)
        refine gx_aload_n dX0_findState_26 rfl 0 rfl ?_
        refine gx_iload_n dX0_findState_27 rfl 2 rfl ?_
        refine gx_bE e (fun _ hu11 e => ?_)
        refine gx_bE e (fun q12 hq12 e => ?_)
        refine gx_callV (n := 1) (st := []) (As := [.int (gI v2)]) (b := v0) dX0_findState_28 (z_X0_beginsFresh hq12) rfl ⟨rfl, gw_cw_X0_beginsFresh, gw_7, gp_X0_beginsFresh, ⟨Nat.le_of_ble_eq_true rfl, Nat.le_of_ble_eq_true rfl⟩⟩ (gi_isS hu11) (by decide) gw_582 gw_584 gs_28 rfl ⟨Nat.le_of_ble_eq_true rfl, Nat.le_of_ble_eq_true rfl⟩ (Nat.le_of_ble_eq_true rfl) (gy_k1 (x := .int (gI q12)) (kc2 := 0) (ks2 := 0) ⟨rfl, rfl⟩ ?_) gy_kn
        refine gx_bE e (fun _ g13 e => ?_)
        refine gx_iE e (fun c14 e => ?_) (fun c14 e => ?_)
        · refine gy_if_eq (tgt := 36) (gi_rgS g13) dX0_findState_31 (by decide) (fun _ => ?_) (fun z => absurd c14 z)
          exact zb_X0_findState_36 hr2 e
        · refine gy_if_eq (tgt := 36) (gi_rgS g13) dX0_findState_31 (by decide) (fun z => absurd z c14) (fun _ => ?_)
          refine gx_iload_n dX0_findState_34 rfl 2 rfl ?_
          cases e
          exact gx_iret dX0_findState_35 rfl ⟨Nat.le_of_ble_eq_true rfl, Nat.le_of_ble_eq_true rfl⟩ (fun z => z)
      · refine gy_icmp_ne (tgt := 36) (gi_rgS g8) (gi_rgS g9) dX0_findState_23 (by decide) (fun _ => ?_) (fun z => absurd z c10)
        exact zb_X0_findState_36 hr2 e
def l_X0_findState_2 (n : Nat)  : Nat → Nat → Int → Int → gi_H → Option (Int)
  | 0, _, _, _, _ => none
  | k + 1, v0, v1, v2, h => b_X0_findState_2 n  (l_X0_findState_2 n  k) v0 v1 v2 h
theorem zl_X0_findState_2 {al : Bool} {n : Nat}  {res : Int}  : ∀ (k : Nat) (v0 : Nat) (v1 : Int) (v2 : Int) (h : gi_H), l_X0_findState_2 n  k v0 v1 v2 h = some res → gx_Z mX0_findState al al 0 0 2 [(0, .ref v0), (1, .int (gI v1)), (2, .int (gI v2))] [] (gi_cv h) (.inl (some (.int (gI res)))) (gi_cv h)
  | 0, _, _, _, _, e => gx_0E e
  | k + 1, _, _, _, _, e => zb_X0_findState_2 (n := n)  (zl_X0_findState_2  k) e
set_option maxRecDepth 100000 in
def f_X0_findState (n : Nat) (v0 : Nat) (v1 : Int) (h : gi_H) : Option (Int) :=
  l_X0_findState_2 n  n v0 v1 (0 : Int) h
set_option maxRecDepth 100000 in
theorem z_X0_findState {al : Bool} {n : Nat} {v0 : Nat} {v1 : Int} {h : gi_H} {res : Int} (e : f_X0_findState n v0 v1 h = some res) : gx_Cw mX0_findState al [.ref v0, .int (gI v1)] (gi_cv h) (.inl (some (.int (gI res)))) (gi_cv h) := by
  refine gx_enter (by decide +kernel) rfl (Nat.le_of_ble_eq_true rfl) ?_
  show gx_Z mX0_findState al al 0 0 0 [(0, .ref v0), (1, .int (gI v1))] [] (gi_cv h) (.inl (some (.int (gI res)))) (gi_cv h)
  refine gy_iconst dX0_findState_0 ?_
  refine gx_istore_n (ls2 := [(2, .int (gI (0 : Int))), (0, .ref v0), (1, .int (gI v1))]) dX0_findState_1 rfl (Nat.le_of_ble_eq_true rfl) rfl ?_
  refine gx_sub (ls2 := [(0, .ref v0), (1, .int (gI v1)), (2, .int (gI (0 : Int)))]) [1, 2, 0] rfl ?_
  exact zl_X0_findState_2  n _ _ _ _ e
/-! X0_mergeInto  -/
set_option maxRecDepth 100000 in
def b_X0_mergeInto_32 (n : Nat)  (v0 : Nat) (v1 : Int) (v2 : Int)  (h : gi_H) : Option (gi_H) :=
  Option.bind (gi_rg v2) fun _ => if v2 = 0 then (some h) else (Option.bind (gi_rg v1) fun _ => if v1 < 0 then (some h) else (if (80 : Int) ≤ v1 then (some h) else (Option.bind (gi_gR h v0 0 8) fun t8 => Option.bind (gi_s4 h t8 v1 (1 : Int)) fun h9 => some h9)))
set_option maxRecDepth 100000 in
theorem zb_X0_mergeInto_32 {al : Bool} {n : Nat}  {h1 : gi_H}  {v0 : Nat} {v1 : Int} {v2 : Int}  {h : gi_H} (e : b_X0_mergeInto_32 n v0 v1 v2 h = some h1) : gx_Z mX0_mergeInto al al 0 0 32 [(0, .ref v0), (1, .int (gI v1)), (2, .int (gI v2))] [] (gi_cv h) (.inl none) (gi_cv h1) := by
  refine gx_iload_n dX0_mergeInto_32 rfl 2 rfl ?_
  refine gx_bE e (fun _ g3 e => ?_)
  refine gx_iE e (fun c4 e => ?_) (fun c4 e => ?_)
  · refine gy_if_eq (tgt := 53) (gi_rgS g3) dX0_mergeInto_33 (by decide) (fun _ => ?_) (fun z => absurd c4 z)
    cases e
    exact gx_vret dX0_mergeInto_53 rfl ⟨Nat.le_of_ble_eq_true rfl, Nat.le_of_ble_eq_true rfl⟩ (fun z => z)
  · refine gy_if_eq (tgt := 53) (gi_rgS g3) dX0_mergeInto_33 (by decide) (fun z => absurd z c4) (fun _ => ?_)
    refine gx_iload_n dX0_mergeInto_36 rfl 1 rfl ?_
    refine gx_bE e (fun _ g5 e => ?_)
    refine gx_iE e (fun c6 e => ?_) (fun c6 e => ?_)
    · refine gy_if_lt (tgt := 53) (gi_rgS g5) dX0_mergeInto_37 (by decide) (fun _ => ?_) (fun z => absurd c6 z)
      cases e
      exact gx_vret dX0_mergeInto_53 rfl ⟨Nat.le_of_ble_eq_true rfl, Nat.le_of_ble_eq_true rfl⟩ (fun z => z)
    · refine gy_if_lt (tgt := 53) (gi_rgS g5) dX0_mergeInto_37 (by decide) (fun z => absurd z c6) (fun _ => ?_)
      refine gx_iload_n dX0_mergeInto_40 rfl 1 rfl ?_
      refine gy_bipush dX0_mergeInto_41 gcb_80 ?_
      refine gx_iE e (fun c7 e => ?_) (fun c7 e => ?_)
      · refine gy_icmp_ge (tgt := 53) (gi_rgS g5) (by decide) dX0_mergeInto_43 (by decide) (fun _ => ?_) (fun z => absurd c7 z)
        cases e
        exact gx_vret dX0_mergeInto_53 rfl ⟨Nat.le_of_ble_eq_true rfl, Nat.le_of_ble_eq_true rfl⟩ (fun z => z)
      · refine gy_icmp_ge (tgt := 53) (gi_rgS g5) (by decide) dX0_mergeInto_43 (by decide) (fun z => absurd z c7) (fun _ => ?_)
        refine gx_aload_n dX0_mergeInto_46 rfl 0 rfl ?_
        refine gx_bE e (fun t8 ht8 e => ?_)
        refine gy_fR ht8 dX0_mergeInto_47 gf_RX0_21_0_8 (by decide) gkN_0_8 gkR_0_8 ?_
        refine gx_iload_n dX0_mergeInto_50 rfl 1 rfl ?_
        refine gy_iconst dX0_mergeInto_51 ?_
        refine gx_bE e (fun h9 hh9 e => ?_)
        refine gy_t4 hh9 dX0_mergeInto_52 ?_
        cases e
        exact gx_vret dX0_mergeInto_53 rfl ⟨Nat.le_of_ble_eq_true rfl, Nat.le_of_ble_eq_true rfl⟩ (fun z => z)
set_option maxRecDepth 100000 in
def b_X0_mergeInto_4 (n : Nat) (r4 : Nat → Int → Int → Int → gi_H → Option (gi_H)) (v0 : Nat) (v1 : Int) (v2 : Int) (v3 : Int)  (h : gi_H) : Option (gi_H) :=
  Option.bind (gi_rg v3) fun _ => if (150 : Int) ≤ v3 then (b_X0_mergeInto_32 n  v0 v1 v2 h) else (Option.bind (gi_gR h v0 0 9) fun t10 => Option.bind (gi_aI h 1 t10 v3) fun t11 => Option.bind (gi_is h v0 0) fun _ => Option.bind (f_X0_widen v0 v1 v3 t11 h) fun q13 => gx_nm (gi_or v2 q13.1) fun t14 => gx_nm (v3 + (1 : Int)) fun t15 => r4 v0 v1 t14 t15 q13.2)
set_option maxRecDepth 100000 in
theorem zb_X0_mergeInto_4 {al : Bool} {n : Nat} {r4 : Nat → Int → Int → Int → gi_H → Option (gi_H)} {h1 : gi_H} (hr4 : ∀ (x0 : Nat) (x1 : Int) (x2 : Int) (x3 : Int) (hh : gi_H), r4 x0 x1 x2 x3 hh = some h1 → gx_Z mX0_mergeInto al al 0 0 4 [(0, .ref x0), (1, .int (gI x1)), (2, .int (gI x2)), (3, .int (gI x3))] [] (gi_cv hh) (.inl none) (gi_cv h1)) {v0 : Nat} {v1 : Int} {v2 : Int} {v3 : Int}  {h : gi_H} (e : b_X0_mergeInto_4 n r4 v0 v1 v2 v3 h = some h1) : gx_Z mX0_mergeInto al al 0 0 4 [(0, .ref v0), (1, .int (gI v1)), (2, .int (gI v2)), (3, .int (gI v3))] [] (gi_cv h) (.inl none) (gi_cv h1) := by
  refine gx_iload_n dX0_mergeInto_4 rfl 3 rfl ?_
  refine gy_sipush dX0_mergeInto_5 gcs_150 ?_
  refine gx_bE e (fun _ g1 e => ?_)
  refine gx_iE e (fun c2 e => ?_) (fun c2 e => ?_)
  · refine gy_icmp_ge (tgt := 32) (gi_rgS g1) (by decide) dX0_mergeInto_8 (by decide) (fun _ => ?_) (fun z => absurd c2 z)
    refine gx_sub (ls2 := [(0, .ref v0), (1, .int (gI v1)), (2, .int (gI v2))]) [0, 1, 2] rfl ?_
    exact zb_X0_mergeInto_32  e
  · refine gy_icmp_ge (tgt := 32) (gi_rgS g1) (by decide) dX0_mergeInto_8 (by decide) (fun z => absurd z c2) (fun _ => ?_)
    refine gx_iload_n dX0_mergeInto_11 rfl 2 rfl ?_
    refine gx_aload_n dX0_mergeInto_12 rfl 0 rfl ?_
    refine gx_iload_n dX0_mergeInto_13 rfl 1 rfl ?_
    refine gx_iload_n dX0_mergeInto_14 rfl 3 rfl ?_
    refine gx_aload_n dX0_mergeInto_15 rfl 0 rfl ?_
    refine gx_bE e (fun t10 ht10 e => ?_)
    refine gy_fR ht10 dX0_mergeInto_16 gf_RX0_25_0_9 (by decide) gkN_0_9 gkR_0_9 ?_
    refine gx_iload_n dX0_mergeInto_19 rfl 3 rfl ?_
    refine gx_bE e (fun t11 ht11 e => ?_)
    refine gy_l1 ht11 dX0_mergeInto_20 ?_
    refine gx_bE e (fun _ hu12 e => ?_)
    refine gx_bE e (fun q13 hq13 e => ?_)
    refine gx_callV (n := 3) (st := [.int (gI v2)]) (As := [.int (gI v1), .int (gI v3), .int (gI t11)]) (b := v0) dX0_mergeInto_21 (z_X0_widen hq13) rfl ⟨rfl, gw_cw_X0_widen, gw_7, gp_X0_widen, ⟨Nat.le_of_ble_eq_true rfl, Nat.le_of_ble_eq_true rfl⟩⟩ (gi_isS hu12) (by decide) gw_561 gw_563 gs_23 rfl ⟨Nat.le_of_ble_eq_true rfl, Nat.le_of_ble_eq_true rfl⟩ (Nat.le_of_ble_eq_true rfl) (gy_k1 (x := .int (gI q13.1)) (kc2 := 0) (ks2 := 0) ⟨rfl, rfl⟩ ?_) gy_kn
    refine gy_ior dX0_mergeInto_24 ?_
    refine gx_nE e (fun t14 ht14 e => ?_)
    rw [ht14]
    refine gx_istore_n (ls2 := [(2, .int (gI t14)), (0, .ref v0), (1, .int (gI v1)), (3, .int (gI v3))]) dX0_mergeInto_25 rfl (Nat.le_of_ble_eq_true rfl) rfl ?_
    refine gx_nE e (fun t15 ht15 e => ?_)
    refine gy_iinc (v := t15) (ls2 := [(3, .int (gI t15)), (2, .int (gI t14)), (0, .ref v0), (1, .int (gI v1))]) dX0_mergeInto_26 3 rfl ht15 (Nat.le_of_ble_eq_true rfl) rfl ?_
    refine gx_goto (tgt := 4) dX0_mergeInto_29 (by decide) ?_
    refine gx_sub (ls2 := [(0, .ref v0), (1, .int (gI v1)), (2, .int (gI t14)), (3, .int (gI t15))]) [2, 3, 1, 0] rfl ?_
    exact hr4 _ _ _ _ _ e
def l_X0_mergeInto_4 (n : Nat)  : Nat → Nat → Int → Int → Int → gi_H → Option (gi_H)
  | 0, _, _, _, _, _ => none
  | k + 1, v0, v1, v2, v3, h => b_X0_mergeInto_4 n  (l_X0_mergeInto_4 n  k) v0 v1 v2 v3 h
theorem zl_X0_mergeInto_4 {al : Bool} {n : Nat}  {h1 : gi_H}  : ∀ (k : Nat) (v0 : Nat) (v1 : Int) (v2 : Int) (v3 : Int) (h : gi_H), l_X0_mergeInto_4 n  k v0 v1 v2 v3 h = some h1 → gx_Z mX0_mergeInto al al 0 0 4 [(0, .ref v0), (1, .int (gI v1)), (2, .int (gI v2)), (3, .int (gI v3))] [] (gi_cv h) (.inl none) (gi_cv h1)
  | 0, _, _, _, _, _, e => gx_0E e
  | k + 1, _, _, _, _, _, e => zb_X0_mergeInto_4 (n := n)  (zl_X0_mergeInto_4  k) e
set_option maxRecDepth 100000 in
def f_X0_mergeInto (n : Nat) (v0 : Nat) (v1 : Int) (h : gi_H) : Option (gi_H) :=
  l_X0_mergeInto_4 n  n v0 v1 (0 : Int) (0 : Int) h
set_option maxRecDepth 100000 in
theorem z_X0_mergeInto {al : Bool} {n : Nat} {v0 : Nat} {v1 : Int} {h : gi_H} {h1 : gi_H} (e : f_X0_mergeInto n v0 v1 h = some h1) : gx_Cw mX0_mergeInto al [.ref v0, .int (gI v1)] (gi_cv h) (.inl none) (gi_cv h1) := by
  refine gx_enter (by decide +kernel) rfl (Nat.le_of_ble_eq_true rfl) ?_
  show gx_Z mX0_mergeInto al al 0 0 0 [(0, .ref v0), (1, .int (gI v1))] [] (gi_cv h) (.inl none) (gi_cv h1)
  refine gy_iconst dX0_mergeInto_0 ?_
  refine gx_istore_n (ls2 := [(2, .int (gI (0 : Int))), (0, .ref v0), (1, .int (gI v1))]) dX0_mergeInto_1 rfl (Nat.le_of_ble_eq_true rfl) rfl ?_
  refine gy_iconst dX0_mergeInto_2 ?_
  refine gx_istore_n (ls2 := [(3, .int (gI (0 : Int))), (2, .int (gI (0 : Int))), (0, .ref v0), (1, .int (gI v1))]) dX0_mergeInto_3 rfl (Nat.le_of_ble_eq_true rfl) rfl ?_
  refine gx_sub (ls2 := [(0, .ref v0), (1, .int (gI v1)), (2, .int (gI (0 : Int))), (3, .int (gI (0 : Int)))]) [2, 3, 1, 0] rfl ?_
  exact zl_X0_mergeInto_4  n _ _ _ _ _ e
