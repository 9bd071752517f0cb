/-! X4_length  -/
set_option maxRecDepth 100000 in
def b_X4_length_21    (h : gi_H) : Option (Int) :=
  some (0 : Int)
set_option maxRecDepth 100000 in
theorem zb_X4_length_21 {al : Bool}  {res : Int}    {h : gi_H} (e : b_X4_length_21  h = some res) : gx_Z mX4_length al al 0 0 21 [] [] (gi_cv h) (.inl (some (.int (gI res)))) (gi_cv h) := by
  refine gy_iconst dX4_length_21 ?_
  cases e
  exact gx_iret dX4_length_22 rfl ⟨Nat.le_of_ble_eq_true rfl, Nat.le_of_ble_eq_true rfl⟩ (fun z => z)
set_option maxRecDepth 100000 in
def f_X4_length (v0 : Nat) (v1 : Int) (h : gi_H) : Option (Int) :=
  Option.bind (gi_rg v1) fun _ => if v1 < 0 then (b_X4_length_21   h) else (Option.bind (gi_gI h v0 3 3) fun t3 => Option.bind (gi_rg t3) fun _ => if t3 ≤ v1 then (b_X4_length_21   h) else (Option.bind (gi_gR h v0 3 2) fun t6 => Option.bind (gi_aI h 1 t6 v1) fun t7 => some t7))
set_option maxRecDepth 100000 in
theorem z_X4_length {al : Bool} {v0 : Nat} {v1 : Int} {h : gi_H} {res : Int} (e : f_X4_length v0 v1 h = some res) : gx_Cw mX4_length al [.ref v0, .int (gI v1)] (gi_cv h) (.inl (some (.int (gI res)))) (gi_cv h) := by
  refine gx_enter (by decide +kernel) rfl (Nat.le_of_ble_eq_true rfl) ?_
  show gx_Z mX4_length al al 0 0 0 [(0, .ref v0), (1, .int (gI v1))] [] (gi_cv h) (.inl (some (.int (gI res)))) (gi_cv h)
  refine gx_iload_n dX4_length_0 rfl 1 rfl ?_
  refine gx_bE e (fun _ g1 e => ?_)
  refine gx_iE e (fun c2 e => ?_) (fun c2 e => ?_)
  · refine gy_if_lt (tgt := 21) (gi_rgS g1) dX4_length_1 (by decide) (fun _ => ?_) (fun z => absurd c2 z)
    refine gx_sub (ls2 := []) [] rfl ?_
    exact zb_X4_length_21  e
  · refine gy_if_lt (tgt := 21) (gi_rgS g1) dX4_length_1 (by decide) (fun z => absurd z c2) (fun _ => ?_)
    refine gx_iload_n dX4_length_4 rfl 1 rfl ?_
    refine gx_aload_n dX4_length_5 rfl 0 rfl ?_
    refine gx_bE e (fun t3 ht3 e => ?_)
    refine gy_fI ht3 dX4_length_6 gf_RX4_42_3_3 (by decide) gkN_3_3 gkR_3_3 ?_
    refine gx_bE e (fun _ g4 e => ?_)
    refine gx_iE e (fun c5 e => ?_) (fun c5 e => ?_)
    · refine gy_icmp_ge (tgt := 21) (gi_rgS g1) (gi_rgS g4) dX4_length_9 (by decide) (fun _ => ?_) (fun z => absurd c5 z)
      refine gx_sub (ls2 := []) [] rfl ?_
      exact zb_X4_length_21  e
    · refine gy_icmp_ge (tgt := 21) (gi_rgS g1) (gi_rgS g4) dX4_length_9 (by decide) (fun z => absurd z c5) (fun _ => ?_)
      refine gx_aload_n dX4_length_12 rfl 0 rfl ?_
      refine gx_bE e (fun t6 ht6 e => ?_)
      refine gy_fR ht6 dX4_length_13 gf_RX4_18_3_2 (by decide) gkN_3_2 gkR_3_2 ?_
      refine gx_iload_n dX4_length_16 rfl 1 rfl ?_
      refine gx_bE e (fun t7 ht7 e => ?_)
      refine gy_l1 ht7 dX4_length_17 ?_
      refine gx_goto (tgt := 22) dX4_length_18 (by decide) ?_
      cases e
      exact gx_iret dX4_length_22 rfl ⟨Nat.le_of_ble_eq_true rfl, Nat.le_of_ble_eq_true rfl⟩ (fun z => z)
/-! X4_symbol  -/
set_option maxRecDepth 100000 in
def b_X4_symbol_31  (v0 : Nat) (v1 : Int) (v2 : Int) (s0 : Int) (h : gi_H) : Option (Int) :=
  Option.bind (gi_rg s0) fun _ => if s0 = 0 then (some (-1 : Int)) else (Option.bind (gi_gR h v0 3 1) fun t5 => Option.bind (gi_aI h 1 t5 ((v1 * (5 : Int)) + v2)) fun t6 => some t6)
set_option maxRecDepth 100000 in
theorem zb_X4_symbol_31 {al : Bool}  {res : Int}  {v0 : Nat} {v1 : Int} {v2 : Int} {s0 : Int} {h : gi_H} (e : b_X4_symbol_31 v0 v1 v2 s0 h = some res) : gx_Z mX4_symbol al al 0 0 31 [(0, .ref v0), (1, .int (gI v1)), (2, .int (gI v2))] [.int (gI s0)] (gi_cv h) (.inl (some (.int (gI res)))) (gi_cv h) := by
  refine gx_istore_n (ls2 := [(3, .int (gI s0)), (0, .ref v0), (1, .int (gI v1)), (2, .int (gI v2))]) dX4_symbol_31 rfl (Nat.le_of_ble_eq_true rfl) rfl ?_
  refine gx_iload_n dX4_symbol_32 rfl 0 rfl ?_
  refine gx_bE e (fun _ g3 e => ?_)
  refine gx_iE e (fun c4 e => ?_) (fun c4 e => ?_)
  · refine gy_if_eq (tgt := 49) (gi_rgS g3) dX4_symbol_33 (by decide) (fun _ => ?_) (fun z => absurd c4 z)
    refine gy_iconst dX4_symbol_49 ?_
    cases e
    exact gx_iret dX4_symbol_50 rfl ⟨Nat.le_of_ble_eq_true rfl, Nat.le_of_ble_eq_true rfl⟩ (fun z => z)
  · refine gy_if_eq (tgt := 49) (gi_rgS g3) dX4_symbol_33 (by decide) (fun z => absurd z c4) (fun _ => ?_)
    refine gx_aload_n dX4_symbol_36 rfl 1 rfl ?_
    refine gx_bE e (fun t5 ht5 e => ?_)
    refine gy_fR ht5 dX4_symbol_37 gf_RX4_15_3_1 (by decide) gkN_3_1 gkR_3_1 ?_
    refine gx_iload_n dX4_symbol_40 rfl 2 rfl ?_
    refine gy_iconst dX4_symbol_41 ?_
    refine gy_imul dX4_symbol_42 ?_
    refine gx_iload_n dX4_symbol_43 rfl 3 rfl ?_
    refine gy_iadd dX4_symbol_44 ?_
    refine gx_bE e (fun t6 ht6 e => ?_)
    refine gy_l1 ht6 dX4_symbol_45 ?_
    refine gx_goto (tgt := 50) dX4_symbol_46 (by decide) ?_
    cases e
    exact gx_iret dX4_symbol_50 rfl ⟨Nat.le_of_ble_eq_true rfl, Nat.le_of_ble_eq_true rfl⟩ (fun z => z)
set_option maxRecDepth 100000 in
def b_X4_symbol_30  (v0 : Nat) (v1 : Int) (v2 : Int)  (h : gi_H) : Option (Int) :=
  b_X4_symbol_31  v0 v1 v2 (0 : Int) h
set_option maxRecDepth 100000 in
theorem zb_X4_symbol_30 {al : Bool}  {res : Int}  {v0 : Nat} {v1 : Int} {v2 : Int}  {h : gi_H} (e : b_X4_symbol_30 v0 v1 v2 h = some res) : gx_Z mX4_symbol al al 0 0 30 [(0, .ref v0), (1, .int (gI v1)), (2, .int (gI v2))] [] (gi_cv h) (.inl (some (.int (gI res)))) (gi_cv h) := by
  refine gy_iconst dX4_symbol_30 ?_
  exact zb_X4_symbol_31  e
set_option maxRecDepth 100000 in
def f_X4_symbol (v0 : Nat) (v1 : Int) (v2 : Int) (h : gi_H) : Option (Int) :=
  Option.bind (gi_rg v1) fun _ => if v1 < 0 then (b_X4_symbol_30  v0 v1 v2 h) else (Option.bind (gi_gI h v0 3 3) fun t7 => Option.bind (gi_rg t7) fun _ => if t7 ≤ v1 then (b_X4_symbol_30  v0 v1 v2 h) else (Option.bind (gi_rg v2) fun _ => if v2 < 0 then (b_X4_symbol_30  v0 v1 v2 h) else (Option.bind (gi_gR h v0 3 2) fun t12 => Option.bind (gi_aI h 1 t12 v1) fun t13 => Option.bind (gi_rg t13) fun _ => if t13 ≤ v2 then (b_X4_symbol_30  v0 v1 v2 h) else (b_X4_symbol_31  v0 v1 v2 (1 : Int) h))))
set_option maxRecDepth 100000 in
theorem z_X4_symbol {al : Bool} {v0 : Nat} {v1 : Int} {v2 : Int} {h : gi_H} {res : Int} (e : f_X4_symbol v0 v1 v2 h = some res) : gx_Cw mX4_symbol al [.ref v0, .int (gI v1), .int (gI v2)] (gi_cv h) (.inl (some (.int (gI res)))) (gi_cv h) := by
  refine gx_enter (by decide +kernel) rfl (Nat.le_of_ble_eq_true rfl) ?_
  show gx_Z mX4_symbol al al 0 0 0 [(0, .ref v0), (1, .int (gI v1)), (2, .int (gI v2))] [] (gi_cv h) (.inl (some (.int (gI res)))) (gi_cv h)
  refine gx_iload_n dX4_symbol_0 rfl 1 rfl ?_
  refine gx_bE e (fun _ g1 e => ?_)
  refine gx_iE e (fun c2 e => ?_) (fun c2 e => ?_)
  · refine gy_if_lt (tgt := 30) (gi_rgS g1) dX4_symbol_1 (by decide) (fun _ => ?_) (fun z => absurd c2 z)
    exact zb_X4_symbol_30  e
  · refine gy_if_lt (tgt := 30) (gi_rgS g1) dX4_symbol_1 (by decide) (fun z => absurd z c2) (fun _ => ?_)
    refine gx_iload_n dX4_symbol_4 rfl 1 rfl ?_
    refine gx_aload_n dX4_symbol_5 rfl 0 rfl ?_
    refine gx_bE e (fun t7 ht7 e => ?_)
    refine gy_fI ht7 dX4_symbol_6 gf_RX4_42_3_3 (by decide) gkN_3_3 gkR_3_3 ?_
    refine gx_bE e (fun _ g8 e => ?_)
    refine gx_iE e (fun c9 e => ?_) (fun c9 e => ?_)
    · refine gy_icmp_ge (tgt := 30) (gi_rgS g1) (gi_rgS g8) dX4_symbol_9 (by decide) (fun _ => ?_) (fun z => absurd c9 z)
      exact zb_X4_symbol_30  e
    · refine gy_icmp_ge (tgt := 30) (gi_rgS g1) (gi_rgS g8) dX4_symbol_9 (by decide) (fun z => absurd z c9) (fun _ => ?_)
      refine gx_iload_n dX4_symbol_12 rfl 2 rfl ?_
      refine gx_bE e (fun _ g10 e => ?_)
      refine gx_iE e (fun c11 e => ?_) (fun c11 e => ?_)
      · refine gy_if_lt (tgt := 30) (gi_rgS g10) dX4_symbol_13 (by decide) (fun _ => ?_) (fun z => absurd c11 z)
        exact zb_X4_symbol_30  e
      · refine gy_if_lt (tgt := 30) (gi_rgS g10) dX4_symbol_13 (by decide) (fun z => absurd z c11) (fun _ => ?_)
        refine gx_iload_n dX4_symbol_16 rfl 2 rfl ?_
        refine gx_aload_n dX4_symbol_17 rfl 0 rfl ?_
        refine gx_bE e (fun t12 ht12 e => ?_)
        refine gy_fR ht12 dX4_symbol_18 gf_RX4_18_3_2 (by decide) gkN_3_2 gkR_3_2 ?_
        refine gx_iload_n dX4_symbol_21 rfl 1 rfl ?_
        refine gx_bE e (fun t13 ht13 e => ?_)
        refine gy_l1 ht13 dX4_symbol_22 ?_
        refine gx_bE e (fun _ g14 e => ?_)
        refine gx_iE e (fun c15 e => ?_) (fun c15 e => ?_)
        · refine gy_icmp_ge (tgt := 30) (gi_rgS g10) (gi_rgS g14) dX4_symbol_23 (by decide) (fun _ => ?_) (fun z => absurd c15 z)
          exact zb_X4_symbol_30  e
        · refine gy_icmp_ge (tgt := 30) (gi_rgS g10) (gi_rgS g14) dX4_symbol_23 (by decide) (fun z => absurd z c15) (fun _ => ?_)
          refine gy_iconst dX4_symbol_26 ?_
          refine gx_goto (tgt := 31) dX4_symbol_27 (by decide) ?_
          exact zb_X4_symbol_31  e
/-! X11_isNonterminal  -/
set_option maxRecDepth 100000 in
def b_X11_isNonterminal_16    (h : gi_H) : Option (Int) :=
  some (0 : Int)
set_option maxRecDepth 100000 in
theorem zb_X11_isNonterminal_16 {al : Bool}  {res : Int}    {h : gi_H} (e : b_X11_isNonterminal_16  h = some res) : gx_Z mX11_isNonterminal al al 0 0 16 [] [] (gi_cv h) (.inl (some (.int (gI res)))) (gi_cv h) := by
  refine gy_iconst dX11_isNonterminal_16 ?_
  cases e
  exact gx_zret (by decide +kernel) dX11_isNonterminal_17 rfl ⟨Nat.le_of_ble_eq_true rfl, Nat.le_of_ble_eq_true rfl⟩ (fun z => z)
set_option maxRecDepth 100000 in
def f_X11_isNonterminal (v0 : Int) (h : gi_H) : Option (Int) :=
  Option.bind (gi_rg v0) fun _ => if v0 < (16 : Int) then (b_X11_isNonterminal_16   h) else (if (32 : Int) ≤ v0 then (b_X11_isNonterminal_16   h) else (some (1 : Int)))
set_option maxRecDepth 100000 in
theorem z_X11_isNonterminal {al : Bool} {v0 : Int} {h : gi_H} {res : Int} (e : f_X11_isNonterminal v0 h = some res) : gx_Cw mX11_isNonterminal al [.int (gI v0)] (gi_cv h) (.inl (some (.int (gI res)))) (gi_cv h) := by
  refine gx_enter (by decide +kernel) rfl (Nat.le_of_ble_eq_true rfl) ?_
  show gx_Z mX11_isNonterminal al al 0 0 0 [(0, .int (gI v0))] [] (gi_cv h) (.inl (some (.int (gI res)))) (gi_cv h)
  refine gx_iload_n dX11_isNonterminal_0 rfl 0 rfl ?_
  refine gy_bipush dX11_isNonterminal_1 gcb_16 ?_
  refine gx_bE e (fun _ g1 e => ?_)
  refine gx_iE e (fun c2 e => ?_) (fun c2 e => ?_)
  · refine gy_icmp_lt (tgt := 16) (gi_rgS g1) (by decide) dX11_isNonterminal_3 (by decide) (fun _ => ?_) (fun z => absurd c2 z)
    refine gx_sub (ls2 := []) [] rfl ?_
    exact zb_X11_isNonterminal_16  e
  · refine gy_icmp_lt (tgt := 16) (gi_rgS g1) (by decide) dX11_isNonterminal_3 (by decide) (fun z => absurd z c2) (fun _ => ?_)
    refine gx_iload_n dX11_isNonterminal_6 rfl 0 rfl ?_
    refine gy_bipush dX11_isNonterminal_7 gcb_32 ?_
    refine gx_iE e (fun c3 e => ?_) (fun c3 e => ?_)
    · refine gy_icmp_ge (tgt := 16) (gi_rgS g1) (by decide) dX11_isNonterminal_9 (by decide) (fun _ => ?_) (fun z => absurd c3 z)
      refine gx_sub (ls2 := []) [] rfl ?_
      exact zb_X11_isNonterminal_16  e
    · refine gy_icmp_ge (tgt := 16) (gi_rgS g1) (by decide) dX11_isNonterminal_9 (by decide) (fun z => absurd z c3) (fun _ => ?_)
      refine gy_iconst dX11_isNonterminal_12 ?_
      refine gx_goto (tgt := 17) dX11_isNonterminal_13 (by decide) ?_
      cases e
      exact gx_zret (by decide +kernel) dX11_isNonterminal_17 rfl ⟨Nat.le_of_ble_eq_true rfl, Nat.le_of_ble_eq_true rfl⟩ (fun z => z)
/-! X11_has  -/
set_option maxRecDepth 100000 in
def f_X11_has (v0 : Int) (v1 : Int) (h : gi_H) : Option (Int) :=
  Option.bind (gi_rg (gi_and (gi_shr v0 v1) (1 : Int))) fun _ => if (gi_and (gi_shr v0 v1) (1 : Int)) = 0 then (some (0 : Int)) else (some (1 : Int))
set_option maxRecDepth 100000 in
theorem z_X11_has {al : Bool} {v0 : Int} {v1 : Int} {h : gi_H} {res : Int} (e : f_X11_has v0 v1 h = some res) : gx_Cw mX11_has al [.int (gI v0), .int (gI v1)] (gi_cv h) (.inl (some (.int (gI res)))) (gi_cv h) := by
  refine gx_enter (by decide +kernel) rfl (Nat.le_of_ble_eq_true rfl) ?_
  show gx_Z mX11_has al al 0 0 0 [(0, .int (gI v0)), (1, .int (gI v1))] [] (gi_cv h) (.inl (some (.int (gI res)))) (gi_cv h)
  refine gx_iload_n dX11_has_0 rfl 0 rfl ?_
  refine gx_iload_n dX11_has_1 rfl 1 rfl ?_
  refine gy_ishr dX11_has_2 ?_
  refine gy_iconst dX11_has_3 ?_
  refine gy_iand dX11_has_4 ?_
  refine gx_bE e (fun _ g1 e => ?_)
  refine gx_iE e (fun c2 e => ?_) (fun c2 e => ?_)
  · refine gy_if_eq (tgt := 12) (gi_rgS g1) dX11_has_5 (by decide) (fun _ => ?_) (fun z => absurd c2 z)
    refine gy_iconst dX11_has_12 ?_
    cases e
    exact gx_zret (by decide +kernel) dX11_has_13 rfl ⟨Nat.le_of_ble_eq_true rfl, Nat.le_of_ble_eq_true rfl⟩ (fun z => z)
  · refine gy_if_eq (tgt := 12) (gi_rgS g1) dX11_has_5 (by decide) (fun z => absurd z c2) (fun _ => ?_)
    refine gy_iconst dX11_has_8 ?_
    refine gx_goto (tgt := 13) dX11_has_9 (by decide) ?_
    cases e
    exact gx_zret (by decide +kernel) dX11_has_13 rfl ⟨Nat.le_of_ble_eq_true rfl, Nat.le_of_ble_eq_true rfl⟩ (fun z => z)
/-! X4_freeHelper  -/
set_option maxRecDepth 100000 in
def b_X4_freeHelper_74 (n : Nat) (r74 : Int → Int → gi_H → Option (Int)) (v1 : Int) (v2 : Int)  (h : gi_H) : Option (Int) :=
  Option.bind (gi_rg v2) fun _ => if (16 : Int) ≤ v2 then (some (-1 : Int)) else (Option.bind (f_X11_has v1 v2 h) fun q7 => Option.bind (gi_rg q7) fun _ => if q7 = 0 then (some v2) else (gx_nm (v2 + (1 : Int)) fun t10 => r74 v1 t10 h))
set_option maxRecDepth 100000 in
theorem zb_X4_freeHelper_74 {al : Bool} {n : Nat} {r74 : Int → Int → gi_H → Option (Int)} {res : Int} (hr74 : ∀ (x1 : Int) (x2 : Int) (hh : gi_H), r74 x1 x2 hh = some res → gx_Z mX4_freeHelper al al 0 0 74 [(1, .int (gI x1)), (2, .int (gI x2))] [] (gi_cv hh) (.inl (some (.int (gI res)))) (gi_cv hh)) {v1 : Int} {v2 : Int}  {h : gi_H} (e : b_X4_freeHelper_74 n r74 v1 v2 h = some res) : gx_Z mX4_freeHelper al al 0 0 74 [(1, .int (gI v1)), (2, .int (gI v2))] [] (gi_cv h) (.inl (some (.int (gI res)))) (gi_cv h) := by
  refine gx_iload_n dX4_freeHelper_74 rfl 1 rfl ?_
  refine gy_bipush dX4_freeHelper_75 gcb_16 ?_
  refine gx_bE e (fun _ g5 e => ?_)
  refine gx_iE e (fun c6 e => ?_) (fun c6 e => ?_)
  · refine gy_icmp_ge (tgt := 96) (gi_rgS g5) (by decide) dX4_freeHelper_77 (by decide) (fun _ => ?_) (fun z => absurd c6 z)
    refine gy_iconst dX4_freeHelper_96 ?_
    cases e
    exact gx_iret dX4_freeHelper_97 rfl ⟨Nat.le_of_ble_eq_true rfl, Nat.le_of_ble_eq_true rfl⟩ (fun z => z)
  · refine gy_icmp_ge (tgt := 96) (gi_rgS g5) (by decide) dX4_freeHelper_77 (by decide) (fun z => absurd z c6) (fun _ => ?_)
    refine gx_iload_n dX4_freeHelper_80 rfl 0 rfl ?_
    refine gx_iload_n dX4_freeHelper_81 rfl 1 rfl ?_
    refine gx_bE e (fun q7 hq7 e => ?_)
    refine gx_callSN (n := 2) (st := []) (As := [.int (gI v1), .int (gI v2)]) dX4_freeHelper_82 (z_X11_has hq7) rfl ⟨rfl, gw_cw_X11_has, gw_1, gp_X11_has, ⟨Nat.le_of_ble_eq_true rfl, Nat.le_of_ble_eq_true rfl⟩⟩ (host := "Grammarsmith") (by decide +kernel) gw_460 ⟨Nat.le_of_ble_eq_true rfl, Nat.le_of_ble_eq_true rfl⟩ (Nat.le_of_ble_eq_true rfl) (gy_k1 (x := .int (gI q7)) (kc2 := 0) (ks2 := 0) ⟨rfl, rfl⟩ ?_) gy_kn
    refine gx_bE e (fun _ g8 e => ?_)
    refine gx_iE e (fun c9 e => ?_) (fun c9 e => ?_)
    · refine gy_if_ne (tgt := 90) (gi_rgS g8) dX4_freeHelper_85 (by decide) (fun z => absurd c9 z) (fun _ => ?_)
      refine gx_iload_n dX4_freeHelper_88 rfl 1 rfl ?_
      cases e
      exact gx_iret dX4_freeHelper_89 rfl ⟨Nat.le_of_ble_eq_true rfl, Nat.le_of_ble_eq_true rfl⟩ (fun z => z)
    · refine gy_if_ne (tgt := 90) (gi_rgS g8) dX4_freeHelper_85 (by decide) (fun _ => ?_) (fun z => absurd z c9)
      refine gx_nE e (fun t10 ht10 e => ?_)
      refine gy_iinc (v := t10) (ls2 := [(2, .int (gI t10)), (1, .int (gI v1))]) dX4_freeHelper_90 1 rfl ht10 (Nat.le_of_ble_eq_true rfl) rfl ?_
      refine gx_goto (tgt := 74) dX4_freeHelper_93 (by decide) ?_
      refine gx_sub (ls2 := [(1, .int (gI v1)), (2, .int (gI t10))]) [1, 0] rfl ?_
      exact hr74 _ _ _ e
def l_X4_freeHelper_74 (n : Nat)  : Nat → Int → Int → gi_H → Option (Int)
  | 0, _, _, _ => none
  | k + 1, v1, v2, h => b_X4_freeHelper_74 n  (l_X4_freeHelper_74 n  k) v1 v2 h
theorem zl_X4_freeHelper_74 {al : Bool} {n : Nat}  {res : Int}  : ∀ (k : Nat) (v1 : Int) (v2 : Int) (h : gi_H), l_X4_freeHelper_74 n  k v1 v2 h = some res → gx_Z mX4_freeHelper al al 0 0 74 [(1, .int (gI v1)), (2, .int (gI v2))] [] (gi_cv h) (.inl (some (.int (gI res)))) (gi_cv h)
  | 0, _, _, _, e => gx_0E e
  | k + 1, _, _, _, e => zb_X4_freeHelper_74 (n := n)  (zl_X4_freeHelper_74  k) e
set_option maxRecDepth 100000 in
def b_X4_freeHelper_71 (n : Nat)  (v1 : Int)  (h : gi_H) : Option (Int) :=
  l_X4_freeHelper_74 n  n v1 (8 : Int) h
set_option maxRecDepth 100000 in
theorem zb_X4_freeHelper_71 {al : Bool} {n : Nat}  {res : Int}  {v1 : Int}  {h : gi_H} (e : b_X4_freeHelper_71 n v1 h = some res) : gx_Z mX4_freeHelper al al 0 0 71 [(1, .int (gI v1))] [] (gi_cv h) (.inl (some (.int (gI res)))) (gi_cv h) := by
  refine gy_bipush dX4_freeHelper_71 gcb_8 ?_
  refine gx_istore_n (ls2 := [(2, .int (gI (8 : Int))), (1, .int (gI v1))]) dX4_freeHelper_73 rfl (Nat.le_of_ble_eq_true rfl) rfl ?_
  refine gx_sub (ls2 := [(1, .int (gI v1)), (2, .int (gI (8 : Int)))]) [1, 0] rfl ?_
  exact zl_X4_freeHelper_74  n _ _ _ e
set_option maxRecDepth 100000 in
def b_X4_freeHelper_65 (n : Nat) (r4 : Nat → Int → Int → gi_H → Option (Int)) (v0 : Nat) (v1 : Int) (v2 : Int)  (h : gi_H) : Option (Int) :=
  gx_nm (v2 + (1 : Int)) fun t19 => r4 v0 v1 t19 h
set_option maxRecDepth 100000 in
theorem zb_X4_freeHelper_65 {al : Bool} {n : Nat} {r4 : Nat → Int → Int → gi_H → Option (Int)} {res : Int} (hr4 : ∀ (x0 : Nat) (x1 : Int) (x2 : Int) (hh : gi_H), r4 x0 x1 x2 hh = some res → gx_Z mX4_freeHelper al al 0 0 4 [(0, .ref x0), (1, .int (gI x1)), (2, .int (gI x2))] [] (gi_cv hh) (.inl (some (.int (gI res)))) (gi_cv hh)) {v0 : Nat} {v1 : Int} {v2 : Int}  {h : gi_H} (e : b_X4_freeHelper_65 n r4 v0 v1 v2 h = some res) : gx_Z mX4_freeHelper al al 0 0 65 [(0, .ref v0), (1, .int (gI v1)), (2, .int (gI v2))] [] (gi_cv h) (.inl (some (.int (gI res)))) (gi_cv h) := by
  refine gx_nE e (fun t19 ht19 e => ?_)
  refine gy_iinc (v := t19) (ls2 := [(2, .int (gI t19)), (0, .ref v0), (1, .int (gI v1))]) dX4_freeHelper_65 2 rfl ht19 (Nat.le_of_ble_eq_true rfl) rfl ?_
  refine gx_goto (tgt := 4) dX4_freeHelper_68 (by decide) ?_
  refine gx_sub (ls2 := [(0, .ref v0), (1, .int (gI v1)), (2, .int (gI t19))]) [1, 2, 0] rfl ?_
  exact hr4 _ _ _ _ e
set_option maxRecDepth 100000 in
def b_X4_freeHelper_59 (n : Nat) (r4 : Nat → Int → Int → gi_H → Option (Int)) (r24 : Nat → Int → Int → Int → gi_H → Option (Int)) (v0 : Nat) (v1 : Int) (v2 : Int) (v3 : Int)  (h : gi_H) : Option (Int) :=
  gx_nm (v3 + (1 : Int)) fun t25 => r24 v0 v1 v2 t25 h
set_option maxRecDepth 100000 in
theorem zb_X4_freeHelper_59 {al : Bool} {n : Nat} {r4 : Nat → Int → Int → gi_H → Option (Int)} {r24 : Nat → Int → Int → Int → gi_H → Option (Int)} {res : Int} (hr4 : ∀ (x0 : Nat) (x1 : Int) (x2 : Int) (hh : gi_H), r4 x0 x1 x2 hh = some res → gx_Z mX4_freeHelper al al 0 0 4 [(0, .ref x0), (1, .int (gI x1)), (2, .int (gI x2))] [] (gi_cv hh) (.inl (some (.int (gI res)))) (gi_cv hh)) (hr24 : ∀ (x0 : Nat) (x1 : Int) (x2 : Int) (x3 : Int) (hh : gi_H), r24 x0 x1 x2 x3 hh = some res → gx_Z mX4_freeHelper al al 0 0 24 [(0, .ref x0), (1, .int (gI x1)), (2, .int (gI x2)), (3, .int (gI x3))] [] (gi_cv hh) (.inl (some (.int (gI res)))) (gi_cv hh)) {v0 : Nat} {v1 : Int} {v2 : Int} {v3 : Int}  {h : gi_H} (e : b_X4_freeHelper_59 n r4 r24 v0 v1 v2 v3 h = some res) : gx_Z mX4_freeHelper al al 0 0 59 [(0, .ref v0), (1, .int (gI v1)), (2, .int (gI v2)), (3, .int (gI v3))] [] (gi_cv h) (.inl (some (.int (gI res)))) (gi_cv h) := by
  refine gx_nE e (fun t25 ht25 e => ?_)
  refine gy_iinc (v := t25) (ls2 := [(3, .int (gI t25)), (0, .ref v0), (1, .int (gI v1)), (2, .int (gI v2))]) dX4_freeHelper_59 3 rfl ht25 (Nat.le_of_ble_eq_true rfl) rfl ?_
  refine gx_goto (tgt := 24) dX4_freeHelper_62 (by decide) ?_
  refine gx_sub (ls2 := [(0, .ref v0), (1, .int (gI v1)), (2, .int (gI v2)), (3, .int (gI t25))]) [1, 2, 3, 0] rfl ?_
  exact hr24 _ _ _ _ _ e
set_option maxRecDepth 100000 in
def b_X4_freeHelper_24 (n : Nat) (r4 : Nat → Int → Int → gi_H → Option (Int)) (r24 : Nat → Int → Int → Int → gi_H → Option (Int)) (v0 : Nat) (v1 : Int) (v2 : Int) (v3 : Int)  (h : gi_H) : Option (Int) :=
  Option.bind (gi_is h v0 3) fun _ => Option.bind (f_X4_length v0 v2 h) fun q15 => Option.bind (gi_rg v3) fun _ => Option.bind (gi_rg q15) fun _ => if q15 ≤ v3 then (b_X4_freeHelper_65 n r4 v0 v1 v2 h) else (Option.bind (gi_is h v0 3) fun _ => Option.bind (f_X4_symbol v0 v2 v3 h) fun q21 => Option.bind (f_X11_isNonterminal q21 h) fun q22 => Option.bind (gi_rg q22) fun _ => if q22 = 0 then (b_X4_freeHelper_59 n r4 r24 v0 v1 v2 v3 h) else (gx_nm (gi_or v1 (gi_shl (1 : Int) (q21 - (16 : Int)))) fun t26 => b_X4_freeHelper_59 n r4 r24 v0 t26 v2 v3 h))
set_option maxRecDepth 100000 in
theorem zb_X4_freeHelper_24 {al : Bool} {n : Nat} {r4 : Nat → Int → Int → gi_H → Option (Int)} {r24 : Nat → Int → Int → Int → gi_H → Option (Int)} {res : Int} (hr4 : ∀ (x0 : Nat) (x1 : Int) (x2 : Int) (hh : gi_H), r4 x0 x1 x2 hh = some res → gx_Z mX4_freeHelper al al 0 0 4 [(0, .ref x0), (1, .int (gI x1)), (2, .int (gI x2))] [] (gi_cv hh) (.inl (some (.int (gI res)))) (gi_cv hh)) (hr24 : ∀ (x0 : Nat) (x1 : Int) (x2 : Int) (x3 : Int) (hh : gi_H), r24 x0 x1 x2 x3 hh = some res → gx_Z mX4_freeHelper al al 0 0 24 [(0, .ref x0), (1, .int (gI x1)), (2, .int (gI x2)), (3, .int (gI x3))] [] (gi_cv hh) (.inl (some (.int (gI res)))) (gi_cv hh)) {v0 : Nat} {v1 : Int} {v2 : Int} {v3 : Int}  {h : gi_H} (e : b_X4_freeHelper_24 n r4 r24 v0 v1 v2 v3 h = some res) : gx_Z mX4_freeHelper al al 0 0 24 [(0, .ref v0), (1, .int (gI v1)), (2, .int (gI v2)), (3, .int (gI v3))] [] (gi_cv h) (.inl (some (.int (gI res)))) (gi_cv h) := by
  refine gx_iload_n dX4_freeHelper_24 rfl 3 rfl ?_
  refine gx_aload_n dX4_freeHelper_25 rfl 0 rfl ?_
  refine gx_iload_n dX4_freeHelper_26 rfl 2 rfl ?_
  refine gx_bE e (fun _ hu14 e => ?_)
  refine gx_bE e (fun q15 hq15 e => ?_)
  refine gx_callV (n := 1) (st := [.int (gI v3)]) (As := [.int (gI v2)]) (b := v0) dX4_freeHelper_27 (z_X4_length hq15) rfl ⟨rfl, gw_cw_X4_length, gw_3, gp_X4_length, ⟨Nat.le_of_ble_eq_true rfl, Nat.le_of_ble_eq_true rfl⟩⟩ (gi_isS hu14) (by decide) gw_788 gw_411 gw_412 rfl ⟨Nat.le_of_ble_eq_true rfl, Nat.le_of_ble_eq_true rfl⟩ (Nat.le_of_ble_eq_true rfl) (gy_k1 (x := .int (gI q15)) (kc2 := 0) (ks2 := 0) ⟨rfl, rfl⟩ ?_) gy_kn
  refine gx_bE e (fun _ g16 e => ?_)
  refine gx_bE e (fun _ g17 e => ?_)
  refine gx_iE e (fun c18 e => ?_) (fun c18 e => ?_)
  · refine gy_icmp_ge (tgt := 65) (gi_rgS g16) (gi_rgS g17) dX4_freeHelper_30 (by decide) (fun _ => ?_) (fun z => absurd c18 z)
    refine gx_sub (ls2 := [(0, .ref v0), (1, .int (gI v1)), (2, .int (gI v2))]) [0, 1, 2] rfl ?_
    exact zb_X4_freeHelper_65 hr4 e
  · refine gy_icmp_ge (tgt := 65) (gi_rgS g16) (gi_rgS g17) dX4_freeHelper_30 (by decide) (fun z => absurd z c18) (fun _ => ?_)
    refine gx_aload_n dX4_freeHelper_33 rfl 0 rfl ?_
    refine gx_iload_n dX4_freeHelper_34 rfl 2 rfl ?_
    refine gx_iload_n dX4_freeHelper_35 rfl 3 rfl ?_
    refine gx_bE e (fun _ hu20 e => ?_)
    refine gx_bE e (fun q21 hq21 e => ?_)
    refine gx_callV (n := 2) (st := []) (As := [.int (gI v2), .int (gI v3)]) (b := v0) dX4_freeHelper_36 (z_X4_symbol hq21) rfl ⟨rfl, gw_cw_X4_symbol, gw_3, gp_X4_symbol, ⟨Nat.le_of_ble_eq_true rfl, Nat.le_of_ble_eq_true rfl⟩⟩ (gi_isS hu20) (by decide) gw_789 gw_415 gw_416 rfl ⟨Nat.le_of_ble_eq_true rfl, Nat.le_of_ble_eq_true rfl⟩ (Nat.le_of_ble_eq_true rfl) (gy_k1 (x := .int (gI q21)) (kc2 := 0) (ks2 := 0) ⟨rfl, rfl⟩ ?_) gy_kn
    refine gx_istore (ls2 := [(4, .int (gI q21)), (0, .ref v0), (1, .int (gI v1)), (2, .int (gI v2)), (3, .int (gI v3))]) dX4_freeHelper_39 (Nat.le_of_ble_eq_true rfl) rfl ?_
    refine gx_iload dX4_freeHelper_41 0 rfl ?_
    refine gx_bE e (fun q22 hq22 e => ?_)
    refine gx_callSN (n := 1) (st := []) (As := [.int (gI q21)]) dX4_freeHelper_43 (z_X11_isNonterminal hq22) rfl ⟨rfl, gw_cw_X11_isNonterminal, gw_1, gp_X11_isNonterminal, ⟨Nat.le_of_ble_eq_true rfl, Nat.le_of_ble_eq_true rfl⟩⟩ (host := "Grammarsmith") (by decide +kernel) gw_438 ⟨Nat.le_of_ble_eq_true rfl, Nat.le_of_ble_eq_true rfl⟩ (Nat.le_of_ble_eq_true rfl) (gy_k1 (x := .int (gI q22)) (kc2 := 0) (ks2 := 0) ⟨rfl, rfl⟩ ?_) gy_kn
    refine gx_bE e (fun _ g23 e => ?_)
    refine gx_iE e (fun c24 e => ?_) (fun c24 e => ?_)
    · refine gy_if_eq (tgt := 59) (gi_rgS g23) dX4_freeHelper_46 (by decide) (fun _ => ?_) (fun z => absurd c24 z)
      refine gx_sub (ls2 := [(0, .ref v0), (1, .int (gI v1)), (2, .int (gI v2)), (3, .int (gI v3))]) [1, 2, 3, 4] rfl ?_
      exact zb_X4_freeHelper_59 hr4 hr24 e
    · refine gy_if_eq (tgt := 59) (gi_rgS g23) dX4_freeHelper_46 (by decide) (fun z => absurd z c24) (fun _ => ?_)
      refine gx_iload_n dX4_freeHelper_49 rfl 2 rfl ?_
      refine gy_iconst dX4_freeHelper_50 ?_
      refine gx_iload dX4_freeHelper_51 0 rfl ?_
      refine gy_bipush dX4_freeHelper_53 gcb_16 ?_
      refine gy_isub dX4_freeHelper_55 ?_
      refine gy_ishl dX4_freeHelper_56 ?_
      refine gy_ior dX4_freeHelper_57 ?_
      refine gx_nE e (fun t26 ht26 e => ?_)
      rw [ht26]
      refine gx_istore_n (ls2 := [(1, .int (gI t26)), (4, .int (gI q21)), (0, .ref v0), (2, .int (gI v2)), (3, .int (gI v3))]) dX4_freeHelper_58 rfl (Nat.le_of_ble_eq_true rfl) rfl ?_
      refine gx_sub (ls2 := [(0, .ref v0), (1, .int (gI t26)), (2, .int (gI v2)), (3, .int (gI v3))]) [2, 0, 3, 4] rfl ?_
      exact zb_X4_freeHelper_59 hr4 hr24 e
def l_X4_freeHelper_24 (n : Nat) (r4 : Nat → Int → Int → gi_H → Option (Int)) : Nat → Nat → Int → Int → Int → gi_H → Option (Int)
  | 0, _, _, _, _, _ => none
  | k + 1, v0, v1, v2, v3, h => b_X4_freeHelper_24 n r4 (l_X4_freeHelper_24 n r4 k) v0 v1 v2 v3 h
theorem zl_X4_freeHelper_24 {al : Bool} {n : Nat} {r4 : Nat → Int → Int → gi_H → Option (Int)} {res : Int} (hr4 : ∀ (x0 : Nat) (x1 : Int) (x2 : Int) (hh : gi_H), r4 x0 x1 x2 hh = some res → gx_Z mX4_freeHelper al al 0 0 4 [(0, .ref x0), (1, .int (gI x1)), (2, .int (gI x2))] [] (gi_cv hh) (.inl (some (.int (gI res)))) (gi_cv hh)) : ∀ (k : Nat) (v0 : Nat) (v1 : Int) (v2 : Int) (v3 : Int) (h : gi_H), l_X4_freeHelper_24 n r4 k v0 v1 v2 v3 h = some res → gx_Z mX4_freeHelper al al 0 0 24 [(0, .ref v0), (1, .int (gI v1)), (2, .int (gI v2)), (3, .int (gI v3))] [] (gi_cv h) (.inl (some (.int (gI res)))) (gi_cv h)
  | 0, _, _, _, _, _, e => gx_0E e
  | k + 1, _, _, _, _, _, e => zb_X4_freeHelper_24 (n := n) hr4 (zl_X4_freeHelper_24 hr4 k) e
set_option maxRecDepth 100000 in
def b_X4_freeHelper_4 (n : Nat) (r4 : Nat → Int → Int → gi_H → Option (Int)) (v0 : Nat) (v1 : Int) (v2 : Int)  (h : gi_H) : Option (Int) :=
  Option.bind (gi_gI h v0 3 3) fun t1 => Option.bind (gi_rg v2) fun _ => Option.bind (gi_rg t1) fun _ => if t1 ≤ v2 then (b_X4_freeHelper_71 n  v1 h) else (Option.bind (gi_is h v0 3) fun _ => Option.bind (f_X4_owner v0 v2 h) fun q12 => gx_nm (gi_or v1 (gi_shl (1 : Int) q12)) fun t13 => l_X4_freeHelper_24 n r4 n v0 t13 v2 (0 : Int) h)
set_option maxRecDepth 100000 in
theorem zb_X4_freeHelper_4 {al : Bool} {n : Nat} {r4 : Nat → Int → Int → gi_H → Option (Int)} {res : Int} (hr4 : ∀ (x0 : Nat) (x1 : Int) (x2 : Int) (hh : gi_H), r4 x0 x1 x2 hh = some res → gx_Z mX4_freeHelper al al 0 0 4 [(0, .ref x0), (1, .int (gI x1)), (2, .int (gI x2))] [] (gi_cv hh) (.inl (some (.int (gI res)))) (gi_cv hh)) {v0 : Nat} {v1 : Int} {v2 : Int}  {h : gi_H} (e : b_X4_freeHelper_4 n r4 v0 v1 v2 h = some res) : gx_Z mX4_freeHelper al al 0 0 4 [(0, .ref v0), (1, .int (gI v1)), (2, .int (gI v2))] [] (gi_cv h) (.inl (some (.int (gI res)))) (gi_cv h) := by
  refine gx_iload_n dX4_freeHelper_4 rfl 2 rfl ?_
  refine gx_aload_n dX4_freeHelper_5 rfl 0 rfl ?_
  refine gx_bE e (fun t1 ht1 e => ?_)
  refine gy_fI ht1 dX4_freeHelper_6 gf_RX4_42_3_3 (by decide) gkN_3_3 gkR_3_3 ?_
  refine gx_bE e (fun _ g2 e => ?_)
  refine gx_bE e (fun _ g3 e => ?_)
  refine gx_iE e (fun c4 e => ?_) (fun c4 e => ?_)
  · refine gy_icmp_ge (tgt := 71) (gi_rgS g2) (gi_rgS g3) dX4_freeHelper_9 (by decide) (fun _ => ?_) (fun z => absurd c4 z)
    refine gx_sub (ls2 := [(1, .int (gI v1))]) [1] rfl ?_
    exact zb_X4_freeHelper_71  e
  · refine gy_icmp_ge (tgt := 71) (gi_rgS g2) (gi_rgS g3) dX4_freeHelper_9 (by decide) (fun z => absurd z c4) (fun _ => ?_)
    refine gx_iload_n dX4_freeHelper_12 rfl 1 rfl ?_
    refine gy_iconst dX4_freeHelper_13 ?_
    refine gx_aload_n dX4_freeHelper_14 rfl 0 rfl ?_
    refine gx_iload_n dX4_freeHelper_15 rfl 2 rfl ?_
    refine gx_bE e (fun _ hu11 e => ?_)
    refine gx_bE e (fun q12 hq12 e => ?_)
    refine gx_callV (n := 1) (st := [.int (gI (1 : Int)), .int (gI v1)]) (As := [.int (gI v2)]) (b := v0) dX4_freeHelper_16 (z_X4_owner hq12) rfl ⟨rfl, gw_cw_X4_owner, gw_3, gp_X4_owner, ⟨Nat.le_of_ble_eq_true rfl, Nat.le_of_ble_eq_true rfl⟩⟩ (gi_isS hu11) (by decide) gw_787 gw_403 gw_404 rfl ⟨Nat.le_of_ble_eq_true rfl, Nat.le_of_ble_eq_true rfl⟩ (Nat.le_of_ble_eq_true rfl) (gy_k1 (x := .int (gI q12)) (kc2 := 0) (ks2 := 0) ⟨rfl, rfl⟩ ?_) gy_kn
    refine gy_ishl dX4_freeHelper_19 ?_
    refine gy_ior dX4_freeHelper_20 ?_
    refine gx_nE e (fun t13 ht13 e => ?_)
    rw [ht13]
    refine gx_istore_n (ls2 := [(1, .int (gI t13)), (0, .ref v0), (2, .int (gI v2))]) dX4_freeHelper_21 rfl (Nat.le_of_ble_eq_true rfl) rfl ?_
    refine gy_iconst dX4_freeHelper_22 ?_
    refine gx_istore_n (ls2 := [(3, .int (gI (0 : Int))), (1, .int (gI t13)), (0, .ref v0), (2, .int (gI v2))]) dX4_freeHelper_23 rfl (Nat.le_of_ble_eq_true rfl) rfl ?_
    refine gx_sub (ls2 := [(0, .ref v0), (1, .int (gI t13)), (2, .int (gI v2)), (3, .int (gI (0 : Int)))]) [2, 1, 3, 0] rfl ?_
    exact zl_X4_freeHelper_24 hr4 n _ _ _ _ _ e
def l_X4_freeHelper_4 (n : Nat)  : Nat → Nat → Int → Int → gi_H → Option (Int)
  | 0, _, _, _, _ => none
  | k + 1, v0, v1, v2, h => b_X4_freeHelper_4 n  (l_X4_freeHelper_4 n  k) v0 v1 v2 h
theorem zl_X4_freeHelper_4 {al : Bool} {n : Nat}  {res : Int}  : ∀ (k : Nat) (v0 : Nat) (v1 : Int) (v2 : Int) (h : gi_H), l_X4_freeHelper_4 n  k v0 v1 v2 h = some res → gx_Z mX4_freeHelper al al 0 0 4 [(0, .ref v0), (1, .int (gI v1)), (2, .int (gI v2))] [] (gi_cv h) (.inl (some (.int (gI res)))) (gi_cv h)
  | 0, _, _, _, _, e => gx_0E e
  | k + 1, _, _, _, _, e => zb_X4_freeHelper_4 (n := n)  (zl_X4_freeHelper_4  k) e
set_option maxRecDepth 100000 in
def f_X4_freeHelper (n : Nat) (v0 : Nat) (h : gi_H) : Option (Int) :=
  l_X4_freeHelper_4 n  n v0 (0 : Int) (0 : Int) h
set_option maxRecDepth 100000 in
theorem z_X4_freeHelper {al : Bool} {n : Nat} {v0 : Nat} {h : gi_H} {res : Int} (e : f_X4_freeHelper n v0 h = some res) : gx_Cw mX4_freeHelper al [.ref v0] (gi_cv h) (.inl (some (.int (gI res)))) (gi_cv h) := by
  refine gx_enter (by decide +kernel) rfl (Nat.le_of_ble_eq_true rfl) ?_
  show gx_Z mX4_freeHelper al al 0 0 0 [(0, .ref v0)] [] (gi_cv h) (.inl (some (.int (gI res)))) (gi_cv h)
  refine gy_iconst dX4_freeHelper_0 ?_
  refine gx_istore_n (ls2 := [(1, .int (gI (0 : Int))), (0, .ref v0)]) dX4_freeHelper_1 rfl (Nat.le_of_ble_eq_true rfl) rfl ?_
  refine gy_iconst dX4_freeHelper_2 ?_
  refine gx_istore_n (ls2 := [(2, .int (gI (0 : Int))), (1, .int (gI (0 : Int))), (0, .ref v0)]) dX4_freeHelper_3 rfl (Nat.le_of_ble_eq_true rfl) rfl ?_
  refine gx_sub (ls2 := [(0, .ref v0), (1, .int (gI (0 : Int))), (2, .int (gI (0 : Int)))]) [2, 1, 0] rfl ?_
  exact zl_X4_freeHelper_4  n _ _ _ _ e
/-! X4_open  -/
set_option maxRecDepth 100000 in
def f_X4_open (v0 : Nat) (v1 : Int) (h : gi_H) : Option (Int × gi_H) :=
  Option.bind (gi_gI h v0 3 3) fun t1 => Option.bind (gi_rg t1) fun _ => if t1 < 0 then (some ((0 : Int), h)) else (Option.bind (gi_gI h v0 3 3) fun t4 => Option.bind (gi_rg t4) fun _ => if (24 : Int) ≤ t4 then (some ((0 : Int), h)) else (Option.bind (gi_rg v1) fun _ => if v1 < 0 then (some ((0 : Int), h)) else (if v1 < (16 : Int) then (Option.bind (gi_gR h v0 3 0) fun t10 => Option.bind (gi_gI h v0 3 3) fun t11 => Option.bind (gi_s1 h t10 t11 v1) fun h12 => Option.bind (gi_gR h12 v0 3 2) fun t13 => Option.bind (gi_gI h12 v0 3 3) fun t14 => Option.bind (gi_s1 h12 t13 t14 (0 : Int)) fun h15 => Option.bind (gi_gI h15 v0 3 3) fun t16 => Option.bind (gi_pI h15 v0 3 3 (t16 + (1 : Int))) fun h17 => some ((1 : Int), h17)) else (some ((0 : Int), h)))))
set_option maxRecDepth 100000 in
theorem z_X4_open {al : Bool} {v0 : Nat} {v1 : Int} {h : gi_H} {res : Int} {h1 : gi_H} (e : f_X4_open v0 v1 h = some (res, h1)) : gx_Cw mX4_open al [.ref v0, .int (gI v1)] (gi_cv h) (.inl (some (.int (gI res)))) (gi_cv h1) := by
  refine gx_enter (by decide +kernel) rfl (Nat.le_of_ble_eq_true rfl) ?_
  show gx_Z mX4_open al al 0 0 0 [(0, .ref v0), (1, .int (gI v1))] [] (gi_cv h) (.inl (some (.int (gI res)))) (gi_cv h1)
  refine gx_aload_n dX4_open_0 rfl 0 rfl ?_
  refine gx_bE e (fun t1 ht1 e => ?_)
  refine gy_fI ht1 dX4_open_1 gf_RX4_42_3_3 (by decide) gkN_3_3 gkR_3_3 ?_
  refine gx_bE e (fun _ g2 e => ?_)
  refine gx_iE e (fun c3 e => ?_) (fun c3 e => ?_)
  · refine gy_if_lt (tgt := 26) (gi_rgS g2) dX4_open_4 (by decide) (fun _ => ?_) (fun z => absurd c3 z)
    refine gy_iconst dX4_open_26 ?_
    cases e
    exact gx_zret (by decide +kernel) dX4_open_27 rfl ⟨Nat.le_of_ble_eq_true rfl, Nat.le_of_ble_eq_true rfl⟩ (fun z => z)
  · refine gy_if_lt (tgt := 26) (gi_rgS g2) dX4_open_4 (by decide) (fun z => absurd z c3) (fun _ => ?_)
    refine gx_aload_n dX4_open_7 rfl 0 rfl ?_
    refine gx_bE e (fun t4 ht4 e => ?_)
    refine gy_fI ht4 dX4_open_8 gf_RX4_42_3_3 (by decide) gkN_3_3 gkR_3_3 ?_
    refine gy_bipush dX4_open_11 gcb_24 ?_
    refine gx_bE e (fun _ g5 e => ?_)
    refine gx_iE e (fun c6 e => ?_) (fun c6 e => ?_)
    · refine gy_icmp_ge (tgt := 26) (gi_rgS g5) (by decide) dX4_open_13 (by decide) (fun _ => ?_) (fun z => absurd c6 z)
      refine gy_iconst dX4_open_26 ?_
      cases e
      exact gx_zret (by decide +kernel) dX4_open_27 rfl ⟨Nat.le_of_ble_eq_true rfl, Nat.le_of_ble_eq_true rfl⟩ (fun z => z)
    · refine gy_icmp_ge (tgt := 26) (gi_rgS g5) (by decide) dX4_open_13 (by decide) (fun z => absurd z c6) (fun _ => ?_)
      refine gx_iload_n dX4_open_16 rfl 1 rfl ?_
      refine gx_bE e (fun _ g7 e => ?_)
      refine gx_iE e (fun c8 e => ?_) (fun c8 e => ?_)
      · refine gy_if_lt (tgt := 26) (gi_rgS g7) dX4_open_17 (by decide) (fun _ => ?_) (fun z => absurd c8 z)
        refine gy_iconst dX4_open_26 ?_
        cases e
        exact gx_zret (by decide +kernel) dX4_open_27 rfl ⟨Nat.le_of_ble_eq_true rfl, Nat.le_of_ble_eq_true rfl⟩ (fun z => z)
      · refine gy_if_lt (tgt := 26) (gi_rgS g7) dX4_open_17 (by decide) (fun z => absurd z c8) (fun _ => ?_)
        refine gx_iload_n dX4_open_20 rfl 1 rfl ?_
        refine gy_bipush dX4_open_21 gcb_16 ?_
        refine gx_iE e (fun c9 e => ?_) (fun c9 e => ?_)
        · refine gy_icmp_lt (tgt := 28) (gi_rgS g7) (by decide) dX4_open_23 (by decide) (fun _ => ?_) (fun z => absurd c9 z)
          refine gx_aload_n dX4_open_28 rfl 0 rfl ?_
          refine gx_bE e (fun t10 ht10 e => ?_)
          refine gy_fR ht10 dX4_open_29 gf_RX4_9_3_0 (by decide) gkN_3_0 gkR_3_0 ?_
          refine gx_aload_n dX4_open_32 rfl 0 rfl ?_
          refine gx_bE e (fun t11 ht11 e => ?_)
          refine gy_fI ht11 dX4_open_33 gf_RX4_42_3_3 (by decide) gkN_3_3 gkR_3_3 ?_
          refine gx_iload_n dX4_open_36 rfl 1 rfl ?_
          refine gx_bE e (fun h12 hh12 e => ?_)
          refine gy_t1 hh12 dX4_open_37 ?_
          refine gx_aload_n dX4_open_38 rfl 0 rfl ?_
          refine gx_bE e (fun t13 ht13 e => ?_)
          refine gy_fR ht13 dX4_open_39 gf_RX4_18_3_2 (by decide) gkN_3_2 gkR_3_2 ?_
          refine gx_aload_n dX4_open_42 rfl 0 rfl ?_
          refine gx_bE e (fun t14 ht14 e => ?_)
          refine gy_fI ht14 dX4_open_43 gf_RX4_42_3_3 (by decide) gkN_3_3 gkR_3_3 ?_
          refine gy_iconst dX4_open_46 ?_
          refine gx_bE e (fun h15 hh15 e => ?_)
          refine gy_t1 hh15 dX4_open_47 ?_
          refine gx_aload_n dX4_open_48 rfl 0 rfl ?_
          refine gx_dup dX4_open_49 rfl ?_
          refine gx_bE e (fun t16 ht16 e => ?_)
          refine gy_fI ht16 dX4_open_50 gf_RX4_42_3_3 (by decide) gkN_3_3 gkR_3_3 ?_
          refine gy_iconst dX4_open_53 ?_
          refine gy_iadd dX4_open_54 ?_
          refine gx_bE e (fun h17 hh17 e => ?_)
          refine gy_qI hh17 dX4_open_55 gf_RX4_42_3_3 (by decide) gkN_3_3 rfl (Or.inl rfl) ?_
          refine gy_iconst dX4_open_58 ?_
          cases e
          exact gx_zret (by decide +kernel) dX4_open_59 rfl ⟨Nat.le_of_ble_eq_true rfl, Nat.le_of_ble_eq_true rfl⟩ (fun z => z)
        · refine gy_icmp_lt (tgt := 28) (gi_rgS g7) (by decide) dX4_open_23 (by decide) (fun z => absurd z c9) (fun _ => ?_)
          refine gy_iconst dX4_open_26 ?_
          cases e
          exact gx_zret (by decide +kernel) dX4_open_27 rfl ⟨Nat.le_of_ble_eq_true rfl, Nat.le_of_ble_eq_true rfl⟩ (fun z => z)
/-! X4_extend  -/
set_option maxRecDepth 100000 in
def f_X4_extend (v0 : Nat) (v1 : Int) (h : gi_H) : Option (Int × gi_H) :=
  Option.bind (gi_gI h v0 3 3) fun t1 => gx_nm (t1 - (1 : Int)) fun t2 => Option.bind (gi_rg t2) fun _ => if t2 < 0 then (some ((0 : Int), h)) else (if (24 : Int) ≤ t2 then (some ((0 : Int), h)) else (Option.bind (gi_gR h v0 3 2) fun t6 => Option.bind (gi_aI h 1 t6 t2) fun t7 => Option.bind (gi_rg t7) fun _ => if t7 < (5 : Int) then (Option.bind (gi_gR h v0 3 1) fun t10 => Option.bind (gi_gR h v0 3 2) fun t11 => Option.bind (gi_aI h 1 t11 t2) fun t12 => Option.bind (gi_s1 h t10 ((t2 * (5 : Int)) + t12) v1) fun h13 => Option.bind (gi_gR h13 v0 3 2) fun t14 => Option.bind (gi_aI h13 1 t14 t2) fun t15 => Option.bind (gi_s1 h13 t14 t2 (t15 + (1 : Int))) fun h16 => some ((1 : Int), h16)) else (some ((0 : Int), h))))
set_option maxRecDepth 100000 in
theorem z_X4_extend {al : Bool} {v0 : Nat} {v1 : Int} {h : gi_H} {res : Int} {h1 : gi_H} (e : f_X4_extend v0 v1 h = some (res, h1)) : gx_Cw mX4_extend al [.ref v0, .int (gI v1)] (gi_cv h) (.inl (some (.int (gI res)))) (gi_cv h1) := by
  refine gx_enter (by decide +kernel) rfl (Nat.le_of_ble_eq_true rfl) ?_
  show gx_Z mX4_extend al al 0 0 0 [(0, .ref v0), (1, .int (gI v1))] [] (gi_cv h) (.inl (some (.int (gI res)))) (gi_cv h1)
  refine gx_aload_n dX4_extend_0 rfl 0 rfl ?_
  refine gx_bE e (fun t1 ht1 e => ?_)
  refine gy_fI ht1 dX4_extend_1 gf_RX4_42_3_3 (by decide) gkN_3_3 gkR_3_3 ?_
  refine gy_iconst dX4_extend_4 ?_
  refine gy_isub dX4_extend_5 ?_
  refine gx_nE e (fun t2 ht2 e => ?_)
  rw [ht2]
  refine gx_istore_n (ls2 := [(2, .int (gI t2)), (0, .ref v0), (1, .int (gI v1))]) dX4_extend_6 rfl (Nat.le_of_ble_eq_true rfl) rfl ?_
  refine gx_iload_n dX4_extend_7 rfl 0 rfl ?_
  refine gx_bE e (fun _ g3 e => ?_)
  refine gx_iE e (fun c4 e => ?_) (fun c4 e => ?_)
  · refine gy_if_lt (tgt := 27) (gi_rgS g3) dX4_extend_8 (by decide) (fun _ => ?_) (fun z => absurd c4 z)
    refine gy_iconst dX4_extend_27 ?_
    cases e
    exact gx_zret (by decide +kernel) dX4_extend_28 rfl ⟨Nat.le_of_ble_eq_true rfl, Nat.le_of_ble_eq_true rfl⟩ (fun z => z)
  · refine gy_if_lt (tgt := 27) (gi_rgS g3) dX4_extend_8 (by decide) (fun z => absurd z c4) (fun _ => ?_)
    refine gx_iload_n dX4_extend_11 rfl 0 rfl ?_
    refine gy_bipush dX4_extend_12 gcb_24 ?_
    refine gx_iE e (fun c5 e => ?_) (fun c5 e => ?_)
    · refine gy_icmp_ge (tgt := 27) (gi_rgS g3) (by decide) dX4_extend_14 (by decide) (fun _ => ?_) (fun z => absurd c5 z)
      refine gy_iconst dX4_extend_27 ?_
      cases e
      exact gx_zret (by decide +kernel) dX4_extend_28 rfl ⟨Nat.le_of_ble_eq_true rfl, Nat.le_of_ble_eq_true rfl⟩ (fun z => z)
    · refine gy_icmp_ge (tgt := 27) (gi_rgS g3) (by decide) dX4_extend_14 (by decide) (fun z => absurd z c5) (fun _ => ?_)
      refine gx_aload_n dX4_extend_17 rfl 1 rfl ?_
      refine gx_bE e (fun t6 ht6 e => ?_)
      refine gy_fR ht6 dX4_extend_18 gf_RX4_18_3_2 (by decide) gkN_3_2 gkR_3_2 ?_
      refine gx_iload_n dX4_extend_21 rfl 0 rfl ?_
      refine gx_bE e (fun t7 ht7 e => ?_)
      refine gy_l1 ht7 dX4_extend_22 ?_
      refine gy_iconst dX4_extend_23 ?_
      refine gx_bE e (fun _ g8 e => ?_)
      refine gx_iE e (fun c9 e => ?_) (fun c9 e => ?_)
      · refine gy_icmp_lt (tgt := 29) (gi_rgS g8) (by decide) dX4_extend_24 (by decide) (fun _ => ?_) (fun z => absurd c9 z)
        refine gx_aload_n dX4_extend_29 rfl 1 rfl ?_
        refine gx_bE e (fun t10 ht10 e => ?_)
        refine gy_fR ht10 dX4_extend_30 gf_RX4_15_3_1 (by decide) gkN_3_1 gkR_3_1 ?_
        refine gx_iload_n dX4_extend_33 rfl 0 rfl ?_
        refine gy_iconst dX4_extend_34 ?_
        refine gy_imul dX4_extend_35 ?_
        refine gx_aload_n dX4_extend_36 rfl 1 rfl ?_
        refine gx_bE e (fun t11 ht11 e => ?_)
        refine gy_fR ht11 dX4_extend_37 gf_RX4_18_3_2 (by decide) gkN_3_2 gkR_3_2 ?_
        refine gx_iload_n dX4_extend_40 rfl 0 rfl ?_
        refine gx_bE e (fun t12 ht12 e => ?_)
        refine gy_l1 ht12 dX4_extend_41 ?_
        refine gy_iadd dX4_extend_42 ?_
        refine gx_iload_n dX4_extend_43 rfl 2 rfl ?_
        refine gx_bE e (fun h13 hh13 e => ?_)
        refine gy_t1 hh13 dX4_extend_44 ?_
        refine gx_aload_n dX4_extend_45 rfl 1 rfl ?_
        refine gx_bE e (fun t14 ht14 e => ?_)
        refine gy_fR ht14 dX4_extend_46 gf_RX4_18_3_2 (by decide) gkN_3_2 gkR_3_2 ?_
        refine gx_iload_n dX4_extend_49 rfl 0 rfl ?_
        refine gx_dup2 dX4_extend_50 rfl rfl ?_
        refine gx_bE e (fun t15 ht15 e => ?_)
        refine gy_l1 ht15 dX4_extend_51 ?_
        refine gy_iconst dX4_extend_52 ?_
        refine gy_iadd dX4_extend_53 ?_
        refine gx_bE e (fun h16 hh16 e => ?_)
        refine gy_t1 hh16 dX4_extend_54 ?_
        refine gy_iconst dX4_extend_55 ?_
        cases e
        exact gx_zret (by decide +kernel) dX4_extend_56 rfl ⟨Nat.le_of_ble_eq_true rfl, Nat.le_of_ble_eq_true rfl⟩ (fun z => z)
      · refine gy_icmp_lt (tgt := 29) (gi_rgS g8) (by decide) dX4_extend_24 (by decide) (fun z => absurd z c9) (fun _ => ?_)
        refine gy_iconst dX4_extend_27 ?_
        cases e
        exact gx_zret (by decide +kernel) dX4_extend_28 rfl ⟨Nat.le_of_ble_eq_true rfl, Nat.le_of_ble_eq_true rfl⟩ (fun z => z)
/-! X7_wrap  -/
set_option maxRecDepth 100000 in
def b_X7_wrap_198 (n : Nat)    (h : gi_H) : Option (Int × gi_H) :=
  some ((0 : Int), h)
set_option maxRecDepth 100000 in
theorem zb_X7_wrap_198 {al : Bool} {n : Nat}  {res : Int} {h1 : gi_H}    {h : gi_H} (e : b_X7_wrap_198 n  h = some (res, h1)) : gx_Z mX7_wrap al al 0 0 198 [] [] (gi_cv h) (.inl (some (.int (gI res)))) (gi_cv h1) := by
  refine gy_iconst dX7_wrap_198 ?_
  cases e
  exact gx_zret (by decide +kernel) dX7_wrap_199 rfl ⟨Nat.le_of_ble_eq_true rfl, Nat.le_of_ble_eq_true rfl⟩ (fun z => z)
set_option maxRecDepth 100000 in
def b_X7_wrap_164 (n : Nat)  (v0 : Nat) (v1 : Nat) (v4 : Int) (v5 : Int) (v6 : Int)  (h : gi_H) : Option (Int × gi_H) :=
  Option.bind (gi_gR h v0 6 0) fun t31 => Option.bind (gi_gI h v0 6 1) fun t32 => Option.bind (gi_s1 h t31 (t32 - (1 : Int)) ((16 : Int) + v4)) fun h33 => Option.bind (gi_rg v6) fun _ => if v6 = 0 then (b_X7_wrap_198 n   h33) else (Option.bind (gi_is h33 v1 3) fun _ => Option.bind (f_X4_extend v1 v5 h33) fun q37 => Option.bind (gi_rg q37.1) fun _ => if q37.1 = 0 then (b_X7_wrap_198 n   q37.2) else (some ((1 : Int), q37.2)))
set_option maxRecDepth 100000 in
theorem zb_X7_wrap_164 {al : Bool} {n : Nat}  {res : Int} {h1 : gi_H}  {v0 : Nat} {v1 : Nat} {v4 : Int} {v5 : Int} {v6 : Int}  {h : gi_H} (e : b_X7_wrap_164 n v0 v1 v4 v5 v6 h = some (res, h1)) : gx_Z mX7_wrap al al 0 0 164 [(0, .ref v0), (1, .ref v1), (4, .int (gI v4)), (5, .int (gI v5)), (6, .int (gI v6))] [] (gi_cv h) (.inl (some (.int (gI res)))) (gi_cv h1) := by
  refine gx_aload_n dX7_wrap_164 rfl 0 rfl ?_
  refine gx_bE e (fun t31 ht31 e => ?_)
  refine gy_fR ht31 dX7_wrap_165 gf_RX7_9_6_0 (by decide) gkN_6_0 gkR_6_0 ?_
  refine gx_aload_n dX7_wrap_168 rfl 0 rfl ?_
  refine gx_bE e (fun t32 ht32 e => ?_)
  refine gy_fI ht32 dX7_wrap_169 gf_RX7_15_6_1 (by decide) gkN_6_1 gkR_6_1 ?_
  refine gy_iconst dX7_wrap_172 ?_
  refine gy_isub dX7_wrap_173 ?_
  refine gy_bipush dX7_wrap_174 gcb_16 ?_
  refine gx_iload dX7_wrap_176 2 rfl ?_
  refine gy_iadd dX7_wrap_178 ?_
  refine gx_bE e (fun h33 hh33 e => ?_)
  refine gy_t1 hh33 dX7_wrap_179 ?_
  refine gx_iload dX7_wrap_180 4 rfl ?_
  refine gx_bE e (fun _ g34 e => ?_)
  refine gx_iE e (fun c35 e => ?_) (fun c35 e => ?_)
  · refine gy_if_eq (tgt := 198) (gi_rgS g34) dX7_wrap_182 (by decide) (fun _ => ?_) (fun z => absurd c35 z)
    refine gx_sub (ls2 := []) [] rfl ?_
    exact zb_X7_wrap_198  e
  · refine gy_if_eq (tgt := 198) (gi_rgS g34) dX7_wrap_182 (by decide) (fun z => absurd z c35) (fun _ => ?_)
    refine gx_aload_n dX7_wrap_185 rfl 1 rfl ?_
    refine gx_iload dX7_wrap_186 3 rfl ?_
    refine gx_bE e (fun _ hu36 e => ?_)
    refine gx_bE e (fun q37 hq37 e => ?_)
    refine gx_callV (n := 1) (st := []) (As := [.int (gI v5)]) (b := v1) dX7_wrap_188 (z_X4_extend hq37) rfl ⟨rfl, gw_cw_X4_extend, gw_3, gp_X4_extend, ⟨Nat.le_of_ble_eq_true rfl, Nat.le_of_ble_eq_true rfl⟩⟩ (gi_isS hu36) (by decide) gw_796 gw_797 gw_798 rfl ⟨Nat.le_of_ble_eq_true rfl, Nat.le_of_ble_eq_true rfl⟩ (Nat.le_of_ble_eq_true rfl) (gy_k1 (x := .int (gI q37.1)) (kc2 := 0) (ks2 := 0) ⟨rfl, rfl⟩ ?_) gy_kn
    refine gx_bE e (fun _ g38 e => ?_)
    refine gx_iE e (fun c39 e => ?_) (fun c39 e => ?_)
    · refine gy_if_eq (tgt := 198) (gi_rgS g38) dX7_wrap_191 (by decide) (fun _ => ?_) (fun z => absurd c39 z)
      refine gx_sub (ls2 := []) [] rfl ?_
      exact zb_X7_wrap_198  e
    · refine gy_if_eq (tgt := 198) (gi_rgS g38) dX7_wrap_191 (by decide) (fun z => absurd z c39) (fun _ => ?_)
      refine gy_iconst dX7_wrap_194 ?_
      refine gx_goto (tgt := 199) dX7_wrap_195 (by decide) ?_
      cases e
      exact gx_zret (by decide +kernel) dX7_wrap_199 rfl ⟨Nat.le_of_ble_eq_true rfl, Nat.le_of_ble_eq_true rfl⟩ (fun z => z)
set_option maxRecDepth 100000 in
def b_X7_wrap_162 (n : Nat)  (v0 : Nat) (v1 : Nat) (v4 : Int) (v5 : Int) (s0 : Int) (h : gi_H) : Option (Int × gi_H) :=
  b_X7_wrap_164 n  v0 v1 v4 v5 s0 h
set_option maxRecDepth 100000 in
theorem zb_X7_wrap_162 {al : Bool} {n : Nat}  {res : Int} {h1 : gi_H}  {v0 : Nat} {v1 : Nat} {v4 : Int} {v5 : Int} {s0 : Int} {h : gi_H} (e : b_X7_wrap_162 n v0 v1 v4 v5 s0 h = some (res, h1)) : gx_Z mX7_wrap al al 0 0 162 [(0, .ref v0), (1, .ref v1), (4, .int (gI v4)), (5, .int (gI v5))] [.int (gI s0)] (gi_cv h) (.inl (some (.int (gI res)))) (gi_cv h1) := by
  refine gx_istore (ls2 := [(6, .int (gI s0)), (0, .ref v0), (1, .ref v1), (4, .int (gI v4)), (5, .int (gI v5))]) dX7_wrap_162 (Nat.le_of_ble_eq_true rfl) rfl ?_
  refine gx_sub (ls2 := [(0, .ref v0), (1, .ref v1), (4, .int (gI v4)), (5, .int (gI v5)), (6, .int (gI s0))]) [1, 2, 3, 4, 0] rfl ?_
  exact zb_X7_wrap_164  e
set_option maxRecDepth 100000 in
def b_X7_wrap_161 (n : Nat)  (v0 : Nat) (v1 : Nat) (v4 : Int) (v5 : Int)  (h : gi_H) : Option (Int × gi_H) :=
  b_X7_wrap_162 n  v0 v1 v4 v5 (0 : Int) h
set_option maxRecDepth 100000 in
theorem zb_X7_wrap_161 {al : Bool} {n : Nat}  {res : Int} {h1 : gi_H}  {v0 : Nat} {v1 : Nat} {v4 : Int} {v5 : Int}  {h : gi_H} (e : b_X7_wrap_161 n v0 v1 v4 v5 h = some (res, h1)) : gx_Z mX7_wrap al al 0 0 161 [(0, .ref v0), (1, .ref v1), (4, .int (gI v4)), (5, .int (gI v5))] [] (gi_cv h) (.inl (some (.int (gI res)))) (gi_cv h1) := by
  refine gy_iconst dX7_wrap_161 ?_
  exact zb_X7_wrap_162  e
set_option maxRecDepth 100000 in
def b_X7_wrap_138 (n : Nat)  (v0 : Nat) (v1 : Nat) (v2 : Int) (v3 : Int) (v4 : Int) (v5 : Int) (v6 : Int)  (h : gi_H) : Option (Int × gi_H) :=
  Option.bind (gi_rg v2) fun _ => if v2 = (37 : Int) then (Option.bind (gi_rg v6) fun _ => if v6 = 0 then (b_X7_wrap_161 n  v0 v1 v4 v5 h) else (Option.bind (gi_is h v1 3) fun _ => Option.bind (f_X4_extend v1 v3 h) fun q41 => Option.bind (gi_rg q41.1) fun _ => if q41.1 = 0 then (b_X7_wrap_161 n  v0 v1 v4 v5 q41.2) else (b_X7_wrap_162 n  v0 v1 v4 v5 (1 : Int) q41.2))) else (b_X7_wrap_164 n  v0 v1 v4 v5 v6 h)
set_option maxRecDepth 100000 in
theorem zb_X7_wrap_138 {al : Bool} {n : Nat}  {res : Int} {h1 : gi_H}  {v0 : Nat} {v1 : Nat} {v2 : Int} {v3 : Int} {v4 : Int} {v5 : Int} {v6 : Int}  {h : gi_H} (e : b_X7_wrap_138 n v0 v1 v2 v3 v4 v5 v6 h = some (res, h1)) : gx_Z mX7_wrap al al 0 0 138 [(0, .ref v0), (1, .ref v1), (2, .int (gI v2)), (3, .int (gI v3)), (4, .int (gI v4)), (5, .int (gI v5)), (6, .int (gI v6))] [] (gi_cv h) (.inl (some (.int (gI res)))) (gi_cv h1) := by
  refine gx_iload_n dX7_wrap_138 rfl 2 rfl ?_
  refine gy_bipush dX7_wrap_139 gcb_37 ?_
  refine gx_bE e (fun _ g27 e => ?_)
  refine gx_iE e (fun c28 e => ?_) (fun c28 e => ?_)
  · refine gy_icmp_ne (tgt := 164) (gi_rgS g27) (by decide) dX7_wrap_141 (by decide) (fun z => absurd c28 z) (fun _ => ?_)
    refine gx_iload dX7_wrap_144 6 rfl ?_
    refine gx_bE e (fun _ g29 e => ?_)
    refine gx_iE e (fun c30 e => ?_) (fun c30 e => ?_)
    · refine gy_if_eq (tgt := 161) (gi_rgS g29) dX7_wrap_146 (by decide) (fun _ => ?_) (fun z => absurd c30 z)
      refine gx_sub (ls2 := [(0, .ref v0), (1, .ref v1), (4, .int (gI v4)), (5, .int (gI v5))]) [0, 1, 4, 5] rfl ?_
      exact zb_X7_wrap_161  e
    · refine gy_if_eq (tgt := 161) (gi_rgS g29) dX7_wrap_146 (by decide) (fun z => absurd z c30) (fun _ => ?_)
      refine gx_aload_n dX7_wrap_149 rfl 1 rfl ?_
      refine gx_iload_n dX7_wrap_150 rfl 3 rfl ?_
      refine gx_bE e (fun _ hu40 e => ?_)
      refine gx_bE e (fun q41 hq41 e => ?_)
      refine gx_callV (n := 1) (st := []) (As := [.int (gI v3)]) (b := v1) dX7_wrap_151 (z_X4_extend hq41) rfl ⟨rfl, gw_cw_X4_extend, gw_3, gp_X4_extend, ⟨Nat.le_of_ble_eq_true rfl, Nat.le_of_ble_eq_true rfl⟩⟩ (gi_isS hu40) (by decide) gw_796 gw_797 gw_798 rfl ⟨Nat.le_of_ble_eq_true rfl, Nat.le_of_ble_eq_true rfl⟩ (Nat.le_of_ble_eq_true rfl) (gy_k1 (x := .int (gI q41.1)) (kc2 := 0) (ks2 := 0) ⟨rfl, rfl⟩ ?_) gy_kn
      refine gx_bE e (fun _ g42 e => ?_)
      refine gx_iE e (fun c43 e => ?_) (fun c43 e => ?_)
      · refine gy_if_eq (tgt := 161) (gi_rgS g42) dX7_wrap_154 (by decide) (fun _ => ?_) (fun z => absurd c43 z)
        refine gx_sub (ls2 := [(0, .ref v0), (1, .ref v1), (4, .int (gI v4)), (5, .int (gI v5))]) [0, 1, 4, 5] rfl ?_
        exact zb_X7_wrap_161  e
      · refine gy_if_eq (tgt := 161) (gi_rgS g42) dX7_wrap_154 (by decide) (fun z => absurd z c43) (fun _ => ?_)
        refine gy_iconst dX7_wrap_157 ?_
        refine gx_goto (tgt := 162) dX7_wrap_158 (by decide) ?_
        refine gx_sub (ls2 := [(0, .ref v0), (1, .ref v1), (4, .int (gI v4)), (5, .int (gI v5))]) [0, 1, 4, 5] rfl ?_
        exact zb_X7_wrap_162  e
  · refine gy_icmp_ne (tgt := 164) (gi_rgS g27) (by decide) dX7_wrap_141 (by decide) (fun _ => ?_) (fun z => absurd z c28)
    refine gx_sub (ls2 := [(0, .ref v0), (1, .ref v1), (4, .int (gI v4)), (5, .int (gI v5)), (6, .int (gI v6))]) [0, 1, 4, 5, 6] rfl ?_
    exact zb_X7_wrap_164  e
set_option maxRecDepth 100000 in
def b_X7_wrap_136 (n : Nat)  (v0 : Nat) (v1 : Nat) (v2 : Int) (v3 : Int) (v4 : Int) (v5 : Int) (s0 : Int) (h : gi_H) : Option (Int × gi_H) :=
  b_X7_wrap_138 n  v0 v1 v2 v3 v4 v5 s0 h
set_option maxRecDepth 100000 in
theorem zb_X7_wrap_136 {al : Bool} {n : Nat}  {res : Int} {h1 : gi_H}  {v0 : Nat} {v1 : Nat} {v2 : Int} {v3 : Int} {v4 : Int} {v5 : Int} {s0 : Int} {h : gi_H} (e : b_X7_wrap_136 n v0 v1 v2 v3 v4 v5 s0 h = some (res, h1)) : gx_Z mX7_wrap al al 0 0 136 [(0, .ref v0), (1, .ref v1), (2, .int (gI v2)), (3, .int (gI v3)), (4, .int (gI v4)), (5, .int (gI v5))] [.int (gI s0)] (gi_cv h) (.inl (some (.int (gI res)))) (gi_cv h1) := by
  refine gx_istore (ls2 := [(6, .int (gI s0)), (0, .ref v0), (1, .ref v1), (2, .int (gI v2)), (3, .int (gI v3)), (4, .int (gI v4)), (5, .int (gI v5))]) dX7_wrap_136 (Nat.le_of_ble_eq_true rfl) rfl ?_
  refine gx_sub (ls2 := [(0, .ref v0), (1, .ref v1), (2, .int (gI v2)), (3, .int (gI v3)), (4, .int (gI v4)), (5, .int (gI v5)), (6, .int (gI s0))]) [1, 2, 3, 4, 5, 6, 0] rfl ?_
  exact zb_X7_wrap_138  e
set_option maxRecDepth 100000 in
def b_X7_wrap_135 (n : Nat)  (v0 : Nat) (v1 : Nat) (v2 : Int) (v3 : Int) (v4 : Int) (v5 : Int)  (h : gi_H) : Option (Int × gi_H) :=
  b_X7_wrap_136 n  v0 v1 v2 v3 v4 v5 (0 : Int) h
set_option maxRecDepth 100000 in
theorem zb_X7_wrap_135 {al : Bool} {n : Nat}  {res : Int} {h1 : gi_H}  {v0 : Nat} {v1 : Nat} {v2 : Int} {v3 : Int} {v4 : Int} {v5 : Int}  {h : gi_H} (e : b_X7_wrap_135 n v0 v1 v2 v3 v4 v5 h = some (res, h1)) : gx_Z mX7_wrap al al 0 0 135 [(0, .ref v0), (1, .ref v1), (2, .int (gI v2)), (3, .int (gI v3)), (4, .int (gI v4)), (5, .int (gI v5))] [] (gi_cv h) (.inl (some (.int (gI res)))) (gi_cv h1) := by
  refine gy_iconst dX7_wrap_135 ?_
  exact zb_X7_wrap_136  e
set_option maxRecDepth 100000 in
def b_X7_wrap_106 (n : Nat)  (v0 : Nat) (v1 : Nat) (v2 : Int) (v3 : Int) (v4 : Int) (v5 : Int) (s0 : Int) (h : gi_H) : Option (Int × gi_H) :=
  Option.bind (gi_rg v2) fun _ => if v2 = (63 : Int) then (b_X7_wrap_138 n  v0 v1 v2 v3 v4 v5 s0 h) else (Option.bind (gi_rg s0) fun _ => if s0 = 0 then (b_X7_wrap_135 n  v0 v1 v2 v3 v4 v5 h) else (Option.bind (gi_is h v1 3) fun _ => Option.bind (f_X4_extend v1 ((16 : Int) + v4) h) fun q47 => Option.bind (gi_rg q47.1) fun _ => if q47.1 = 0 then (b_X7_wrap_135 n  v0 v1 v2 v3 v4 v5 q47.2) else (b_X7_wrap_136 n  v0 v1 v2 v3 v4 v5 (1 : Int) q47.2)))
set_option maxRecDepth 100000 in
theorem zb_X7_wrap_106 {al : Bool} {n : Nat}  {res : Int} {h1 : gi_H}  {v0 : Nat} {v1 : Nat} {v2 : Int} {v3 : Int} {v4 : Int} {v5 : Int} {s0 : Int} {h : gi_H} (e : b_X7_wrap_106 n v0 v1 v2 v3 v4 v5 s0 h = some (res, h1)) : gx_Z mX7_wrap al al 0 0 106 [(0, .ref v0), (1, .ref v1), (2, .int (gI v2)), (3, .int (gI v3)), (4, .int (gI v4)), (5, .int (gI v5))] [.int (gI s0)] (gi_cv h) (.inl (some (.int (gI res)))) (gi_cv h1) := by
  refine gx_istore (ls2 := [(6, .int (gI s0)), (0, .ref v0), (1, .ref v1), (2, .int (gI v2)), (3, .int (gI v3)), (4, .int (gI v4)), (5, .int (gI v5))]) dX7_wrap_106 (Nat.le_of_ble_eq_true rfl) rfl ?_
  refine gx_iload_n dX7_wrap_108 rfl 3 rfl ?_
  refine gy_bipush dX7_wrap_109 gcb_63 ?_
  refine gx_bE e (fun _ g25 e => ?_)
  refine gx_iE e (fun c26 e => ?_) (fun c26 e => ?_)
  · refine gy_icmp_eq (tgt := 138) (gi_rgS g25) (by decide) dX7_wrap_111 (by decide) (fun _ => ?_) (fun z => absurd c26 z)
    refine gx_sub (ls2 := [(0, .ref v0), (1, .ref v1), (2, .int (gI v2)), (3, .int (gI v3)), (4, .int (gI v4)), (5, .int (gI v5)), (6, .int (gI s0))]) [1, 2, 3, 4, 5, 6, 0] rfl ?_
    exact zb_X7_wrap_138  e
  · refine gy_icmp_eq (tgt := 138) (gi_rgS g25) (by decide) dX7_wrap_111 (by decide) (fun z => absurd z c26) (fun _ => ?_)
    refine gx_iload dX7_wrap_114 0 rfl ?_
    refine gx_bE e (fun _ g44 e => ?_)
    refine gx_iE e (fun c45 e => ?_) (fun c45 e => ?_)
    · refine gy_if_eq (tgt := 135) (gi_rgS g44) dX7_wrap_116 (by decide) (fun _ => ?_) (fun z => absurd c45 z)
      refine gx_sub (ls2 := [(0, .ref v0), (1, .ref v1), (2, .int (gI v2)), (3, .int (gI v3)), (4, .int (gI v4)), (5, .int (gI v5))]) [1, 2, 3, 4, 5, 6] rfl ?_
      exact zb_X7_wrap_135  e
    · refine gy_if_eq (tgt := 135) (gi_rgS g44) dX7_wrap_116 (by decide) (fun z => absurd z c45) (fun _ => ?_)
      refine gx_aload_n dX7_wrap_119 rfl 2 rfl ?_
      refine gy_bipush dX7_wrap_120 gcb_16 ?_
      refine gx_iload dX7_wrap_122 5 rfl ?_
      refine gy_iadd dX7_wrap_124 ?_
      refine gx_bE e (fun _ hu46 e => ?_)
      refine gx_bE e (fun q47 hq47 e => ?_)
      refine gx_callV (n := 1) (st := []) (As := [.int (gI ((16 : Int) + v4))]) (b := v1) dX7_wrap_125 (z_X4_extend hq47) rfl ⟨rfl, gw_cw_X4_extend, gw_3, gp_X4_extend, ⟨Nat.le_of_ble_eq_true rfl, Nat.le_of_ble_eq_true rfl⟩⟩ (gi_isS hu46) (by decide) gw_796 gw_797 gw_798 rfl ⟨Nat.le_of_ble_eq_true rfl, Nat.le_of_ble_eq_true rfl⟩ (Nat.le_of_ble_eq_true rfl) (gy_k1 (x := .int (gI q47.1)) (kc2 := 0) (ks2 := 0) ⟨rfl, rfl⟩ ?_) gy_kn
      refine gx_bE e (fun _ g48 e => ?_)
      refine gx_iE e (fun c49 e => ?_) (fun c49 e => ?_)
      · refine gy_if_eq (tgt := 135) (gi_rgS g48) dX7_wrap_128 (by decide) (fun _ => ?_) (fun z => absurd c49 z)
        refine gx_sub (ls2 := [(0, .ref v0), (1, .ref v1), (2, .int (gI v2)), (3, .int (gI v3)), (4, .int (gI v4)), (5, .int (gI v5))]) [1, 2, 3, 4, 5, 6] rfl ?_
        exact zb_X7_wrap_135  e
      · refine gy_if_eq (tgt := 135) (gi_rgS g48) dX7_wrap_128 (by decide) (fun z => absurd z c49) (fun _ => ?_)
        refine gy_iconst dX7_wrap_131 ?_
        refine gx_goto (tgt := 136) dX7_wrap_132 (by decide) ?_
        refine gx_sub (ls2 := [(0, .ref v0), (1, .ref v1), (2, .int (gI v2)), (3, .int (gI v3)), (4, .int (gI v4)), (5, .int (gI v5))]) [1, 2, 3, 4, 5, 6] rfl ?_
        exact zb_X7_wrap_136  e
set_option maxRecDepth 100000 in
def b_X7_wrap_105 (n : Nat)  (v0 : Nat) (v1 : Nat) (v2 : Int) (v3 : Int) (v4 : Int) (v5 : Int)  (h : gi_H) : Option (Int × gi_H) :=
  b_X7_wrap_106 n  v0 v1 v2 v3 v4 v5 (0 : Int) h
set_option maxRecDepth 100000 in
theorem zb_X7_wrap_105 {al : Bool} {n : Nat}  {res : Int} {h1 : gi_H}  {v0 : Nat} {v1 : Nat} {v2 : Int} {v3 : Int} {v4 : Int} {v5 : Int}  {h : gi_H} (e : b_X7_wrap_105 n v0 v1 v2 v3 v4 v5 h = some (res, h1)) : gx_Z mX7_wrap al al 0 0 105 [(0, .ref v0), (1, .ref v1), (2, .int (gI v2)), (3, .int (gI v3)), (4, .int (gI v4)), (5, .int (gI v5))] [] (gi_cv h) (.inl (some (.int (gI res)))) (gi_cv h1) := by
  refine gy_iconst dX7_wrap_105 ?_
  exact zb_X7_wrap_106  e
set_option maxRecDepth 100000 in
def b_X7_wrap_87 (n : Nat)  (v0 : Nat) (v1 : Nat) (v2 : Int) (v3 : Int) (v4 : Int) (v5 : Int) (v6 : Int)  (h : gi_H) : Option (Int × gi_H) :=
  Option.bind (gi_rg v6) fun _ => if v6 = 0 then (b_X7_wrap_105 n  v0 v1 v2 v3 v4 v5 h) else (Option.bind (gi_is h v1 3) fun _ => Option.bind (f_X4_open v1 v4 h) fun q51 => Option.bind (gi_rg q51.1) fun _ => if q51.1 = 0 then (b_X7_wrap_105 n  v0 v1 v2 v3 v4 v5 q51.2) else (b_X7_wrap_106 n  v0 v1 v2 v3 v4 v5 (1 : Int) q51.2))
set_option maxRecDepth 100000 in
theorem zb_X7_wrap_87 {al : Bool} {n : Nat}  {res : Int} {h1 : gi_H}  {v0 : Nat} {v1 : Nat} {v2 : Int} {v3 : Int} {v4 : Int} {v5 : Int} {v6 : Int}  {h : gi_H} (e : b_X7_wrap_87 n v0 v1 v2 v3 v4 v5 v6 h = some (res, h1)) : gx_Z mX7_wrap al al 0 0 87 [(0, .ref v0), (1, .ref v1), (2, .int (gI v2)), (3, .int (gI v3)), (4, .int (gI v4)), (5, .int (gI v5)), (6, .int (gI v6))] [] (gi_cv h) (.inl (some (.int (gI res)))) (gi_cv h1) := by
  refine gx_iload dX7_wrap_87 6 rfl ?_
  refine gx_bE e (fun _ g23 e => ?_)
  refine gx_iE e (fun c24 e => ?_) (fun c24 e => ?_)
  · refine gy_if_eq (tgt := 105) (gi_rgS g23) dX7_wrap_89 (by decide) (fun _ => ?_) (fun z => absurd c24 z)
    refine gx_sub (ls2 := [(0, .ref v0), (1, .ref v1), (2, .int (gI v2)), (3, .int (gI v3)), (4, .int (gI v4)), (5, .int (gI v5))]) [0, 1, 2, 3, 4, 5] rfl ?_
    exact zb_X7_wrap_105  e
  · refine gy_if_eq (tgt := 105) (gi_rgS g23) dX7_wrap_89 (by decide) (fun z => absurd z c24) (fun _ => ?_)
    refine gx_aload_n dX7_wrap_92 rfl 1 rfl ?_
    refine gx_iload dX7_wrap_93 4 rfl ?_
    refine gx_bE e (fun _ hu50 e => ?_)
    refine gx_bE e (fun q51 hq51 e => ?_)
    refine gx_callV (n := 1) (st := []) (As := [.int (gI v4)]) (b := v1) dX7_wrap_95 (z_X4_open hq51) rfl ⟨rfl, gw_cw_X4_open, gw_3, gp_X4_open, ⟨Nat.le_of_ble_eq_true rfl, Nat.le_of_ble_eq_true rfl⟩⟩ (gi_isS hu50) (by decide) gw_792 gw_793 gw_794 rfl ⟨Nat.le_of_ble_eq_true rfl, Nat.le_of_ble_eq_true rfl⟩ (Nat.le_of_ble_eq_true rfl) (gy_k1 (x := .int (gI q51.1)) (kc2 := 0) (ks2 := 0) ⟨rfl, rfl⟩ ?_) gy_kn
    refine gx_bE e (fun _ g52 e => ?_)
    refine gx_iE e (fun c53 e => ?_) (fun c53 e => ?_)
    · refine gy_if_eq (tgt := 105) (gi_rgS g52) dX7_wrap_98 (by decide) (fun _ => ?_) (fun z => absurd c53 z)
      refine gx_sub (ls2 := [(0, .ref v0), (1, .ref v1), (2, .int (gI v2)), (3, .int (gI v3)), (4, .int (gI v4)), (5, .int (gI v5))]) [0, 1, 2, 3, 4, 5] rfl ?_
      exact zb_X7_wrap_105  e
    · refine gy_if_eq (tgt := 105) (gi_rgS g52) dX7_wrap_98 (by decide) (fun z => absurd z c53) (fun _ => ?_)
      refine gy_iconst dX7_wrap_101 ?_
      refine gx_goto (tgt := 106) dX7_wrap_102 (by decide) ?_
      refine gx_sub (ls2 := [(0, .ref v0), (1, .ref v1), (2, .int (gI v2)), (3, .int (gI v3)), (4, .int (gI v4)), (5, .int (gI v5))]) [0, 1, 2, 3, 4, 5] rfl ?_
      exact zb_X7_wrap_106  e
set_option maxRecDepth 100000 in
def b_X7_wrap_85 (n : Nat)  (v0 : Nat) (v1 : Nat) (v2 : Int) (v3 : Int) (v4 : Int) (v5 : Int) (s0 : Int) (h : gi_H) : Option (Int × gi_H) :=
  b_X7_wrap_87 n  v0 v1 v2 v3 v4 v5 s0 h
set_option maxRecDepth 100000 in
theorem zb_X7_wrap_85 {al : Bool} {n : Nat}  {res : Int} {h1 : gi_H}  {v0 : Nat} {v1 : Nat} {v2 : Int} {v3 : Int} {v4 : Int} {v5 : Int} {s0 : Int} {h : gi_H} (e : b_X7_wrap_85 n v0 v1 v2 v3 v4 v5 s0 h = some (res, h1)) : gx_Z mX7_wrap al al 0 0 85 [(0, .ref v0), (1, .ref v1), (2, .int (gI v2)), (3, .int (gI v3)), (4, .int (gI v4)), (5, .int (gI v5))] [.int (gI s0)] (gi_cv h) (.inl (some (.int (gI res)))) (gi_cv h1) := by
  refine gx_istore (ls2 := [(6, .int (gI s0)), (0, .ref v0), (1, .ref v1), (2, .int (gI v2)), (3, .int (gI v3)), (4, .int (gI v4)), (5, .int (gI v5))]) dX7_wrap_85 (Nat.le_of_ble_eq_true rfl) rfl ?_
  refine gx_sub (ls2 := [(0, .ref v0), (1, .ref v1), (2, .int (gI v2)), (3, .int (gI v3)), (4, .int (gI v4)), (5, .int (gI v5)), (6, .int (gI s0))]) [1, 2, 3, 4, 5, 6, 0] rfl ?_
  exact zb_X7_wrap_87  e
set_option maxRecDepth 100000 in
def b_X7_wrap_84 (n : Nat)  (v0 : Nat) (v1 : Nat) (v2 : Int) (v3 : Int) (v4 : Int) (v5 : Int)  (h : gi_H) : Option (Int × gi_H) :=
  b_X7_wrap_85 n  v0 v1 v2 v3 v4 v5 (0 : Int) h
set_option maxRecDepth 100000 in
theorem zb_X7_wrap_84 {al : Bool} {n : Nat}  {res : Int} {h1 : gi_H}  {v0 : Nat} {v1 : Nat} {v2 : Int} {v3 : Int} {v4 : Int} {v5 : Int}  {h : gi_H} (e : b_X7_wrap_84 n v0 v1 v2 v3 v4 v5 h = some (res, h1)) : gx_Z mX7_wrap al al 0 0 84 [(0, .ref v0), (1, .ref v1), (2, .int (gI v2)), (3, .int (gI v3)), (4, .int (gI v4)), (5, .int (gI v5))] [] (gi_cv h) (.inl (some (.int (gI res)))) (gi_cv h1) := by
  refine gy_iconst dX7_wrap_84 ?_
  exact zb_X7_wrap_85  e
set_option maxRecDepth 100000 in
def b_X7_wrap_66 (n : Nat)  (v0 : Nat) (v1 : Nat) (v2 : Int) (v3 : Int) (v4 : Int) (v5 : Int) (v6 : Int)  (h : gi_H) : Option (Int × gi_H) :=
  Option.bind (gi_rg v6) fun _ => if v6 = 0 then (b_X7_wrap_84 n  v0 v1 v2 v3 v4 v5 h) else (Option.bind (gi_is h v1 3) fun _ => Option.bind (f_X4_extend v1 v5 h) fun q55 => Option.bind (gi_rg q55.1) fun _ => if q55.1 = 0 then (b_X7_wrap_84 n  v0 v1 v2 v3 v4 v5 q55.2) else (b_X7_wrap_85 n  v0 v1 v2 v3 v4 v5 (1 : Int) q55.2))
set_option maxRecDepth 100000 in
theorem zb_X7_wrap_66 {al : Bool} {n : Nat}  {res : Int} {h1 : gi_H}  {v0 : Nat} {v1 : Nat} {v2 : Int} {v3 : Int} {v4 : Int} {v5 : Int} {v6 : Int}  {h : gi_H} (e : b_X7_wrap_66 n v0 v1 v2 v3 v4 v5 v6 h = some (res, h1)) : gx_Z mX7_wrap al al 0 0 66 [(0, .ref v0), (1, .ref v1), (2, .int (gI v2)), (3, .int (gI v3)), (4, .int (gI v4)), (5, .int (gI v5)), (6, .int (gI v6))] [] (gi_cv h) (.inl (some (.int (gI res)))) (gi_cv h1) := by
  refine gx_iload dX7_wrap_66 6 rfl ?_
  refine gx_bE e (fun _ g21 e => ?_)
  refine gx_iE e (fun c22 e => ?_) (fun c22 e => ?_)
  · refine gy_if_eq (tgt := 84) (gi_rgS g21) dX7_wrap_68 (by decide) (fun _ => ?_) (fun z => absurd c22 z)
    refine gx_sub (ls2 := [(0, .ref v0), (1, .ref v1), (2, .int (gI v2)), (3, .int (gI v3)), (4, .int (gI v4)), (5, .int (gI v5))]) [0, 1, 2, 3, 4, 5] rfl ?_
    exact zb_X7_wrap_84  e
  · refine gy_if_eq (tgt := 84) (gi_rgS g21) dX7_wrap_68 (by decide) (fun z => absurd z c22) (fun _ => ?_)
    refine gx_aload_n dX7_wrap_71 rfl 1 rfl ?_
    refine gx_iload dX7_wrap_72 5 rfl ?_
    refine gx_bE e (fun _ hu54 e => ?_)
    refine gx_bE e (fun q55 hq55 e => ?_)
    refine gx_callV (n := 1) (st := []) (As := [.int (gI v5)]) (b := v1) dX7_wrap_74 (z_X4_extend hq55) rfl ⟨rfl, gw_cw_X4_extend, gw_3, gp_X4_extend, ⟨Nat.le_of_ble_eq_true rfl, Nat.le_of_ble_eq_true rfl⟩⟩ (gi_isS hu54) (by decide) gw_796 gw_797 gw_798 rfl ⟨Nat.le_of_ble_eq_true rfl, Nat.le_of_ble_eq_true rfl⟩ (Nat.le_of_ble_eq_true rfl) (gy_k1 (x := .int (gI q55.1)) (kc2 := 0) (ks2 := 0) ⟨rfl, rfl⟩ ?_) gy_kn
    refine gx_bE e (fun _ g56 e => ?_)
    refine gx_iE e (fun c57 e => ?_) (fun c57 e => ?_)
    · refine gy_if_eq (tgt := 84) (gi_rgS g56) dX7_wrap_77 (by decide) (fun _ => ?_) (fun z => absurd c57 z)
      refine gx_sub (ls2 := [(0, .ref v0), (1, .ref v1), (2, .int (gI v2)), (3, .int (gI v3)), (4, .int (gI v4)), (5, .int (gI v5))]) [0, 1, 2, 3, 4, 5] rfl ?_
      exact zb_X7_wrap_84  e
    · refine gy_if_eq (tgt := 84) (gi_rgS g56) dX7_wrap_77 (by decide) (fun z => absurd z c57) (fun _ => ?_)
      refine gy_iconst dX7_wrap_80 ?_
      refine gx_goto (tgt := 85) dX7_wrap_81 (by decide) ?_
      refine gx_sub (ls2 := [(0, .ref v0), (1, .ref v1), (2, .int (gI v2)), (3, .int (gI v3)), (4, .int (gI v4)), (5, .int (gI v5))]) [0, 1, 2, 3, 4, 5] rfl ?_
      exact zb_X7_wrap_85  e
set_option maxRecDepth 100000 in
def f_X7_wrap (n : Nat) (v0 : Nat) (v1 : Nat) (v2 : Int) (v3 : Int) (h : gi_H) : Option (Int × gi_H) :=
  Option.bind (gi_is h v1 3) fun _ => Option.bind (f_X4_freeHelper n v1 h) fun q2 => Option.bind (gi_gI h v0 6 1) fun t3 => Option.bind (gi_rg t3) fun _ => if t3 ≤ 0 then (some ((0 : Int), h)) else (Option.bind (gi_gI h v0 6 1) fun t6 => Option.bind (gi_gR h v0 6 0) fun t7 => Option.bind (gi_ln h t7) fun t8 => Option.bind (gi_rg t6) fun _ => Option.bind (gi_rg t8) fun _ => if t8 < t6 then (some ((0 : Int), h)) else (Option.bind (gi_rg q2) fun _ => if q2 = (-1 : Int) then (some ((0 : Int), h)) else (Option.bind (gi_gR h v0 6 0) fun t14 => Option.bind (gi_gI h v0 6 1) fun t15 => Option.bind (gi_aI h 1 t14 (t15 - (1 : Int))) fun t16 => Option.bind (gi_is h v1 3) fun _ => Option.bind (f_X4_open v1 q2 h) fun q18 => Option.bind (gi_rg v2) fun _ => if v2 = (43 : Int) then (b_X7_wrap_66 n  v0 v1 v2 v3 q2 t16 q18.1 q18.2) else (if v2 = (37 : Int) then (b_X7_wrap_66 n  v0 v1 v2 v3 q2 t16 q18.1 q18.2) else (b_X7_wrap_87 n  v0 v1 v2 v3 q2 t16 q18.1 q18.2)))))
set_option maxRecDepth 100000 in
theorem z_X7_wrap {al : Bool} {n : Nat} {v0 : Nat} {v1 : Nat} {v2 : Int} {v3 : Int} {h : gi_H} {res : Int} {h1 : gi_H} (e : f_X7_wrap n v0 v1 v2 v3 h = some (res, h1)) : gx_Cw mX7_wrap al [.ref v0, .ref v1, .int (gI v2), .int (gI v3)] (gi_cv h) (.inl (some (.int (gI res)))) (gi_cv h1) := by
  refine gx_enter (by decide +kernel) rfl (Nat.le_of_ble_eq_true rfl) ?_
  show gx_Z mX7_wrap al al 0 0 0 [(0, .ref v0), (1, .ref v1), (2, .int (gI v2)), (3, .int (gI v3))] [] (gi_cv h) (.inl (some (.int (gI res)))) (gi_cv h1)
  refine gx_aload_n dX7_wrap_0 rfl 1 rfl ?_
  refine gx_bE e (fun _ hu1 e => ?_)
  refine gx_bE e (fun q2 hq2 e => ?_)
  refine gx_callV (n := 0) (st := []) (As := []) (b := v1) dX7_wrap_1 (z_X4_freeHelper hq2) rfl ⟨rfl, gw_cw_X4_freeHelper, gw_3, gp_X4_freeHelper, ⟨Nat.le_of_ble_eq_true rfl, Nat.le_of_ble_eq_true rfl⟩⟩ (gi_isS hu1) (by decide) gw_783 gw_784 gw_785 rfl ⟨Nat.le_of_ble_eq_true rfl, Nat.le_of_ble_eq_true rfl⟩ (Nat.le_of_ble_eq_true rfl) (gy_k1 (x := .int (gI q2)) (kc2 := 0) (ks2 := 0) ⟨rfl, rfl⟩ ?_) gy_kn
  refine gx_istore (ls2 := [(4, .int (gI q2)), (0, .ref v0), (1, .ref v1), (2, .int (gI v2)), (3, .int (gI v3))]) dX7_wrap_4 (Nat.le_of_ble_eq_true rfl) rfl ?_
  refine gx_aload_n dX7_wrap_6 rfl 1 rfl ?_
  refine gx_bE e (fun t3 ht3 e => ?_)
  refine gy_fI ht3 dX7_wrap_7 gf_RX7_15_6_1 (by decide) gkN_6_1 gkR_6_1 ?_
  refine gx_bE e (fun _ g4 e => ?_)
  refine gx_iE e (fun c5 e => ?_) (fun c5 e => ?_)
  · refine gy_if_le (tgt := 31) (gi_rgS g4) dX7_wrap_10 (by decide) (fun _ => ?_) (fun z => absurd c5 z)
    refine gy_iconst dX7_wrap_31 ?_
    cases e
    exact gx_zret (by decide +kernel) dX7_wrap_32 rfl ⟨Nat.le_of_ble_eq_true rfl, Nat.le_of_ble_eq_true rfl⟩ (fun z => z)
  · refine gy_if_le (tgt := 31) (gi_rgS g4) dX7_wrap_10 (by decide) (fun z => absurd z c5) (fun _ => ?_)
    refine gx_aload_n dX7_wrap_13 rfl 1 rfl ?_
    refine gx_bE e (fun t6 ht6 e => ?_)
    refine gy_fI ht6 dX7_wrap_14 gf_RX7_15_6_1 (by decide) gkN_6_1 gkR_6_1 ?_
    refine gx_aload_n dX7_wrap_17 rfl 1 rfl ?_
    refine gx_bE e (fun t7 ht7 e => ?_)
    refine gy_fR ht7 dX7_wrap_18 gf_RX7_9_6_0 (by decide) gkN_6_0 gkR_6_0 ?_
    refine gx_bE e (fun t8 ht8 e => ?_)
    refine gy_al0 ht8 dX7_wrap_21 ?_
    refine gx_bE e (fun _ g9 e => ?_)
    refine gx_bE e (fun _ g10 e => ?_)
    refine gx_iE e (fun c11 e => ?_) (fun c11 e => ?_)
    · refine gy_icmp_gt (tgt := 31) (gi_rgS g9) (gi_rgS g10) dX7_wrap_22 (by decide) (fun _ => ?_) (fun z => absurd c11 z)
      refine gy_iconst dX7_wrap_31 ?_
      cases e
      exact gx_zret (by decide +kernel) dX7_wrap_32 rfl ⟨Nat.le_of_ble_eq_true rfl, Nat.le_of_ble_eq_true rfl⟩ (fun z => z)
    · refine gy_icmp_gt (tgt := 31) (gi_rgS g9) (gi_rgS g10) dX7_wrap_22 (by decide) (fun z => absurd z c11) (fun _ => ?_)
      refine gx_iload dX7_wrap_25 0 rfl ?_
      refine gy_iconst dX7_wrap_27 ?_
      refine gx_bE e (fun _ g12 e => ?_)
      refine gx_iE e (fun c13 e => ?_) (fun c13 e => ?_)
      · refine gy_icmp_ne (tgt := 33) (gi_rgS g12) (by decide) dX7_wrap_28 (by decide) (fun z => absurd c13 z) (fun _ => ?_)
        refine gy_iconst dX7_wrap_31 ?_
        cases e
        exact gx_zret (by decide +kernel) dX7_wrap_32 rfl ⟨Nat.le_of_ble_eq_true rfl, Nat.le_of_ble_eq_true rfl⟩ (fun z => z)
      · refine gy_icmp_ne (tgt := 33) (gi_rgS g12) (by decide) dX7_wrap_28 (by decide) (fun _ => ?_) (fun z => absurd z c13)
        refine gx_aload_n dX7_wrap_33 rfl 1 rfl ?_
        refine gx_bE e (fun t14 ht14 e => ?_)
        refine gy_fR ht14 dX7_wrap_34 gf_RX7_9_6_0 (by decide) gkN_6_0 gkR_6_0 ?_
        refine gx_aload_n dX7_wrap_37 rfl 1 rfl ?_
        refine gx_bE e (fun t15 ht15 e => ?_)
        refine gy_fI ht15 dX7_wrap_38 gf_RX7_15_6_1 (by decide) gkN_6_1 gkR_6_1 ?_
        refine gy_iconst dX7_wrap_41 ?_
        refine gy_isub dX7_wrap_42 ?_
        refine gx_bE e (fun t16 ht16 e => ?_)
        refine gy_l1 ht16 dX7_wrap_43 ?_
        refine gx_istore (ls2 := [(5, .int (gI t16)), (4, .int (gI q2)), (0, .ref v0), (1, .ref v1), (2, .int (gI v2)), (3, .int (gI v3))]) dX7_wrap_44 (Nat.le_of_ble_eq_true rfl) rfl ?_
        refine gx_aload_n dX7_wrap_46 rfl 3 rfl ?_
        refine gx_iload dX7_wrap_47 1 rfl ?_
        refine gx_bE e (fun _ hu17 e => ?_)
        refine gx_bE e (fun q18 hq18 e => ?_)
        refine gx_callV (n := 1) (st := []) (As := [.int (gI q2)]) (b := v1) dX7_wrap_49 (z_X4_open hq18) rfl ⟨rfl, gw_cw_X4_open, gw_3, gp_X4_open, ⟨Nat.le_of_ble_eq_true rfl, Nat.le_of_ble_eq_true rfl⟩⟩ (gi_isS hu17) (by decide) gw_792 gw_793 gw_794 rfl ⟨Nat.le_of_ble_eq_true rfl, Nat.le_of_ble_eq_true rfl⟩ (Nat.le_of_ble_eq_true rfl) (gy_k1 (x := .int (gI q18.1)) (kc2 := 0) (ks2 := 0) ⟨rfl, rfl⟩ ?_) gy_kn
        refine gx_istore (ls2 := [(6, .int (gI q18.1)), (5, .int (gI t16)), (4, .int (gI q2)), (0, .ref v0), (1, .ref v1), (2, .int (gI v2)), (3, .int (gI v3))]) dX7_wrap_52 (Nat.le_of_ble_eq_true rfl) rfl ?_
        refine gx_iload_n dX7_wrap_54 rfl 5 rfl ?_
        refine gy_bipush dX7_wrap_55 gcb_43 ?_
        refine gx_bE e (fun _ g19 e => ?_)
        refine gx_iE e (fun c20 e => ?_) (fun c20 e => ?_)
        · refine gy_icmp_eq (tgt := 66) (gi_rgS g19) (by decide) dX7_wrap_57 (by decide) (fun _ => ?_) (fun z => absurd c20 z)
          refine gx_sub (ls2 := [(0, .ref v0), (1, .ref v1), (2, .int (gI v2)), (3, .int (gI v3)), (4, .int (gI q2)), (5, .int (gI t16)), (6, .int (gI q18.1))]) [3, 4, 5, 6, 2, 1, 0] rfl ?_
          exact zb_X7_wrap_66  e
        · refine gy_icmp_eq (tgt := 66) (gi_rgS g19) (by decide) dX7_wrap_57 (by decide) (fun z => absurd z c20) (fun _ => ?_)
          refine gx_iload_n dX7_wrap_60 rfl 5 rfl ?_
          refine gy_bipush dX7_wrap_61 gcb_37 ?_
          refine gx_iE e (fun c58 e => ?_) (fun c58 e => ?_)
          · refine gy_icmp_ne (tgt := 87) (gi_rgS g19) (by decide) dX7_wrap_63 (by decide) (fun z => absurd c58 z) (fun _ => ?_)
            refine gx_sub (ls2 := [(0, .ref v0), (1, .ref v1), (2, .int (gI v2)), (3, .int (gI v3)), (4, .int (gI q2)), (5, .int (gI t16)), (6, .int (gI q18.1))]) [3, 4, 5, 6, 2, 1, 0] rfl ?_
            exact zb_X7_wrap_66  e
          · refine gy_icmp_ne (tgt := 87) (gi_rgS g19) (by decide) dX7_wrap_63 (by decide) (fun _ => ?_) (fun z => absurd z c58)
            refine gx_sub (ls2 := [(0, .ref v0), (1, .ref v1), (2, .int (gI v2)), (3, .int (gI v3)), (4, .int (gI q2)), (5, .int (gI t16)), (6, .int (gI q18.1))]) [3, 4, 5, 6, 2, 1, 0] rfl ?_
            exact zb_X7_wrap_87  e
/-! X7_push  -/
set_option maxRecDepth 100000 in
def f_X7_push (v0 : Nat) (v1 : Int) (h : gi_H) : Option (Int × gi_H) :=
  Option.bind (gi_gI h v0 6 1) fun t1 => Option.bind (gi_rg t1) fun _ => if t1 < 0 then (some ((0 : Int), h)) else (Option.bind (gi_gI h v0 6 1) fun t4 => Option.bind (gi_gR h v0 6 0) fun t5 => Option.bind (gi_ln h t5) fun t6 => Option.bind (gi_rg t4) fun _ => Option.bind (gi_rg t6) fun _ => if t4 < t6 then (Option.bind (gi_gR h v0 6 0) fun t10 => Option.bind (gi_gI h v0 6 1) fun t11 => Option.bind (gi_s1 h t10 t11 v1) fun h12 => Option.bind (gi_gI h12 v0 6 1) fun t13 => Option.bind (gi_pI h12 v0 6 1 (t13 + (1 : Int))) fun h14 => some ((1 : Int), h14)) else (some ((0 : Int), h)))
set_option maxRecDepth 100000 in
theorem z_X7_push {al : Bool} {v0 : Nat} {v1 : Int} {h : gi_H} {res : Int} {h1 : gi_H} (e : f_X7_push v0 v1 h = some (res, h1)) : gx_Cw mX7_push al [.ref v0, .int (gI v1)] (gi_cv h) (.inl (some (.int (gI res)))) (gi_cv h1) := by
  refine gx_enter (by decide +kernel) rfl (Nat.le_of_ble_eq_true rfl) ?_
  show gx_Z mX7_push al al 0 0 0 [(0, .ref v0), (1, .int (gI v1))] [] (gi_cv h) (.inl (some (.int (gI res)))) (gi_cv h1)
  refine gx_aload_n dX7_push_0 rfl 0 rfl ?_
  refine gx_bE e (fun t1 ht1 e => ?_)
  refine gy_fI ht1 dX7_push_1 gf_RX7_15_6_1 (by decide) gkN_6_1 gkR_6_1 ?_
  refine gx_bE e (fun _ g2 e => ?_)
  refine gx_iE e (fun c3 e => ?_) (fun c3 e => ?_)
  · refine gy_if_lt (tgt := 19) (gi_rgS g2) dX7_push_4 (by decide) (fun _ => ?_) (fun z => absurd c3 z)
    refine gy_iconst dX7_push_19 ?_
    cases e
    exact gx_zret (by decide +kernel) dX7_push_20 rfl ⟨Nat.le_of_ble_eq_true rfl, Nat.le_of_ble_eq_true rfl⟩ (fun z => z)
  · refine gy_if_lt (tgt := 19) (gi_rgS g2) dX7_push_4 (by decide) (fun z => absurd z c3) (fun _ => ?_)
    refine gx_aload_n dX7_push_7 rfl 0 rfl ?_
    refine gx_bE e (fun t4 ht4 e => ?_)
    refine gy_fI ht4 dX7_push_8 gf_RX7_15_6_1 (by decide) gkN_6_1 gkR_6_1 ?_
    refine gx_aload_n dX7_push_11 rfl 0 rfl ?_
    refine gx_bE e (fun t5 ht5 e => ?_)
    refine gy_fR ht5 dX7_push_12 gf_RX7_9_6_0 (by decide) gkN_6_0 gkR_6_0 ?_
    refine gx_bE e (fun t6 ht6 e => ?_)
    refine gy_al0 ht6 dX7_push_15 ?_
    refine gx_bE e (fun _ g7 e => ?_)
    refine gx_bE e (fun _ g8 e => ?_)
    refine gx_iE e (fun c9 e => ?_) (fun c9 e => ?_)
    · refine gy_icmp_lt (tgt := 21) (gi_rgS g7) (gi_rgS g8) dX7_push_16 (by decide) (fun _ => ?_) (fun z => absurd c9 z)
      refine gx_aload_n dX7_push_21 rfl 0 rfl ?_
      refine gx_bE e (fun t10 ht10 e => ?_)
      refine gy_fR ht10 dX7_push_22 gf_RX7_9_6_0 (by decide) gkN_6_0 gkR_6_0 ?_
      refine gx_aload_n dX7_push_25 rfl 0 rfl ?_
      refine gx_bE e (fun t11 ht11 e => ?_)
      refine gy_fI ht11 dX7_push_26 gf_RX7_15_6_1 (by decide) gkN_6_1 gkR_6_1 ?_
      refine gx_iload_n dX7_push_29 rfl 1 rfl ?_
      refine gx_bE e (fun h12 hh12 e => ?_)
      refine gy_t1 hh12 dX7_push_30 ?_
      refine gx_aload_n dX7_push_31 rfl 0 rfl ?_
      refine gx_dup dX7_push_32 rfl ?_
      refine gx_bE e (fun t13 ht13 e => ?_)
      refine gy_fI ht13 dX7_push_33 gf_RX7_15_6_1 (by decide) gkN_6_1 gkR_6_1 ?_
      refine gy_iconst dX7_push_36 ?_
      refine gy_iadd dX7_push_37 ?_
      refine gx_bE e (fun h14 hh14 e => ?_)
      refine gy_qI hh14 dX7_push_38 gf_RX7_15_6_1 (by decide) gkN_6_1 rfl (Or.inl rfl) ?_
      refine gy_iconst dX7_push_41 ?_
      cases e
      exact gx_zret (by decide +kernel) dX7_push_42 rfl ⟨Nat.le_of_ble_eq_true rfl, Nat.le_of_ble_eq_true rfl⟩ (fun z => z)
    · refine gy_icmp_lt (tgt := 21) (gi_rgS g7) (gi_rgS g8) dX7_push_16 (by decide) (fun z => absurd z c9) (fun _ => ?_)
      refine gy_iconst dX7_push_19 ?_
      cases e
      exact gx_zret (by decide +kernel) dX7_push_20 rfl ⟨Nat.le_of_ble_eq_true rfl, Nat.le_of_ble_eq_true rfl⟩ (fun z => z)
/-! X7_release  -/
set_option maxRecDepth 100000 in
def b_X7_release_64 (n : Nat) (r10 : Nat → Nat → Int → Int → Int → gi_H → Option (Int × gi_H)) (v0 : Nat) (v1 : Nat) (v2 : Int) (v5 : Int) (s0 : Int) (h : gi_H) : Option (Int × gi_H) :=
  gx_nm (v5 + (1 : Int)) fun t22 => r10 v0 v1 v2 s0 t22 h
set_option maxRecDepth 100000 in
theorem zb_X7_release_64 {al : Bool} {n : Nat} {r10 : Nat → Nat → Int → Int → Int → gi_H → Option (Int × gi_H)} {res : Int} {h1 : gi_H} (hr10 : ∀ (x0 : Nat) (x1 : Nat) (x2 : Int) (x4 : Int) (x5 : Int) (hh : gi_H), r10 x0 x1 x2 x4 x5 hh = some (res, h1) → gx_Z mX7_release al al 0 0 10 [(0, .ref x0), (1, .ref x1), (2, .int (gI x2)), (4, .int (gI x4)), (5, .int (gI x5))] [] (gi_cv hh) (.inl (some (.int (gI res)))) (gi_cv h1)) {v0 : Nat} {v1 : Nat} {v2 : Int} {v5 : Int} {s0 : Int} {h : gi_H} (e : b_X7_release_64 n r10 v0 v1 v2 v5 s0 h = some (res, h1)) : gx_Z mX7_release al al 0 0 64 [(0, .ref v0), (1, .ref v1), (2, .int (gI v2)), (5, .int (gI v5))] [.int (gI s0)] (gi_cv h) (.inl (some (.int (gI res)))) (gi_cv h1) := by
  refine gx_istore (ls2 := [(4, .int (gI s0)), (0, .ref v0), (1, .ref v1), (2, .int (gI v2)), (5, .int (gI v5))]) dX7_release_64 (Nat.le_of_ble_eq_true rfl) rfl ?_
  refine gx_nE e (fun t22 ht22 e => ?_)
  refine gy_iinc (v := t22) (ls2 := [(5, .int (gI t22)), (4, .int (gI s0)), (0, .ref v0), (1, .ref v1), (2, .int (gI v2))]) dX7_release_66 4 rfl ht22 (Nat.le_of_ble_eq_true rfl) rfl ?_
  refine gx_goto (tgt := 10) dX7_release_69 (by decide) ?_
  refine gx_sub (ls2 := [(0, .ref v0), (1, .ref v1), (2, .int (gI v2)), (4, .int (gI s0)), (5, .int (gI t22))]) [2, 3, 4, 1, 0] rfl ?_
  exact hr10 _ _ _ _ _ _ e
set_option maxRecDepth 100000 in
def b_X7_release_10 (n : Nat) (r10 : Nat → Nat → Int → Int → Int → gi_H → Option (Int × gi_H)) (v0 : Nat) (v1 : Nat) (v2 : Int) (v4 : Int) (v5 : Int)  (h : gi_H) : Option (Int × gi_H) :=
  Option.bind (gi_gI h v0 6 1) fun t3 => Option.bind (gi_rg v5) fun _ => Option.bind (gi_rg t3) fun _ => if t3 ≤ v5 then (Option.bind (gi_zo v4) fun _ => some (v4, h)) else (Option.bind (gi_gR h v0 6 0) fun t8 => Option.bind (gi_ln h t8) fun t9 => Option.bind (gi_rg t9) fun _ => if t9 ≤ v5 then (Option.bind (gi_zo v4) fun _ => some (v4, h)) else (Option.bind (gi_rg v4) fun _ => if v4 = 0 then (Option.bind (gi_zo v4) fun _ => some (v4, h)) else (Option.bind (gi_gR h v0 6 0) fun t16 => Option.bind (gi_aI h 1 t16 v5) fun t17 => Option.bind (gi_rg t17) fun _ => if t17 = (-1 : Int) then (Option.bind (gi_is h v1 3) fun _ => Option.bind (f_X4_open v1 v2 h) fun q21 => b_X7_release_64 n r10 v0 v1 v2 v5 q21.1 q21.2) else (Option.bind (gi_gR h v0 6 0) fun t23 => Option.bind (gi_aI h 1 t23 v5) fun t24 => Option.bind (gi_is h v1 3) fun _ => Option.bind (f_X4_extend v1 t24 h) fun q26 => b_X7_release_64 n r10 v0 v1 v2 v5 q26.1 q26.2))))
set_option maxRecDepth 100000 in
theorem zb_X7_release_10 {al : Bool} {n : Nat} {r10 : Nat → Nat → Int → Int → Int → gi_H → Option (Int × gi_H)} {res : Int} {h1 : gi_H} (hr10 : ∀ (x0 : Nat) (x1 : Nat) (x2 : Int) (x4 : Int) (x5 : Int) (hh : gi_H), r10 x0 x1 x2 x4 x5 hh = some (res, h1) → gx_Z mX7_release al al 0 0 10 [(0, .ref x0), (1, .ref x1), (2, .int (gI x2)), (4, .int (gI x4)), (5, .int (gI x5))] [] (gi_cv hh) (.inl (some (.int (gI res)))) (gi_cv h1)) {v0 : Nat} {v1 : Nat} {v2 : Int} {v4 : Int} {v5 : Int}  {h : gi_H} (e : b_X7_release_10 n r10 v0 v1 v2 v4 v5 h = some (res, h1)) : gx_Z mX7_release al al 0 0 10 [(0, .ref v0), (1, .ref v1), (2, .int (gI v2)), (4, .int (gI v4)), (5, .int (gI v5))] [] (gi_cv h) (.inl (some (.int (gI res)))) (gi_cv h1) := by
  refine gx_iload dX7_release_10 4 rfl ?_
  refine gx_aload_n dX7_release_12 rfl 0 rfl ?_
  refine gx_bE e (fun t3 ht3 e => ?_)
  refine gy_fI ht3 dX7_release_13 gf_RX7_15_6_1 (by decide) gkN_6_1 gkR_6_1 ?_
  refine gx_bE e (fun _ g4 e => ?_)
  refine gx_bE e (fun _ g5 e => ?_)
  refine gx_iE e (fun c6 e => ?_) (fun c6 e => ?_)
  · refine gy_icmp_ge (tgt := 72) (gi_rgS g4) (gi_rgS g5) dX7_release_16 (by decide) (fun _ => ?_) (fun z => absurd c6 z)
    refine gx_iload dX7_release_72 3 rfl ?_
    refine gx_bE e (fun _ hu7 e => ?_)
    cases e
    exact gx_zret (gi_zoS hu7) dX7_release_74 rfl ⟨Nat.le_of_ble_eq_true rfl, Nat.le_of_ble_eq_true rfl⟩ (fun z => z)
  · refine gy_icmp_ge (tgt := 72) (gi_rgS g4) (gi_rgS g5) dX7_release_16 (by decide) (fun z => absurd z c6) (fun _ => ?_)
    refine gx_iload dX7_release_19 4 rfl ?_
    refine gx_aload_n dX7_release_21 rfl 0 rfl ?_
    refine gx_bE e (fun t8 ht8 e => ?_)
    refine gy_fR ht8 dX7_release_22 gf_RX7_9_6_0 (by decide) gkN_6_0 gkR_6_0 ?_
    refine gx_bE e (fun t9 ht9 e => ?_)
    refine gy_al0 ht9 dX7_release_25 ?_
    refine gx_bE e (fun _ g10 e => ?_)
    refine gx_iE e (fun c11 e => ?_) (fun c11 e => ?_)
    · refine gy_icmp_ge (tgt := 72) (gi_rgS g4) (gi_rgS g10) dX7_release_26 (by decide) (fun _ => ?_) (fun z => absurd c11 z)
      refine gx_iload dX7_release_72 3 rfl ?_
      refine gx_bE e (fun _ hu12 e => ?_)
      cases e
      exact gx_zret (gi_zoS hu12) dX7_release_74 rfl ⟨Nat.le_of_ble_eq_true rfl, Nat.le_of_ble_eq_true rfl⟩ (fun z => z)
    · refine gy_icmp_ge (tgt := 72) (gi_rgS g4) (gi_rgS g10) dX7_release_26 (by decide) (fun z => absurd z c11) (fun _ => ?_)
      refine gx_iload dX7_release_29 3 rfl ?_
      refine gx_bE e (fun _ g13 e => ?_)
      refine gx_iE e (fun c14 e => ?_) (fun c14 e => ?_)
      · refine gy_if_eq (tgt := 72) (gi_rgS g13) dX7_release_31 (by decide) (fun _ => ?_) (fun z => absurd c14 z)
        refine gx_iload dX7_release_72 3 rfl ?_
        refine gx_bE e (fun _ hu15 e => ?_)
        cases e
        exact gx_zret (gi_zoS hu15) dX7_release_74 rfl ⟨Nat.le_of_ble_eq_true rfl, Nat.le_of_ble_eq_true rfl⟩ (fun z => z)
      · refine gy_if_eq (tgt := 72) (gi_rgS g13) dX7_release_31 (by decide) (fun z => absurd z c14) (fun _ => ?_)
        refine gx_aload_n dX7_release_34 rfl 0 rfl ?_
        refine gx_bE e (fun t16 ht16 e => ?_)
        refine gy_fR ht16 dX7_release_35 gf_RX7_9_6_0 (by decide) gkN_6_0 gkR_6_0 ?_
        refine gx_iload dX7_release_38 4 rfl ?_
        refine gx_bE e (fun t17 ht17 e => ?_)
        refine gy_l1 ht17 dX7_release_40 ?_
        refine gy_iconst dX7_release_41 ?_
        refine gx_bE e (fun _ g18 e => ?_)
        refine gx_iE e (fun c19 e => ?_) (fun c19 e => ?_)
        · refine gy_icmp_ne (tgt := 53) (gi_rgS g18) (by decide) dX7_release_42 (by decide) (fun z => absurd c19 z) (fun _ => ?_)
          refine gx_aload_n dX7_release_45 rfl 1 rfl ?_
          refine gx_iload_n dX7_release_46 rfl 2 rfl ?_
          refine gx_bE e (fun _ hu20 e => ?_)
          refine gx_bE e (fun q21 hq21 e => ?_)
          refine gx_callV (n := 1) (st := []) (As := [.int (gI v2)]) (b := v1) dX7_release_47 (z_X4_open hq21) rfl ⟨rfl, gw_cw_X4_open, gw_3, gp_X4_open, ⟨Nat.le_of_ble_eq_true rfl, Nat.le_of_ble_eq_true rfl⟩⟩ (gi_isS hu20) (by decide) gw_792 gw_793 gw_794 rfl ⟨Nat.le_of_ble_eq_true rfl, Nat.le_of_ble_eq_true rfl⟩ (Nat.le_of_ble_eq_true rfl) (gy_k1 (x := .int (gI q21.1)) (kc2 := 0) (ks2 := 0) ⟨rfl, rfl⟩ ?_) gy_kn
          refine gx_goto (tgt := 64) dX7_release_50 (by decide) ?_
          refine gx_sub (ls2 := [(0, .ref v0), (1, .ref v1), (2, .int (gI v2)), (5, .int (gI v5))]) [0, 1, 2, 4] rfl ?_
          exact zb_X7_release_64 hr10 e
        · refine gy_icmp_ne (tgt := 53) (gi_rgS g18) (by decide) dX7_release_42 (by decide) (fun _ => ?_) (fun z => absurd z c19)
          refine gx_aload_n dX7_release_53 rfl 1 rfl ?_
          refine gx_aload_n dX7_release_54 rfl 0 rfl ?_
          refine gx_bE e (fun t23 ht23 e => ?_)
          refine gy_fR ht23 dX7_release_55 gf_RX7_9_6_0 (by decide) gkN_6_0 gkR_6_0 ?_
          refine gx_iload dX7_release_58 4 rfl ?_
          refine gx_bE e (fun t24 ht24 e => ?_)
          refine gy_l1 ht24 dX7_release_60 ?_
          refine gx_bE e (fun _ hu25 e => ?_)
          refine gx_bE e (fun q26 hq26 e => ?_)
          refine gx_callV (n := 1) (st := []) (As := [.int (gI t24)]) (b := v1) dX7_release_61 (z_X4_extend hq26) rfl ⟨rfl, gw_cw_X4_extend, gw_3, gp_X4_extend, ⟨Nat.le_of_ble_eq_true rfl, Nat.le_of_ble_eq_true rfl⟩⟩ (gi_isS hu25) (by decide) gw_796 gw_797 gw_798 rfl ⟨Nat.le_of_ble_eq_true rfl, Nat.le_of_ble_eq_true rfl⟩ (Nat.le_of_ble_eq_true rfl) (gy_k1 (x := .int (gI q26.1)) (kc2 := 0) (ks2 := 0) ⟨rfl, rfl⟩ ?_) gy_kn
          refine gx_sub (ls2 := [(0, .ref v0), (1, .ref v1), (2, .int (gI v2)), (5, .int (gI v5))]) [0, 1, 2, 4] rfl ?_
          exact zb_X7_release_64 hr10 e
def l_X7_release_10 (n : Nat)  : Nat → Nat → Nat → Int → Int → Int → gi_H → Option (Int × gi_H)
  | 0, _, _, _, _, _, _ => none
  | k + 1, v0, v1, v2, v4, v5, h => b_X7_release_10 n  (l_X7_release_10 n  k) v0 v1 v2 v4 v5 h
theorem zl_X7_release_10 {al : Bool} {n : Nat}  {res : Int} {h1 : gi_H}  : ∀ (k : Nat) (v0 : Nat) (v1 : Nat) (v2 : Int) (v4 : Int) (v5 : Int) (h : gi_H), l_X7_release_10 n  k v0 v1 v2 v4 v5 h = some (res, h1) → gx_Z mX7_release al al 0 0 10 [(0, .ref v0), (1, .ref v1), (2, .int (gI v2)), (4, .int (gI v4)), (5, .int (gI v5))] [] (gi_cv h) (.inl (some (.int (gI res)))) (gi_cv h1)
  | 0, _, _, _, _, _, _, e => gx_0E e
  | k + 1, _, _, _, _, _, _, e => zb_X7_release_10 (n := n)  (zl_X7_release_10  k) e
set_option maxRecDepth 100000 in
def f_X7_release (n : Nat) (v0 : Nat) (v1 : Nat) (v2 : Int) (v3 : Int) (h : gi_H) : Option (Int × gi_H) :=
  Option.bind (gi_is h v1 3) fun _ => Option.bind (f_X4_open v1 v2 h) fun q2 => l_X7_release_10 n  n v0 v1 v2 q2.1 v3 q2.2
set_option maxRecDepth 100000 in
theorem z_X7_release {al : Bool} {n : Nat} {v0 : Nat} {v1 : Nat} {v2 : Int} {v3 : Int} {h : gi_H} {res : Int} {h1 : gi_H} (e : f_X7_release n v0 v1 v2 v3 h = some (res, h1)) : gx_Cw mX7_release al [.ref v0, .ref v1, .int (gI v2), .int (gI v3)] (gi_cv h) (.inl (some (.int (gI res)))) (gi_cv h1) := by
  refine gx_enter (by decide +kernel) rfl (Nat.le_of_ble_eq_true rfl) ?_
  show gx_Z mX7_release al al 0 0 0 [(0, .ref v0), (1, .ref v1), (2, .int (gI v2)), (3, .int (gI v3))] [] (gi_cv h) (.inl (some (.int (gI res)))) (gi_cv h1)
  refine gx_aload_n dX7_release_0 rfl 1 rfl ?_
  refine gx_iload_n dX7_release_1 rfl 2 rfl ?_
  refine gx_bE e (fun _ hu1 e => ?_)
  refine gx_bE e (fun q2 hq2 e => ?_)
  refine gx_callV (n := 1) (st := []) (As := [.int (gI v2)]) (b := v1) dX7_release_2 (z_X4_open hq2) rfl ⟨rfl, gw_cw_X4_open, gw_3, gp_X4_open, ⟨Nat.le_of_ble_eq_true rfl, Nat.le_of_ble_eq_true rfl⟩⟩ (gi_isS hu1) (by decide) gw_792 gw_793 gw_794 rfl ⟨Nat.le_of_ble_eq_true rfl, Nat.le_of_ble_eq_true rfl⟩ (Nat.le_of_ble_eq_true rfl) (gy_k1 (x := .int (gI q2.1)) (kc2 := 0) (ks2 := 0) ⟨rfl, rfl⟩ ?_) gy_kn
  refine gx_istore (ls2 := [(4, .int (gI q2.1)), (0, .ref v0), (1, .ref v1), (2, .int (gI v2)), (3, .int (gI v3))]) dX7_release_5 (Nat.le_of_ble_eq_true rfl) rfl ?_
  refine gx_iload_n dX7_release_7 rfl 4 rfl ?_
  refine gx_istore (ls2 := [(5, .int (gI v3)), (4, .int (gI q2.1)), (0, .ref v0), (1, .ref v1), (2, .int (gI v2)), (3, .int (gI v3))]) dX7_release_8 (Nat.le_of_ble_eq_true rfl) rfl ?_
  refine gx_sub (ls2 := [(0, .ref v0), (1, .ref v1), (2, .int (gI v2)), (4, .int (gI q2.1)), (5, .int (gI v3))]) [2, 3, 4, 1, 0] rfl ?_
  exact zl_X7_release_10  n _ _ _ _ _ _ e
/-! X7_closeBracket  -/
set_option maxRecDepth 100000 in
def b_X7_closeBracket_40 (n : Nat)  (v0 : Nat) (v1 : Nat) (v2 : Int)  (h : gi_H) : Option (Int × gi_H) :=
  Option.bind (gi_is h v1 3) fun _ => Option.bind (f_X4_freeHelper n v1 h) fun q6 => Option.bind (gi_rg v2) fun _ => if v2 = (-1 : Int) then (some ((0 : Int), h)) else (Option.bind (gi_rg q6) fun _ => if q6 = (-1 : Int) then (some ((0 : Int), h)) else (Option.bind (gi_is h v0 6) fun _ => Option.bind (f_X7_release n v0 v1 q6 (v2 + (1 : Int)) h) fun q12 => Option.bind (gi_rg q12.1) fun _ => if q12.1 = 0 then (some ((0 : Int), q12.2)) else (Option.bind (gi_pI q12.2 v0 6 1 v2) fun h15 => Option.bind (gi_is h15 v0 6) fun _ => Option.bind (f_X7_push v0 ((16 : Int) + q6) h15) fun q17 => Option.bind (gi_zo q17.1) fun _ => some (q17.1, q17.2))))
set_option maxRecDepth 100000 in
theorem zb_X7_closeBracket_40 {al : Bool} {n : Nat}  {res : Int} {h1 : gi_H}  {v0 : Nat} {v1 : Nat} {v2 : Int}  {h : gi_H} (e : b_X7_closeBracket_40 n v0 v1 v2 h = some (res, h1)) : gx_Z mX7_closeBracket al al 0 0 40 [(0, .ref v0), (1, .ref v1), (2, .int (gI v2))] [] (gi_cv h) (.inl (some (.int (gI res)))) (gi_cv h1) := by
  refine gx_aload_n dX7_closeBracket_40 rfl 1 rfl ?_
  refine gx_bE e (fun _ hu5 e => ?_)
  refine gx_bE e (fun q6 hq6 e => ?_)
  refine gx_callV (n := 0) (st := []) (As := []) (b := v1) dX7_closeBracket_41 (z_X4_freeHelper hq6) rfl ⟨rfl, gw_cw_X4_freeHelper, gw_3, gp_X4_freeHelper, ⟨Nat.le_of_ble_eq_true rfl, Nat.le_of_ble_eq_true rfl⟩⟩ (gi_isS hu5) (by decide) gw_783 gw_784 gw_785 rfl ⟨Nat.le_of_ble_eq_true rfl, Nat.le_of_ble_eq_true rfl⟩ (Nat.le_of_ble_eq_true rfl) (gy_k1 (x := .int (gI q6)) (kc2 := 0) (ks2 := 0) ⟨rfl, rfl⟩ ?_) gy_kn
  refine gx_istore_n (ls2 := [(3, .int (gI q6)), (0, .ref v0), (1, .ref v1), (2, .int (gI v2))]) dX7_closeBracket_44 rfl (Nat.le_of_ble_eq_true rfl) rfl ?_
  refine gx_iload_n dX7_closeBracket_45 rfl 3 rfl ?_
  refine gy_iconst dX7_closeBracket_46 ?_
  refine gx_bE e (fun _ g7 e => ?_)
  refine gx_iE e (fun c8 e => ?_) (fun c8 e => ?_)
  · refine gy_icmp_eq (tgt := 67) (gi_rgS g7) (by decide) dX7_closeBracket_47 (by decide) (fun _ => ?_) (fun z => absurd c8 z)
    refine gy_iconst dX7_closeBracket_67 ?_
    cases e
    exact gx_zret (by decide +kernel) dX7_closeBracket_68 rfl ⟨Nat.le_of_ble_eq_true rfl, Nat.le_of_ble_eq_true rfl⟩ (fun z => z)
  · refine gy_icmp_eq (tgt := 67) (gi_rgS g7) (by decide) dX7_closeBracket_47 (by decide) (fun z => absurd z c8) (fun _ => ?_)
    refine gx_iload_n dX7_closeBracket_50 rfl 0 rfl ?_
    refine gy_iconst dX7_closeBracket_51 ?_
    refine gx_bE e (fun _ g9 e => ?_)
    refine gx_iE e (fun c10 e => ?_) (fun c10 e => ?_)
    · refine gy_icmp_eq (tgt := 67) (gi_rgS g9) (by decide) dX7_closeBracket_52 (by decide) (fun _ => ?_) (fun z => absurd c10 z)
      refine gy_iconst dX7_closeBracket_67 ?_
      cases e
      exact gx_zret (by decide +kernel) dX7_closeBracket_68 rfl ⟨Nat.le_of_ble_eq_true rfl, Nat.le_of_ble_eq_true rfl⟩ (fun z => z)
    · refine gy_icmp_eq (tgt := 67) (gi_rgS g9) (by decide) dX7_closeBracket_52 (by decide) (fun z => absurd z c10) (fun _ => ?_)
      refine gx_aload_n dX7_closeBracket_55 rfl 1 rfl ?_
      refine gx_aload_n dX7_closeBracket_56 rfl 2 rfl ?_
      refine gx_iload_n dX7_closeBracket_57 rfl 0 rfl ?_
      refine gx_iload_n dX7_closeBracket_58 rfl 3 rfl ?_
      refine gy_iconst dX7_closeBracket_59 ?_
      refine gy_iadd dX7_closeBracket_60 ?_
      refine gx_bE e (fun _ hu11 e => ?_)
      refine gx_bE e (fun q12 hq12 e => ?_)
      refine gx_callV (n := 3) (st := []) (As := [.ref v1, .int (gI q6), .int (gI (v2 + (1 : Int)))]) (b := v0) dX7_closeBracket_61 (z_X7_release hq12) rfl ⟨rfl, gw_cw_X7_release, gw_4, gp_X7_release, ⟨Nat.le_of_ble_eq_true rfl, Nat.le_of_ble_eq_true rfl⟩⟩ (gi_isS hu11) (by decide) gw_810 gw_812 gs_23 rfl ⟨Nat.le_of_ble_eq_true rfl, Nat.le_of_ble_eq_true rfl⟩ (Nat.le_of_ble_eq_true rfl) (gy_k1 (x := .int (gI q12.1)) (kc2 := 0) (ks2 := 0) ⟨rfl, rfl⟩ ?_) gy_kn
      refine gx_bE e (fun _ g13 e => ?_)
      refine gx_iE e (fun c14 e => ?_) (fun c14 e => ?_)
      · refine gy_if_ne (tgt := 69) (gi_rgS g13) dX7_closeBracket_64 (by decide) (fun z => absurd c14 z) (fun _ => ?_)
        refine gy_iconst dX7_closeBracket_67 ?_
        cases e
        exact gx_zret (by decide +kernel) dX7_closeBracket_68 rfl ⟨Nat.le_of_ble_eq_true rfl, Nat.le_of_ble_eq_true rfl⟩ (fun z => z)
      · refine gy_if_ne (tgt := 69) (gi_rgS g13) dX7_closeBracket_64 (by decide) (fun _ => ?_) (fun z => absurd z c14)
        refine gx_aload_n dX7_closeBracket_69 rfl 1 rfl ?_
        refine gx_iload_n dX7_closeBracket_70 rfl 3 rfl ?_
        refine gx_bE e (fun h15 hh15 e => ?_)
        refine gy_qI hh15 dX7_closeBracket_71 gf_RX7_15_6_1 (by decide) gkN_6_1 rfl (Or.inl rfl) ?_
        refine gx_aload_n dX7_closeBracket_74 rfl 1 rfl ?_
        refine gy_bipush dX7_closeBracket_75 gcb_16 ?_
        refine gx_iload_n dX7_closeBracket_77 rfl 0 rfl ?_
        refine gy_iadd dX7_closeBracket_78 ?_
        refine gx_bE e (fun _ hu16 e => ?_)
        refine gx_bE e (fun q17 hq17 e => ?_)
        refine gx_callV (n := 1) (st := []) (As := [.int (gI ((16 : Int) + q6))]) (b := v0) dX7_closeBracket_79 (z_X7_push hq17) rfl ⟨rfl, gw_cw_X7_push, gw_4, gp_X7_push, ⟨Nat.le_of_ble_eq_true rfl, Nat.le_of_ble_eq_true rfl⟩⟩ (gi_isS hu16) (by decide) gw_801 gw_803 gs_21 rfl ⟨Nat.le_of_ble_eq_true rfl, Nat.le_of_ble_eq_true rfl⟩ (Nat.le_of_ble_eq_true rfl) (gy_k1 (x := .int (gI q17.1)) (kc2 := 0) (ks2 := 0) ⟨rfl, rfl⟩ ?_) gy_kn
        refine gx_bE e (fun _ hu18 e => ?_)
        cases e
        exact gx_zret (gi_zoS hu18) dX7_closeBracket_82 rfl ⟨Nat.le_of_ble_eq_true rfl, Nat.le_of_ble_eq_true rfl⟩ (fun z => z)
set_option maxRecDepth 100000 in
def b_X7_closeBracket_34 (n : Nat) (r4 : Nat → Nat → Int → Int → gi_H → Option (Int × gi_H)) (v0 : Nat) (v1 : Nat) (v2 : Int) (v3 : Int)  (h : gi_H) : Option (Int × gi_H) :=
  gx_nm (v3 + (1 : Int)) fun t27 => r4 v0 v1 v2 t27 h
set_option maxRecDepth 100000 in
theorem zb_X7_closeBracket_34 {al : Bool} {n : Nat} {r4 : Nat → Nat → Int → Int → gi_H → Option (Int × gi_H)} {res : Int} {h1 : gi_H} (hr4 : ∀ (x0 : Nat) (x1 : Nat) (x2 : Int) (x3 : Int) (hh : gi_H), r4 x0 x1 x2 x3 hh = some (res, h1) → gx_Z mX7_closeBracket al al 0 0 4 [(0, .ref x0), (1, .ref x1), (2, .int (gI x2)), (3, .int (gI x3))] [] (gi_cv hh) (.inl (some (.int (gI res)))) (gi_cv h1)) {v0 : Nat} {v1 : Nat} {v2 : Int} {v3 : Int}  {h : gi_H} (e : b_X7_closeBracket_34 n r4 v0 v1 v2 v3 h = some (res, h1)) : gx_Z mX7_closeBracket al al 0 0 34 [(0, .ref v0), (1, .ref v1), (2, .int (gI v2)), (3, .int (gI v3))] [] (gi_cv h) (.inl (some (.int (gI res)))) (gi_cv h1) := by
  refine gx_nE e (fun t27 ht27 e => ?_)
  refine gy_iinc (v := t27) (ls2 := [(3, .int (gI t27)), (0, .ref v0), (1, .ref v1), (2, .int (gI v2))]) dX7_closeBracket_34 3 rfl ht27 (Nat.le_of_ble_eq_true rfl) rfl ?_
  refine gx_goto (tgt := 4) dX7_closeBracket_37 (by decide) ?_
  refine gx_sub (ls2 := [(0, .ref v0), (1, .ref v1), (2, .int (gI v2)), (3, .int (gI t27))]) [1, 2, 3, 0] rfl ?_
  exact hr4 _ _ _ _ _ e
set_option maxRecDepth 100000 in
def b_X7_closeBracket_4 (n : Nat) (r4 : Nat → Nat → Int → Int → gi_H → Option (Int × gi_H)) (v0 : Nat) (v1 : Nat) (v2 : Int) (v3 : Int)  (h : gi_H) : Option (Int × gi_H) :=
  Option.bind (gi_gI h v0 6 1) fun t1 => Option.bind (gi_rg v3) fun _ => Option.bind (gi_rg t1) fun _ => if t1 ≤ v3 then (b_X7_closeBracket_40 n  v0 v1 v2 h) else (Option.bind (gi_gR h v0 6 0) fun t19 => Option.bind (gi_ln h t19) fun t20 => Option.bind (gi_rg t20) fun _ => if t20 ≤ v3 then (b_X7_closeBracket_40 n  v0 v1 v2 h) else (Option.bind (gi_gR h v0 6 0) fun t23 => Option.bind (gi_aI h 1 t23 v3) fun t24 => Option.bind (gi_rg t24) fun _ => if t24 = (-2 : Int) then (b_X7_closeBracket_34 n r4 v0 v1 v3 v3 h) else (b_X7_closeBracket_34 n r4 v0 v1 v2 v3 h)))
set_option maxRecDepth 100000 in
theorem zb_X7_closeBracket_4 {al : Bool} {n : Nat} {r4 : Nat → Nat → Int → Int → gi_H → Option (Int × gi_H)} {res : Int} {h1 : gi_H} (hr4 : ∀ (x0 : Nat) (x1 : Nat) (x2 : Int) (x3 : Int) (hh : gi_H), r4 x0 x1 x2 x3 hh = some (res, h1) → gx_Z mX7_closeBracket al al 0 0 4 [(0, .ref x0), (1, .ref x1), (2, .int (gI x2)), (3, .int (gI x3))] [] (gi_cv hh) (.inl (some (.int (gI res)))) (gi_cv h1)) {v0 : Nat} {v1 : Nat} {v2 : Int} {v3 : Int}  {h : gi_H} (e : b_X7_closeBracket_4 n r4 v0 v1 v2 v3 h = some (res, h1)) : gx_Z mX7_closeBracket al al 0 0 4 [(0, .ref v0), (1, .ref v1), (2, .int (gI v2)), (3, .int (gI v3))] [] (gi_cv h) (.inl (some (.int (gI res)))) (gi_cv h1) := by
  refine gx_iload_n dX7_closeBracket_4 rfl 3 rfl ?_
  refine gx_aload_n dX7_closeBracket_5 rfl 0 rfl ?_
  refine gx_bE e (fun t1 ht1 e => ?_)
  refine gy_fI ht1 dX7_closeBracket_6 gf_RX7_15_6_1 (by decide) gkN_6_1 gkR_6_1 ?_
  refine gx_bE e (fun _ g2 e => ?_)
  refine gx_bE e (fun _ g3 e => ?_)
  refine gx_iE e (fun c4 e => ?_) (fun c4 e => ?_)
  · refine gy_icmp_ge (tgt := 40) (gi_rgS g2) (gi_rgS g3) dX7_closeBracket_9 (by decide) (fun _ => ?_) (fun z => absurd c4 z)
    refine gx_sub (ls2 := [(0, .ref v0), (1, .ref v1), (2, .int (gI v2))]) [0, 1, 2] rfl ?_
    exact zb_X7_closeBracket_40  e
  · refine gy_icmp_ge (tgt := 40) (gi_rgS g2) (gi_rgS g3) dX7_closeBracket_9 (by decide) (fun z => absurd z c4) (fun _ => ?_)
    refine gx_iload_n dX7_closeBracket_12 rfl 3 rfl ?_
    refine gx_aload_n dX7_closeBracket_13 rfl 0 rfl ?_
    refine gx_bE e (fun t19 ht19 e => ?_)
    refine gy_fR ht19 dX7_closeBracket_14 gf_RX7_9_6_0 (by decide) gkN_6_0 gkR_6_0 ?_
    refine gx_bE e (fun t20 ht20 e => ?_)
    refine gy_al0 ht20 dX7_closeBracket_17 ?_
    refine gx_bE e (fun _ g21 e => ?_)
    refine gx_iE e (fun c22 e => ?_) (fun c22 e => ?_)
    · refine gy_icmp_ge (tgt := 40) (gi_rgS g2) (gi_rgS g21) dX7_closeBracket_18 (by decide) (fun _ => ?_) (fun z => absurd c22 z)
      refine gx_sub (ls2 := [(0, .ref v0), (1, .ref v1), (2, .int (gI v2))]) [0, 1, 2] rfl ?_
      exact zb_X7_closeBracket_40  e
    · refine gy_icmp_ge (tgt := 40) (gi_rgS g2) (gi_rgS g21) dX7_closeBracket_18 (by decide) (fun z => absurd z c22) (fun _ => ?_)
      refine gx_aload_n dX7_closeBracket_21 rfl 0 rfl ?_
      refine gx_bE e (fun t23 ht23 e => ?_)
      refine gy_fR ht23 dX7_closeBracket_22 gf_RX7_9_6_0 (by decide) gkN_6_0 gkR_6_0 ?_
      refine gx_iload_n dX7_closeBracket_25 rfl 3 rfl ?_
      refine gx_bE e (fun t24 ht24 e => ?_)
      refine gy_l1 ht24 dX7_closeBracket_26 ?_
      refine gy_bipush dX7_closeBracket_27 gcb_m2 ?_
      refine gx_bE e (fun _ g25 e => ?_)
      refine gx_iE e (fun c26 e => ?_) (fun c26 e => ?_)
      · refine gy_icmp_ne (tgt := 34) (gi_rgS g25) (by decide) dX7_closeBracket_29 (by decide) (fun z => absurd c26 z) (fun _ => ?_)
        refine gx_iload_n dX7_closeBracket_32 rfl 3 rfl ?_
        refine gx_istore_n (ls2 := [(2, .int (gI v3)), (0, .ref v0), (1, .ref v1), (3, .int (gI v3))]) dX7_closeBracket_33 rfl (Nat.le_of_ble_eq_true rfl) rfl ?_
        refine gx_sub (ls2 := [(0, .ref v0), (1, .ref v1), (2, .int (gI v3)), (3, .int (gI v3))]) [1, 2, 0, 3] rfl ?_
        exact zb_X7_closeBracket_34 hr4 e
      · refine gy_icmp_ne (tgt := 34) (gi_rgS g25) (by decide) dX7_closeBracket_29 (by decide) (fun _ => ?_) (fun z => absurd z c26)
        exact zb_X7_closeBracket_34 hr4 e
def l_X7_closeBracket_4 (n : Nat)  : Nat → Nat → Nat → Int → Int → gi_H → Option (Int × gi_H)
  | 0, _, _, _, _, _ => none
  | k + 1, v0, v1, v2, v3, h => b_X7_closeBracket_4 n  (l_X7_closeBracket_4 n  k) v0 v1 v2 v3 h
theorem zl_X7_closeBracket_4 {al : Bool} {n : Nat}  {res : Int} {h1 : gi_H}  : ∀ (k : Nat) (v0 : Nat) (v1 : Nat) (v2 : Int) (v3 : Int) (h : gi_H), l_X7_closeBracket_4 n  k v0 v1 v2 v3 h = some (res, h1) → gx_Z mX7_closeBracket al al 0 0 4 [(0, .ref v0), (1, .ref v1), (2, .int (gI v2)), (3, .int (gI v3))] [] (gi_cv h) (.inl (some (.int (gI res)))) (gi_cv h1)
  | 0, _, _, _, _, _, e => gx_0E e
  | k + 1, _, _, _, _, _, e => zb_X7_closeBracket_4 (n := n)  (zl_X7_closeBracket_4  k) e
set_option maxRecDepth 100000 in
def f_X7_closeBracket (n : Nat) (v0 : Nat) (v1 : Nat) (h : gi_H) : Option (Int × gi_H) :=
  l_X7_closeBracket_4 n  n v0 v1 (-1 : Int) (0 : Int) h
set_option maxRecDepth 100000 in
theorem z_X7_closeBracket {al : Bool} {n : Nat} {v0 : Nat} {v1 : Nat} {h : gi_H} {res : Int} {h1 : gi_H} (e : f_X7_closeBracket n v0 v1 h = some (res, h1)) : gx_Cw mX7_closeBracket al [.ref v0, .ref v1] (gi_cv h) (.inl (some (.int (gI res)))) (gi_cv h1) := by
  refine gx_enter (by decide +kernel) rfl (Nat.le_of_ble_eq_true rfl) ?_
  show gx_Z mX7_closeBracket al al 0 0 0 [(0, .ref v0), (1, .ref v1)] [] (gi_cv h) (.inl (some (.int (gI res)))) (gi_cv h1)
  refine gy_iconst dX7_closeBracket_0 ?_
  refine gx_istore_n (ls2 := [(2, .int (gI (-1 : Int))), (0, .ref v0), (1, .ref v1)]) dX7_closeBracket_1 rfl (Nat.le_of_ble_eq_true rfl) rfl ?_
  refine gy_iconst dX7_closeBracket_2 ?_
  refine gx_istore_n (ls2 := [(3, .int (gI (0 : Int))), (2, .int (gI (-1 : Int))), (0, .ref v0), (1, .ref v1)]) dX7_closeBracket_3 rfl (Nat.le_of_ble_eq_true rfl) rfl ?_
  refine gx_sub (ls2 := [(0, .ref v0), (1, .ref v1), (2, .int (gI (-1 : Int))), (3, .int (gI (0 : Int)))]) [2, 3, 1, 0] rfl ?_
  exact zl_X7_closeBracket_4  n _ _ _ _ _ e
/-! X7_read  -/
set_option maxRecDepth 100000 in
def b_X7_read_218 (n : Nat)    (h : gi_H) : Option (Int × gi_H) :=
  some ((0 : Int), h)
set_option maxRecDepth 100000 in
theorem zb_X7_read_218 {al : Bool} {n : Nat}  {res : Int} {h1 : gi_H}    {h : gi_H} (e : b_X7_read_218 n  h = some (res, h1)) : gx_Z mX7_read al al 0 0 218 [] [] (gi_cv h) (.inl (some (.int (gI res)))) (gi_cv h1) := by
  refine gy_iconst dX7_read_218 ?_
  cases e
  exact gx_zret (by decide +kernel) dX7_read_219 rfl ⟨Nat.le_of_ble_eq_true rfl, Nat.le_of_ble_eq_true rfl⟩ (fun z => z)
set_option maxRecDepth 100000 in
def b_X7_read_192 (n : Nat)  (v0 : Nat) (v1 : Nat) (v2 : Nat) (v4 : Int)  (h : gi_H) : Option (Int × gi_H) :=
  Option.bind (gi_rg v4) fun _ => if v4 = 0 then (b_X7_read_218 n   h) else (Option.bind (gi_is h v1 7) fun _ => Option.bind (f_X8_letter v1 (0 : Int) h) fun q10 => Option.bind (gi_is h v0 6) fun _ => Option.bind (f_X7_release n v0 v2 (q10 - (65 : Int)) (0 : Int) h) fun q12 => Option.bind (gi_rg q12.1) fun _ => if q12.1 = 0 then (b_X7_read_218 n   q12.2) else (some ((1 : Int), q12.2)))
set_option maxRecDepth 100000 in
theorem zb_X7_read_192 {al : Bool} {n : Nat}  {res : Int} {h1 : gi_H}  {v0 : Nat} {v1 : Nat} {v2 : Nat} {v4 : Int}  {h : gi_H} (e : b_X7_read_192 n v0 v1 v2 v4 h = some (res, h1)) : gx_Z mX7_read al al 0 0 192 [(0, .ref v0), (1, .ref v1), (2, .ref v2), (4, .int (gI v4))] [] (gi_cv h) (.inl (some (.int (gI res)))) (gi_cv h1) := by
  refine gx_iload dX7_read_192 3 rfl ?_
  refine gx_bE e (fun _ g7 e => ?_)
  refine gx_iE e (fun c8 e => ?_) (fun c8 e => ?_)
  · refine gy_if_eq (tgt := 218) (gi_rgS g7) dX7_read_194 (by decide) (fun _ => ?_) (fun z => absurd c8 z)
    refine gx_sub (ls2 := []) [] rfl ?_
    exact zb_X7_read_218  e
  · refine gy_if_eq (tgt := 218) (gi_rgS g7) dX7_read_194 (by decide) (fun z => absurd z c8) (fun _ => ?_)
    refine gx_aload_n dX7_read_197 rfl 0 rfl ?_
    refine gx_aload_n dX7_read_198 rfl 2 rfl ?_
    refine gx_aload_n dX7_read_199 rfl 1 rfl ?_
    refine gy_iconst dX7_read_200 ?_
    refine gx_bE e (fun _ hu9 e => ?_)
    refine gx_bE e (fun q10 hq10 e => ?_)
    refine gx_callV (n := 1) (st := [.ref v2, .ref v0]) (As := [.int (gI (0 : Int))]) (b := v1) dX7_read_201 (z_X8_letter hq10) rfl ⟨rfl, gw_cw_X8_letter, gw_2, gp_X8_letter, ⟨Nat.le_of_ble_eq_true rfl, Nat.le_of_ble_eq_true rfl⟩⟩ (gi_isS hu9) (by decide) gw_778 gw_361 gw_362 rfl ⟨Nat.le_of_ble_eq_true rfl, Nat.le_of_ble_eq_true rfl⟩ (Nat.le_of_ble_eq_true rfl) (gy_k1 (x := .int (gI q10)) (kc2 := 0) (ks2 := 0) ⟨rfl, rfl⟩ ?_) gy_kn
    refine gy_bipush dX7_read_204 gcb_65 ?_
    refine gy_isub dX7_read_206 ?_
    refine gy_iconst dX7_read_207 ?_
    refine gx_bE e (fun _ hu11 e => ?_)
    refine gx_bE e (fun q12 hq12 e => ?_)
    refine gx_callV (n := 3) (st := []) (As := [.ref v2, .int (gI (q10 - (65 : Int))), .int (gI (0 : Int))]) (b := v0) dX7_read_208 (z_X7_release hq12) rfl ⟨rfl, gw_cw_X7_release, gw_4, gp_X7_release, ⟨Nat.le_of_ble_eq_true rfl, Nat.le_of_ble_eq_true rfl⟩⟩ (gi_isS hu11) (by decide) gw_810 gw_812 gs_23 rfl ⟨Nat.le_of_ble_eq_true rfl, Nat.le_of_ble_eq_true rfl⟩ (Nat.le_of_ble_eq_true rfl) (gy_k1 (x := .int (gI q12.1)) (kc2 := 0) (ks2 := 0) ⟨rfl, rfl⟩ ?_) gy_kn
    refine gx_bE e (fun _ g13 e => ?_)
    refine gx_iE e (fun c14 e => ?_) (fun c14 e => ?_)
    · refine gy_if_eq (tgt := 218) (gi_rgS g13) dX7_read_211 (by decide) (fun _ => ?_) (fun z => absurd c14 z)
      refine gx_sub (ls2 := []) [] rfl ?_
      exact zb_X7_read_218  e
    · refine gy_if_eq (tgt := 218) (gi_rgS g13) dX7_read_211 (by decide) (fun z => absurd z c14) (fun _ => ?_)
      refine gy_iconst dX7_read_214 ?_
      refine gx_goto (tgt := 219) dX7_read_215 (by decide) ?_
      cases e
      exact gx_zret (by decide +kernel) dX7_read_219 rfl ⟨Nat.le_of_ble_eq_true rfl, Nat.le_of_ble_eq_true rfl⟩ (fun z => z)
set_option maxRecDepth 100000 in
def b_X7_read_185 (n : Nat) (r13 : Nat → Nat → Nat → Int → Int → Int → gi_H → Option (Int × gi_H)) (v0 : Nat) (v1 : Nat) (v2 : Nat) (v4 : Int) (v5 : Int) (s0 : Int) (h : gi_H) : Option (Int × gi_H) :=
  gx_nm (v5 + (1 : Int)) fun t33 => r13 v0 v1 v2 s0 v4 t33 h
set_option maxRecDepth 100000 in
theorem zb_X7_read_185 {al : Bool} {n : Nat} {r13 : Nat → Nat → Nat → Int → Int → Int → gi_H → Option (Int × gi_H)} {res : Int} {h1 : gi_H} (hr13 : ∀ (x0 : Nat) (x1 : Nat) (x2 : Nat) (x3 : Int) (x4 : Int) (x5 : Int) (hh : gi_H), r13 x0 x1 x2 x3 x4 x5 hh = some (res, h1) → gx_Z mX7_read al al 0 0 13 [(0, .ref x0), (1, .ref x1), (2, .ref x2), (3, .int (gI x3)), (4, .int (gI x4)), (5, .int (gI x5))] [] (gi_cv hh) (.inl (some (.int (gI res)))) (gi_cv h1)) {v0 : Nat} {v1 : Nat} {v2 : Nat} {v4 : Int} {v5 : Int} {s0 : Int} {h : gi_H} (e : b_X7_read_185 n r13 v0 v1 v2 v4 v5 s0 h = some (res, h1)) : gx_Z mX7_read al al 0 0 185 [(0, .ref v0), (1, .ref v1), (2, .ref v2), (4, .int (gI v4)), (5, .int (gI v5))] [.int (gI s0)] (gi_cv h) (.inl (some (.int (gI res)))) (gi_cv h1) := by
  refine gx_istore_n (ls2 := [(3, .int (gI s0)), (0, .ref v0), (1, .ref v1), (2, .ref v2), (4, .int (gI v4)), (5, .int (gI v5))]) dX7_read_185 rfl (Nat.le_of_ble_eq_true rfl) rfl ?_
  refine gx_nE e (fun t33 ht33 e => ?_)
  refine gy_iinc (v := t33) (ls2 := [(5, .int (gI t33)), (3, .int (gI s0)), (0, .ref v0), (1, .ref v1), (2, .ref v2), (4, .int (gI v4))]) dX7_read_186 5 rfl ht33 (Nat.le_of_ble_eq_true rfl) rfl ?_
  refine gx_goto (tgt := 13) dX7_read_189 (by decide) ?_
  refine gx_sub (ls2 := [(0, .ref v0), (1, .ref v1), (2, .ref v2), (3, .int (gI s0)), (4, .int (gI v4)), (5, .int (gI t33))]) [2, 3, 4, 1, 5, 0] rfl ?_
  exact hr13 _ _ _ _ _ _ _ e
set_option maxRecDepth 100000 in
def b_X7_read_173 (n : Nat) (r13 : Nat → Nat → Nat → Int → Int → Int → gi_H → Option (Int × gi_H)) (v0 : Nat) (v1 : Nat) (v2 : Nat) (v4 : Int) (v5 : Int) (v6 : Int)  (h : gi_H) : Option (Int × gi_H) :=
  Option.bind (gi_rg v6) fun _ => if v6 = (37 : Int) then (b_X7_read_185 n r13 v0 v1 v2 v4 v5 (1 : Int) h) else (b_X7_read_185 n r13 v0 v1 v2 v4 v5 (0 : Int) h)
set_option maxRecDepth 100000 in
theorem zb_X7_read_173 {al : Bool} {n : Nat} {r13 : Nat → Nat → Nat → Int → Int → Int → gi_H → Option (Int × gi_H)} {res : Int} {h1 : gi_H} (hr13 : ∀ (x0 : Nat) (x1 : Nat) (x2 : Nat) (x3 : Int) (x4 : Int) (x5 : Int) (hh : gi_H), r13 x0 x1 x2 x3 x4 x5 hh = some (res, h1) → gx_Z mX7_read al al 0 0 13 [(0, .ref x0), (1, .ref x1), (2, .ref x2), (3, .int (gI x3)), (4, .int (gI x4)), (5, .int (gI x5))] [] (gi_cv hh) (.inl (some (.int (gI res)))) (gi_cv h1)) {v0 : Nat} {v1 : Nat} {v2 : Nat} {v4 : Int} {v5 : Int} {v6 : Int}  {h : gi_H} (e : b_X7_read_173 n r13 v0 v1 v2 v4 v5 v6 h = some (res, h1)) : gx_Z mX7_read al al 0 0 173 [(0, .ref v0), (1, .ref v1), (2, .ref v2), (4, .int (gI v4)), (5, .int (gI v5)), (6, .int (gI v6))] [] (gi_cv h) (.inl (some (.int (gI res)))) (gi_cv h1) := by
  refine gx_iload dX7_read_173 5 rfl ?_
  refine gy_bipush dX7_read_175 gcb_37 ?_
  refine gx_bE e (fun _ g31 e => ?_)
  refine gx_iE e (fun c32 e => ?_) (fun c32 e => ?_)
  · refine gy_icmp_ne (tgt := 184) (gi_rgS g31) (by decide) dX7_read_177 (by decide) (fun z => absurd c32 z) (fun _ => ?_)
    refine gy_iconst dX7_read_180 ?_
    refine gx_goto (tgt := 185) dX7_read_181 (by decide) ?_
    refine gx_sub (ls2 := [(0, .ref v0), (1, .ref v1), (2, .ref v2), (4, .int (gI v4)), (5, .int (gI v5))]) [0, 1, 2, 3, 4] rfl ?_
    exact zb_X7_read_185 hr13 e
  · refine gy_icmp_ne (tgt := 184) (gi_rgS g31) (by decide) dX7_read_177 (by decide) (fun _ => ?_) (fun z => absurd z c32)
    refine gy_iconst dX7_read_184 ?_
    refine gx_sub (ls2 := [(0, .ref v0), (1, .ref v1), (2, .ref v2), (4, .int (gI v4)), (5, .int (gI v5))]) [0, 1, 2, 3, 4] rfl ?_
    exact zb_X7_read_185 hr13 e
set_option maxRecDepth 100000 in
def b_X7_read_13 (n : Nat) (r13 : Nat → Nat → Nat → Int → Int → Int → gi_H → Option (Int × gi_H)) (v0 : Nat) (v1 : Nat) (v2 : Nat) (v3 : Int) (v4 : Int) (v5 : Int)  (h : gi_H) : Option (Int × gi_H) :=
  Option.bind (gi_is h v1 7) fun _ => Option.bind (f_X8_length v1 h) fun q3 => Option.bind (gi_rg v5) fun _ => Option.bind (gi_rg q3) fun _ => if q3 ≤ v5 then (b_X7_read_192 n  v0 v1 v2 v4 h) else (Option.bind (gi_rg v4) fun _ => if v4 = 0 then (b_X7_read_192 n  v0 v1 v2 v4 h) else (Option.bind (gi_is h v1 7) fun _ => Option.bind (f_X8_letter v1 v5 h) fun q18 => Option.bind (gi_rg v3) fun _ => if v3 = 0 then (Option.bind (f_X11_isTerminalLetter q18 h) fun q21 => Option.bind (gi_rg q21) fun _ => if q21 = 0 then (Option.bind (f_X11_isNonterminalLetter q18 h) fun q24 => Option.bind (gi_rg q24) fun _ => if q24 = 0 then (Option.bind (gi_rg q18) fun _ => if q18 = (124 : Int) then (Option.bind (gi_is h v0 6) fun _ => Option.bind (f_X7_push v0 (-1 : Int) h) fun q30 => b_X7_read_173 n r13 v0 v1 v2 q30.1 v5 q18 q30.2) else (if q18 = (40 : Int) then (Option.bind (gi_is h v0 6) fun _ => Option.bind (f_X7_push v0 (-2 : Int) h) fun q36 => b_X7_read_173 n r13 v0 v1 v2 q36.1 v5 q18 q36.2) else (if q18 = (41 : Int) then (Option.bind (gi_is h v0 6) fun _ => Option.bind (f_X7_closeBracket n v0 v2 h) fun q39 => b_X7_read_173 n r13 v0 v1 v2 q39.1 v5 q18 q39.2) else (Option.bind (f_X11_isRepeat q18 h) fun q40 => Option.bind (gi_rg q40) fun _ => if q40 = 0 then (b_X7_read_173 n r13 v0 v1 v2 v4 v5 q18 h) else (Option.bind (gi_is h v0 6) fun _ => Option.bind (f_X7_wrap n v0 v2 q18 (-1 : Int) h) fun q44 => b_X7_read_173 n r13 v0 v1 v2 q44.1 v5 q18 q44.2))))) else (Option.bind (gi_is h v0 6) fun _ => Option.bind (f_X7_push v0 (((16 : Int) + q18) - (65 : Int)) h) fun q46 => b_X7_read_173 n r13 v0 v1 v2 q46.1 v5 q18 q46.2)) else (Option.bind (gi_is h v0 6) fun _ => Option.bind (f_X7_push v0 (q18 - (97 : Int)) h) fun q48 => b_X7_read_173 n r13 v0 v1 v2 q48.1 v5 q18 q48.2)) else (Option.bind (gi_is h v0 6) fun _ => Option.bind (f_X7_wrap n v0 v2 (37 : Int) (q18 - (97 : Int)) h) fun q50 => b_X7_read_173 n r13 v0 v1 v2 q50.1 v5 q18 q50.2)))
set_option maxRecDepth 100000 in
theorem zb_X7_read_13 {al : Bool} {n : Nat} {r13 : Nat → Nat → Nat → Int → Int → Int → gi_H → Option (Int × gi_H)} {res : Int} {h1 : gi_H} (hr13 : ∀ (x0 : Nat) (x1 : Nat) (x2 : Nat) (x3 : Int) (x4 : Int) (x5 : Int) (hh : gi_H), r13 x0 x1 x2 x3 x4 x5 hh = some (res, h1) → gx_Z mX7_read al al 0 0 13 [(0, .ref x0), (1, .ref x1), (2, .ref x2), (3, .int (gI x3)), (4, .int (gI x4)), (5, .int (gI x5))] [] (gi_cv hh) (.inl (some (.int (gI res)))) (gi_cv h1)) {v0 : Nat} {v1 : Nat} {v2 : Nat} {v3 : Int} {v4 : Int} {v5 : Int}  {h : gi_H} (e : b_X7_read_13 n r13 v0 v1 v2 v3 v4 v5 h = some (res, h1)) : gx_Z mX7_read al al 0 0 13 [(0, .ref v0), (1, .ref v1), (2, .ref v2), (3, .int (gI v3)), (4, .int (gI v4)), (5, .int (gI v5))] [] (gi_cv h) (.inl (some (.int (gI res)))) (gi_cv h1) := by
  refine gx_iload dX7_read_13 5 rfl ?_
  refine gx_aload_n dX7_read_15 rfl 1 rfl ?_
  refine gx_bE e (fun _ hu2 e => ?_)
  refine gx_bE e (fun q3 hq3 e => ?_)
  refine gx_callV (n := 0) (st := [.int (gI v5)]) (As := []) (b := v1) dX7_read_16 (z_X8_length hq3) rfl ⟨rfl, gw_cw_X8_length, gw_2, gp_X8_length, ⟨Nat.le_of_ble_eq_true rfl, Nat.le_of_ble_eq_true rfl⟩⟩ (gi_isS hu2) (by decide) gw_774 gw_775 gw_776 rfl ⟨Nat.le_of_ble_eq_true rfl, Nat.le_of_ble_eq_true rfl⟩ (Nat.le_of_ble_eq_true rfl) (gy_k1 (x := .int (gI q3)) (kc2 := 0) (ks2 := 0) ⟨rfl, rfl⟩ ?_) gy_kn
  refine gx_bE e (fun _ g4 e => ?_)
  refine gx_bE e (fun _ g5 e => ?_)
  refine gx_iE e (fun c6 e => ?_) (fun c6 e => ?_)
  · refine gy_icmp_ge (tgt := 192) (gi_rgS g4) (gi_rgS g5) dX7_read_19 (by decide) (fun _ => ?_) (fun z => absurd c6 z)
    refine gx_sub (ls2 := [(0, .ref v0), (1, .ref v1), (2, .ref v2), (4, .int (gI v4))]) [0, 1, 2, 4] rfl ?_
    exact zb_X7_read_192  e
  · refine gy_icmp_ge (tgt := 192) (gi_rgS g4) (gi_rgS g5) dX7_read_19 (by decide) (fun z => absurd z c6) (fun _ => ?_)
    refine gx_iload dX7_read_22 4 rfl ?_
    refine gx_bE e (fun _ g15 e => ?_)
    refine gx_iE e (fun c16 e => ?_) (fun c16 e => ?_)
    · refine gy_if_eq (tgt := 192) (gi_rgS g15) dX7_read_24 (by decide) (fun _ => ?_) (fun z => absurd c16 z)
      refine gx_sub (ls2 := [(0, .ref v0), (1, .ref v1), (2, .ref v2), (4, .int (gI v4))]) [0, 1, 2, 4] rfl ?_
      exact zb_X7_read_192  e
    · refine gy_if_eq (tgt := 192) (gi_rgS g15) dX7_read_24 (by decide) (fun z => absurd z c16) (fun _ => ?_)
      refine gx_aload_n dX7_read_27 rfl 1 rfl ?_
      refine gx_iload dX7_read_28 5 rfl ?_
      refine gx_bE e (fun _ hu17 e => ?_)
      refine gx_bE e (fun q18 hq18 e => ?_)
      refine gx_callV (n := 1) (st := []) (As := [.int (gI v5)]) (b := v1) dX7_read_30 (z_X8_letter hq18) rfl ⟨rfl, gw_cw_X8_letter, gw_2, gp_X8_letter, ⟨Nat.le_of_ble_eq_true rfl, Nat.le_of_ble_eq_true rfl⟩⟩ (gi_isS hu17) (by decide) gw_778 gw_361 gw_362 rfl ⟨Nat.le_of_ble_eq_true rfl, Nat.le_of_ble_eq_true rfl⟩ (Nat.le_of_ble_eq_true rfl) (gy_k1 (x := .int (gI q18)) (kc2 := 0) (ks2 := 0) ⟨rfl, rfl⟩ ?_) gy_kn
      refine gx_istore (ls2 := [(6, .int (gI q18)), (0, .ref v0), (1, .ref v1), (2, .ref v2), (3, .int (gI v3)), (4, .int (gI v4)), (5, .int (gI v5))]) dX7_read_33 (Nat.le_of_ble_eq_true rfl) rfl ?_
      refine gx_iload_n dX7_read_35 rfl 4 rfl ?_
      refine gx_bE e (fun _ g19 e => ?_)
      refine gx_iE e (fun c20 e => ?_) (fun c20 e => ?_)
      · refine gy_if_eq (tgt := 56) (gi_rgS g19) dX7_read_36 (by decide) (fun _ => ?_) (fun z => absurd c20 z)
        refine gx_iload dX7_read_56 0 rfl ?_
        refine gx_bE e (fun q21 hq21 e => ?_)
        refine gx_callSN (n := 1) (st := []) (As := [.int (gI q18)]) dX7_read_58 (z_X11_isTerminalLetter hq21) rfl ⟨rfl, gw_cw_X11_isTerminalLetter, gw_1, gp_X11_isTerminalLetter, ⟨Nat.le_of_ble_eq_true rfl, Nat.le_of_ble_eq_true rfl⟩⟩ (host := "Grammarsmith") (by decide +kernel) gw_371 ⟨Nat.le_of_ble_eq_true rfl, Nat.le_of_ble_eq_true rfl⟩ (Nat.le_of_ble_eq_true rfl) (gy_k1 (x := .int (gI q21)) (kc2 := 0) (ks2 := 0) ⟨rfl, rfl⟩ ?_) gy_kn
        refine gx_bE e (fun _ g22 e => ?_)
        refine gx_iE e (fun c23 e => ?_) (fun c23 e => ?_)
        · refine gy_if_eq (tgt := 78) (gi_rgS g22) dX7_read_61 (by decide) (fun _ => ?_) (fun z => absurd c23 z)
          refine gx_iload dX7_read_78 0 rfl ?_
          refine gx_bE e (fun q24 hq24 e => ?_)
          refine gx_callSN (n := 1) (st := []) (As := [.int (gI q18)]) dX7_read_80 (z_X11_isNonterminalLetter hq24) rfl ⟨rfl, gw_cw_X11_isNonterminalLetter, gw_1, gp_X11_isNonterminalLetter, ⟨Nat.le_of_ble_eq_true rfl, Nat.le_of_ble_eq_true rfl⟩⟩ (host := "Grammarsmith") (by decide +kernel) gw_368 ⟨Nat.le_of_ble_eq_true rfl, Nat.le_of_ble_eq_true rfl⟩ (Nat.le_of_ble_eq_true rfl) (gy_k1 (x := .int (gI q24)) (kc2 := 0) (ks2 := 0) ⟨rfl, rfl⟩ ?_) gy_kn
          refine gx_bE e (fun _ g25 e => ?_)
          refine gx_iE e (fun c26 e => ?_) (fun c26 e => ?_)
          · refine gy_if_eq (tgt := 103) (gi_rgS g25) dX7_read_83 (by decide) (fun _ => ?_) (fun z => absurd c26 z)
            refine gx_iload dX7_read_103 0 rfl ?_
            refine gy_bipush dX7_read_105 gcb_124 ?_
            refine gx_bE e (fun _ g27 e => ?_)
            refine gx_iE e (fun c28 e => ?_) (fun c28 e => ?_)
            · refine gy_icmp_ne (tgt := 120) (gi_rgS g27) (by decide) dX7_read_107 (by decide) (fun z => absurd c28 z) (fun _ => ?_)
              refine gx_aload_n dX7_read_110 rfl 1 rfl ?_
              refine gy_iconst dX7_read_111 ?_
              refine gx_bE e (fun _ hu29 e => ?_)
              refine gx_bE e (fun q30 hq30 e => ?_)
              refine gx_callV (n := 1) (st := []) (As := [.int (gI (-1 : Int))]) (b := v0) dX7_read_112 (z_X7_push hq30) rfl ⟨rfl, gw_cw_X7_push, gw_4, gp_X7_push, ⟨Nat.le_of_ble_eq_true rfl, Nat.le_of_ble_eq_true rfl⟩⟩ (gi_isS hu29) (by decide) gw_801 gw_803 gs_21 rfl ⟨Nat.le_of_ble_eq_true rfl, Nat.le_of_ble_eq_true rfl⟩ (Nat.le_of_ble_eq_true rfl) (gy_k1 (x := .int (gI q30.1)) (kc2 := 0) (ks2 := 0) ⟨rfl, rfl⟩ ?_) gy_kn
              refine gx_istore (ls2 := [(4, .int (gI q30.1)), (6, .int (gI q18)), (0, .ref v0), (1, .ref v1), (2, .ref v2), (3, .int (gI v3)), (5, .int (gI v5))]) dX7_read_115 (Nat.le_of_ble_eq_true rfl) rfl ?_
              refine gx_goto (tgt := 173) dX7_read_117 (by decide) ?_
              refine gx_sub (ls2 := [(0, .ref v0), (1, .ref v1), (2, .ref v2), (4, .int (gI q30.1)), (5, .int (gI v5)), (6, .int (gI q18))]) [2, 3, 4, 0, 6, 1] rfl ?_
              exact zb_X7_read_173 hr13 e
            · refine gy_icmp_ne (tgt := 120) (gi_rgS g27) (by decide) dX7_read_107 (by decide) (fun _ => ?_) (fun z => absurd z c28)
              refine gx_iload dX7_read_120 0 rfl ?_
              refine gy_bipush dX7_read_122 gcb_40 ?_
              refine gx_iE e (fun c34 e => ?_) (fun c34 e => ?_)
              · refine gy_icmp_ne (tgt := 138) (gi_rgS g27) (by decide) dX7_read_124 (by decide) (fun z => absurd c34 z) (fun _ => ?_)
                refine gx_aload_n dX7_read_127 rfl 1 rfl ?_
                refine gy_bipush dX7_read_128 gcb_m2 ?_
                refine gx_bE e (fun _ hu35 e => ?_)
                refine gx_bE e (fun q36 hq36 e => ?_)
                refine gx_callV (n := 1) (st := []) (As := [.int (gI (-2 : Int))]) (b := v0) dX7_read_130 (z_X7_push hq36) rfl ⟨rfl, gw_cw_X7_push, gw_4, gp_X7_push, ⟨Nat.le_of_ble_eq_true rfl, Nat.le_of_ble_eq_true rfl⟩⟩ (gi_isS hu35) (by decide) gw_801 gw_803 gs_21 rfl ⟨Nat.le_of_ble_eq_true rfl, Nat.le_of_ble_eq_true rfl⟩ (Nat.le_of_ble_eq_true rfl) (gy_k1 (x := .int (gI q36.1)) (kc2 := 0) (ks2 := 0) ⟨rfl, rfl⟩ ?_) gy_kn
                refine gx_istore (ls2 := [(4, .int (gI q36.1)), (6, .int (gI q18)), (0, .ref v0), (1, .ref v1), (2, .ref v2), (3, .int (gI v3)), (5, .int (gI v5))]) dX7_read_133 (Nat.le_of_ble_eq_true rfl) rfl ?_
                refine gx_goto (tgt := 173) dX7_read_135 (by decide) ?_
                refine gx_sub (ls2 := [(0, .ref v0), (1, .ref v1), (2, .ref v2), (4, .int (gI q36.1)), (5, .int (gI v5)), (6, .int (gI q18))]) [2, 3, 4, 0, 6, 1] rfl ?_
                exact zb_X7_read_173 hr13 e
              · refine gy_icmp_ne (tgt := 138) (gi_rgS g27) (by decide) dX7_read_124 (by decide) (fun _ => ?_) (fun z => absurd z c34)
                refine gx_iload dX7_read_138 0 rfl ?_
                refine gy_bipush dX7_read_140 gcb_41 ?_
                refine gx_iE e (fun c37 e => ?_) (fun c37 e => ?_)
                · refine gy_icmp_ne (tgt := 155) (gi_rgS g27) (by decide) dX7_read_142 (by decide) (fun z => absurd c37 z) (fun _ => ?_)
                  refine gx_aload_n dX7_read_145 rfl 1 rfl ?_
                  refine gx_aload_n dX7_read_146 rfl 3 rfl ?_
                  refine gx_bE e (fun _ hu38 e => ?_)
                  refine gx_bE e (fun q39 hq39 e => ?_)
                  refine gx_callV (n := 1) (st := []) (As := [.ref v2]) (b := v0) dX7_read_147 (z_X7_closeBracket hq39) rfl ⟨rfl, gw_cw_X7_closeBracket, gw_4, gp_X7_closeBracket, ⟨Nat.le_of_ble_eq_true rfl, Nat.le_of_ble_eq_true rfl⟩⟩ (gi_isS hu38) (by decide) gw_806 gw_808 gs_22 rfl ⟨Nat.le_of_ble_eq_true rfl, Nat.le_of_ble_eq_true rfl⟩ (Nat.le_of_ble_eq_true rfl) (gy_k1 (x := .int (gI q39.1)) (kc2 := 0) (ks2 := 0) ⟨rfl, rfl⟩ ?_) gy_kn
                  refine gx_istore (ls2 := [(4, .int (gI q39.1)), (6, .int (gI q18)), (0, .ref v0), (1, .ref v1), (2, .ref v2), (3, .int (gI v3)), (5, .int (gI v5))]) dX7_read_150 (Nat.le_of_ble_eq_true rfl) rfl ?_
                  refine gx_goto (tgt := 173) dX7_read_152 (by decide) ?_
                  refine gx_sub (ls2 := [(0, .ref v0), (1, .ref v1), (2, .ref v2), (4, .int (gI q39.1)), (5, .int (gI v5)), (6, .int (gI q18))]) [2, 3, 4, 0, 6, 1] rfl ?_
                  exact zb_X7_read_173 hr13 e
                · refine gy_icmp_ne (tgt := 155) (gi_rgS g27) (by decide) dX7_read_142 (by decide) (fun _ => ?_) (fun z => absurd z c37)
                  refine gx_iload dX7_read_155 0 rfl ?_
                  refine gx_bE e (fun q40 hq40 e => ?_)
                  refine gx_callSN (n := 1) (st := []) (As := [.int (gI q18)]) dX7_read_157 (z_X11_isRepeat hq40) rfl ⟨rfl, gw_cw_X11_isRepeat, gw_1, gp_X11_isRepeat, ⟨Nat.le_of_ble_eq_true rfl, Nat.le_of_ble_eq_true rfl⟩⟩ (host := "Grammarsmith") (by decide +kernel) gw_377 ⟨Nat.le_of_ble_eq_true rfl, Nat.le_of_ble_eq_true rfl⟩ (Nat.le_of_ble_eq_true rfl) (gy_k1 (x := .int (gI q40)) (kc2 := 0) (ks2 := 0) ⟨rfl, rfl⟩ ?_) gy_kn
                  refine gx_bE e (fun _ g41 e => ?_)
                  refine gx_iE e (fun c42 e => ?_) (fun c42 e => ?_)
                  · refine gy_if_eq (tgt := 173) (gi_rgS g41) dX7_read_160 (by decide) (fun _ => ?_) (fun z => absurd c42 z)
                    refine gx_sub (ls2 := [(0, .ref v0), (1, .ref v1), (2, .ref v2), (4, .int (gI v4)), (5, .int (gI v5)), (6, .int (gI q18))]) [1, 2, 3, 5, 6, 0] rfl ?_
                    exact zb_X7_read_173 hr13 e
                  · refine gy_if_eq (tgt := 173) (gi_rgS g41) dX7_read_160 (by decide) (fun z => absurd z c42) (fun _ => ?_)
                    refine gx_aload_n dX7_read_163 rfl 1 rfl ?_
                    refine gx_aload_n dX7_read_164 rfl 3 rfl ?_
                    refine gx_iload dX7_read_165 0 rfl ?_
                    refine gy_iconst dX7_read_167 ?_
                    refine gx_bE e (fun _ hu43 e => ?_)
                    refine gx_bE e (fun q44 hq44 e => ?_)
                    refine gx_callV (n := 3) (st := []) (As := [.ref v2, .int (gI q18), .int (gI (-1 : Int))]) (b := v0) dX7_read_168 (z_X7_wrap hq44) rfl ⟨rfl, gw_cw_X7_wrap, gw_4, gp_X7_wrap, ⟨Nat.le_of_ble_eq_true rfl, Nat.le_of_ble_eq_true rfl⟩⟩ (gi_isS hu43) (by decide) gw_779 gw_781 gs_20 rfl ⟨Nat.le_of_ble_eq_true rfl, Nat.le_of_ble_eq_true rfl⟩ (Nat.le_of_ble_eq_true rfl) (gy_k1 (x := .int (gI q44.1)) (kc2 := 0) (ks2 := 0) ⟨rfl, rfl⟩ ?_) gy_kn
                    refine gx_istore (ls2 := [(4, .int (gI q44.1)), (6, .int (gI q18)), (0, .ref v0), (1, .ref v1), (2, .ref v2), (3, .int (gI v3)), (5, .int (gI v5))]) dX7_read_171 (Nat.le_of_ble_eq_true rfl) rfl ?_
                    refine gx_sub (ls2 := [(0, .ref v0), (1, .ref v1), (2, .ref v2), (4, .int (gI q44.1)), (5, .int (gI v5)), (6, .int (gI q18))]) [2, 3, 4, 0, 6, 1] rfl ?_
                    exact zb_X7_read_173 hr13 e
          · refine gy_if_eq (tgt := 103) (gi_rgS g25) dX7_read_83 (by decide) (fun z => absurd z c26) (fun _ => ?_)
            refine gx_aload_n dX7_read_86 rfl 1 rfl ?_
            refine gy_bipush dX7_read_87 gcb_16 ?_
            refine gx_iload dX7_read_89 0 rfl ?_
            refine gy_iadd dX7_read_91 ?_
            refine gy_bipush dX7_read_92 gcb_65 ?_
            refine gy_isub dX7_read_94 ?_
            refine gx_bE e (fun _ hu45 e => ?_)
            refine gx_bE e (fun q46 hq46 e => ?_)
            refine gx_callV (n := 1) (st := []) (As := [.int (gI (((16 : Int) + q18) - (65 : Int)))]) (b := v0) dX7_read_95 (z_X7_push hq46) rfl ⟨rfl, gw_cw_X7_push, gw_4, gp_X7_push, ⟨Nat.le_of_ble_eq_true rfl, Nat.le_of_ble_eq_true rfl⟩⟩ (gi_isS hu45) (by decide) gw_801 gw_803 gs_21 rfl ⟨Nat.le_of_ble_eq_true rfl, Nat.le_of_ble_eq_true rfl⟩ (Nat.le_of_ble_eq_true rfl) (gy_k1 (x := .int (gI q46.1)) (kc2 := 0) (ks2 := 0) ⟨rfl, rfl⟩ ?_) gy_kn
            refine gx_istore (ls2 := [(4, .int (gI q46.1)), (6, .int (gI q18)), (0, .ref v0), (1, .ref v1), (2, .ref v2), (3, .int (gI v3)), (5, .int (gI v5))]) dX7_read_98 (Nat.le_of_ble_eq_true rfl) rfl ?_
            refine gx_goto (tgt := 173) dX7_read_100 (by decide) ?_
            refine gx_sub (ls2 := [(0, .ref v0), (1, .ref v1), (2, .ref v2), (4, .int (gI q46.1)), (5, .int (gI v5)), (6, .int (gI q18))]) [2, 3, 4, 0, 6, 1] rfl ?_
            exact zb_X7_read_173 hr13 e
        · refine gy_if_eq (tgt := 78) (gi_rgS g22) dX7_read_61 (by decide) (fun z => absurd z c23) (fun _ => ?_)
          refine gx_aload_n dX7_read_64 rfl 1 rfl ?_
          refine gx_iload dX7_read_65 0 rfl ?_
          refine gy_bipush dX7_read_67 gcb_97 ?_
          refine gy_isub dX7_read_69 ?_
          refine gx_bE e (fun _ hu47 e => ?_)
          refine gx_bE e (fun q48 hq48 e => ?_)
          refine gx_callV (n := 1) (st := []) (As := [.int (gI (q18 - (97 : Int)))]) (b := v0) dX7_read_70 (z_X7_push hq48) rfl ⟨rfl, gw_cw_X7_push, gw_4, gp_X7_push, ⟨Nat.le_of_ble_eq_true rfl, Nat.le_of_ble_eq_true rfl⟩⟩ (gi_isS hu47) (by decide) gw_801 gw_803 gs_21 rfl ⟨Nat.le_of_ble_eq_true rfl, Nat.le_of_ble_eq_true rfl⟩ (Nat.le_of_ble_eq_true rfl) (gy_k1 (x := .int (gI q48.1)) (kc2 := 0) (ks2 := 0) ⟨rfl, rfl⟩ ?_) gy_kn
          refine gx_istore (ls2 := [(4, .int (gI q48.1)), (6, .int (gI q18)), (0, .ref v0), (1, .ref v1), (2, .ref v2), (3, .int (gI v3)), (5, .int (gI v5))]) dX7_read_73 (Nat.le_of_ble_eq_true rfl) rfl ?_
          refine gx_goto (tgt := 173) dX7_read_75 (by decide) ?_
          refine gx_sub (ls2 := [(0, .ref v0), (1, .ref v1), (2, .ref v2), (4, .int (gI q48.1)), (5, .int (gI v5)), (6, .int (gI q18))]) [2, 3, 4, 0, 6, 1] rfl ?_
          exact zb_X7_read_173 hr13 e
      · refine gy_if_eq (tgt := 56) (gi_rgS g19) dX7_read_36 (by decide) (fun z => absurd z c20) (fun _ => ?_)
        refine gx_aload_n dX7_read_39 rfl 1 rfl ?_
        refine gx_aload_n dX7_read_40 rfl 3 rfl ?_
        refine gy_bipush dX7_read_41 gcb_37 ?_
        refine gx_iload dX7_read_43 0 rfl ?_
        refine gy_bipush dX7_read_45 gcb_97 ?_
        refine gy_isub dX7_read_47 ?_
        refine gx_bE e (fun _ hu49 e => ?_)
        refine gx_bE e (fun q50 hq50 e => ?_)
        refine gx_callV (n := 3) (st := []) (As := [.ref v2, .int (gI (37 : Int)), .int (gI (q18 - (97 : Int)))]) (b := v0) dX7_read_48 (z_X7_wrap hq50) rfl ⟨rfl, gw_cw_X7_wrap, gw_4, gp_X7_wrap, ⟨Nat.le_of_ble_eq_true rfl, Nat.le_of_ble_eq_true rfl⟩⟩ (gi_isS hu49) (by decide) gw_779 gw_781 gs_20 rfl ⟨Nat.le_of_ble_eq_true rfl, Nat.le_of_ble_eq_true rfl⟩ (Nat.le_of_ble_eq_true rfl) (gy_k1 (x := .int (gI q50.1)) (kc2 := 0) (ks2 := 0) ⟨rfl, rfl⟩ ?_) gy_kn
        refine gx_istore (ls2 := [(4, .int (gI q50.1)), (6, .int (gI q18)), (0, .ref v0), (1, .ref v1), (2, .ref v2), (3, .int (gI v3)), (5, .int (gI v5))]) dX7_read_51 (Nat.le_of_ble_eq_true rfl) rfl ?_
        refine gx_goto (tgt := 173) dX7_read_53 (by decide) ?_
        refine gx_sub (ls2 := [(0, .ref v0), (1, .ref v1), (2, .ref v2), (4, .int (gI q50.1)), (5, .int (gI v5)), (6, .int (gI q18))]) [2, 3, 4, 0, 6, 1] rfl ?_
        exact zb_X7_read_173 hr13 e
def l_X7_read_13 (n : Nat)  : Nat → Nat → Nat → Nat → Int → Int → Int → gi_H → Option (Int × gi_H)
  | 0, _, _, _, _, _, _, _ => none
  | k + 1, v0, v1, v2, v3, v4, v5, h => b_X7_read_13 n  (l_X7_read_13 n  k) v0 v1 v2 v3 v4 v5 h
theorem zl_X7_read_13 {al : Bool} {n : Nat}  {res : Int} {h1 : gi_H}  : ∀ (k : Nat) (v0 : Nat) (v1 : Nat) (v2 : Nat) (v3 : Int) (v4 : Int) (v5 : Int) (h : gi_H), l_X7_read_13 n  k v0 v1 v2 v3 v4 v5 h = some (res, h1) → gx_Z mX7_read al al 0 0 13 [(0, .ref v0), (1, .ref v1), (2, .ref v2), (3, .int (gI v3)), (4, .int (gI v4)), (5, .int (gI v5))] [] (gi_cv h) (.inl (some (.int (gI res)))) (gi_cv h1)
  | 0, _, _, _, _, _, _, _, e => gx_0E e
  | k + 1, _, _, _, _, _, _, _, e => zb_X7_read_13 (n := n)  (zl_X7_read_13  k) e
set_option maxRecDepth 100000 in
def f_X7_read (n : Nat) (v0 : Nat) (v1 : Nat) (v2 : Nat) (h : gi_H) : Option (Int × gi_H) :=
  Option.bind (gi_pI h v0 6 1 (0 : Int)) fun h1 => l_X7_read_13 n  n v0 v1 v2 (0 : Int) (1 : Int) (2 : Int) h1
set_option maxRecDepth 100000 in
theorem z_X7_read {al : Bool} {n : Nat} {v0 : Nat} {v1 : Nat} {v2 : Nat} {h : gi_H} {res : Int} {h1 : gi_H} (e : f_X7_read n v0 v1 v2 h = some (res, h1)) : gx_Cw mX7_read al [.ref v0, .ref v1, .ref v2] (gi_cv h) (.inl (some (.int (gI res)))) (gi_cv h1) := by
  refine gx_enter (by decide +kernel) rfl (Nat.le_of_ble_eq_true rfl) ?_
  show gx_Z mX7_read al al 0 0 0 [(0, .ref v0), (1, .ref v1), (2, .ref v2)] [] (gi_cv h) (.inl (some (.int (gI res)))) (gi_cv h1)
  refine gx_aload_n dX7_read_0 rfl 0 rfl ?_
  refine gy_iconst dX7_read_1 ?_
  refine gx_bE e (fun h1 hh1 e => ?_)
  refine gy_qI hh1 dX7_read_2 gf_RX7_15_6_1 (by decide) gkN_6_1 rfl (Or.inl rfl) ?_
  refine gy_iconst dX7_read_5 ?_
  refine gx_istore_n (ls2 := [(3, .int (gI (0 : Int))), (0, .ref v0), (1, .ref v1), (2, .ref v2)]) dX7_read_6 rfl (Nat.le_of_ble_eq_true rfl) rfl ?_
  refine gy_iconst dX7_read_7 ?_
  refine gx_istore (ls2 := [(4, .int (gI (1 : Int))), (3, .int (gI (0 : Int))), (0, .ref v0), (1, .ref v1), (2, .ref v2)]) dX7_read_8 (Nat.le_of_ble_eq_true rfl) rfl ?_
  refine gy_iconst dX7_read_10 ?_
  refine gx_istore (ls2 := [(5, .int (gI (2 : Int))), (4, .int (gI (1 : Int))), (3, .int (gI (0 : Int))), (0, .ref v0), (1, .ref v1), (2, .ref v2)]) dX7_read_11 (Nat.le_of_ble_eq_true rfl) rfl ?_
  refine gx_sub (ls2 := [(0, .ref v0), (1, .ref v1), (2, .ref v2), (3, .int (gI (0 : Int))), (4, .int (gI (1 : Int))), (5, .int (gI (2 : Int)))]) [3, 4, 5, 2, 1, 0] rfl ?_
  exact zl_X7_read_13  n _ _ _ _ _ _ _ e
/-! X8_copyRenamed  -/
set_option maxRecDepth 100000 in
def b_X8_copyRenamed_59 (n : Nat) (r7 : Nat → Nat → Int → Int → gi_H → Option (gi_H)) (v0 : Nat) (v1 : Nat) (v2 : Int) (v3 : Int)  (h : gi_H) : Option (gi_H) :=
  gx_nm (v3 + (1 : Int)) fun t13 => r7 v0 v1 v2 t13 h
set_option maxRecDepth 100000 in
theorem zb_X8_copyRenamed_59 {al : Bool} {n : Nat} {r7 : Nat → Nat → Int → Int → gi_H → Option (gi_H)} {h1 : gi_H} (hr7 : ∀ (x0 : Nat) (x1 : Nat) (x2 : Int) (x3 : Int) (hh : gi_H), r7 x0 x1 x2 x3 hh = some h1 → gx_Z mX8_copyRenamed al al 0 0 7 [(0, .ref x0), (1, .ref x1), (2, .int (gI x2)), (3, .int (gI x3))] [] (gi_cv hh) (.inl none) (gi_cv h1)) {v0 : Nat} {v1 : Nat} {v2 : Int} {v3 : Int}  {h : gi_H} (e : b_X8_copyRenamed_59 n r7 v0 v1 v2 v3 h = some h1) : gx_Z mX8_copyRenamed al al 0 0 59 [(0, .ref v0), (1, .ref v1), (2, .int (gI v2)), (3, .int (gI v3))] [] (gi_cv h) (.inl none) (gi_cv h1) := by
  refine gx_nE e (fun t13 ht13 e => ?_)
  refine gy_iinc (v := t13) (ls2 := [(3, .int (gI t13)), (0, .ref v0), (1, .ref v1), (2, .int (gI v2))]) dX8_copyRenamed_59 3 rfl ht13 (Nat.le_of_ble_eq_true rfl) rfl ?_
  refine gx_goto (tgt := 7) dX8_copyRenamed_62 (by decide) ?_
  refine gx_sub (ls2 := [(0, .ref v0), (1, .ref v1), (2, .int (gI v2)), (3, .int (gI t13))]) [1, 2, 3, 0] rfl ?_
  exact hr7 _ _ _ _ _ e
set_option maxRecDepth 100000 in
def b_X8_copyRenamed_7 (n : Nat) (r7 : Nat → Nat → Int → Int → gi_H → Option (gi_H)) (v0 : Nat) (v1 : Nat) (v2 : Int) (v3 : Int)  (h : gi_H) : Option (gi_H) :=
  Option.bind (gi_gI h v1 7 1) fun t2 => Option.bind (gi_rg v3) fun _ => Option.bind (gi_rg t2) fun _ => if t2 ≤ v3 then (some h) else (Option.bind (gi_is h v1 7) fun _ => Option.bind (f_X8_letter v1 v3 h) fun q7 => Option.bind (f_X11_isNonterminalLetter q7 h) fun q8 => Option.bind (gi_rg q8) fun _ => if q8 = 0 then (Option.bind (gi_is h v0 7) fun _ => Option.bind (f_X8_append v0 q7 h) fun q12 => b_X8_copyRenamed_59 n r7 v0 v1 v2 v3 q12.2) else (Option.bind (gi_dg ((q7 - (65 : Int)) + v2) (8 : Int)) fun _ => Option.bind (gi_is h v0 7) fun _ => Option.bind (f_X8_append v0 (((65 : Int) + (((q7 - (65 : Int)) + v2) % (8 : Int))) % 65536) h) fun q16 => b_X8_copyRenamed_59 n r7 v0 v1 v2 v3 q16.2))
set_option maxRecDepth 100000 in
theorem zb_X8_copyRenamed_7 {al : Bool} {n : Nat} {r7 : Nat → Nat → Int → Int → gi_H → Option (gi_H)} {h1 : gi_H} (hr7 : ∀ (x0 : Nat) (x1 : Nat) (x2 : Int) (x3 : Int) (hh : gi_H), r7 x0 x1 x2 x3 hh = some h1 → gx_Z mX8_copyRenamed al al 0 0 7 [(0, .ref x0), (1, .ref x1), (2, .int (gI x2)), (3, .int (gI x3))] [] (gi_cv hh) (.inl none) (gi_cv h1)) {v0 : Nat} {v1 : Nat} {v2 : Int} {v3 : Int}  {h : gi_H} (e : b_X8_copyRenamed_7 n r7 v0 v1 v2 v3 h = some h1) : gx_Z mX8_copyRenamed al al 0 0 7 [(0, .ref v0), (1, .ref v1), (2, .int (gI v2)), (3, .int (gI v3))] [] (gi_cv h) (.inl none) (gi_cv h1) := by
  refine gx_iload_n dX8_copyRenamed_7 rfl 3 rfl ?_
  refine gx_aload_n dX8_copyRenamed_8 rfl 1 rfl ?_
  refine gx_bE e (fun t2 ht2 e => ?_)
  refine gy_fI ht2 dX8_copyRenamed_9 gf_RX8_15_7_1 (by decide) gkN_7_1 gkR_7_1 ?_
  refine gx_bE e (fun _ g3 e => ?_)
  refine gx_bE e (fun _ g4 e => ?_)
  refine gx_iE e (fun c5 e => ?_) (fun c5 e => ?_)
  · refine gy_icmp_ge (tgt := 65) (gi_rgS g3) (gi_rgS g4) dX8_copyRenamed_12 (by decide) (fun _ => ?_) (fun z => absurd c5 z)
    cases e
    exact gx_vret dX8_copyRenamed_65 rfl ⟨Nat.le_of_ble_eq_true rfl, Nat.le_of_ble_eq_true rfl⟩ (fun z => z)
  · refine gy_icmp_ge (tgt := 65) (gi_rgS g3) (gi_rgS g4) dX8_copyRenamed_12 (by decide) (fun z => absurd z c5) (fun _ => ?_)
    refine gx_aload_n dX8_copyRenamed_15 rfl 1 rfl ?_
    refine gx_iload_n dX8_copyRenamed_16 rfl 3 rfl ?_
    refine gx_bE e (fun _ hu6 e => ?_)
    refine gx_bE e (fun q7 hq7 e => ?_)
    refine gx_callV (n := 1) (st := []) (As := [.int (gI v3)]) (b := v1) dX8_copyRenamed_17 (z_X8_letter hq7) rfl ⟨rfl, gw_cw_X8_letter, gw_2, gp_X8_letter, ⟨Nat.le_of_ble_eq_true rfl, Nat.le_of_ble_eq_true rfl⟩⟩ (gi_isS hu6) (by decide) gw_360 gw_361 gw_362 rfl ⟨Nat.le_of_ble_eq_true rfl, Nat.le_of_ble_eq_true rfl⟩ (Nat.le_of_ble_eq_true rfl) (gy_k1 (x := .int (gI q7)) (kc2 := 0) (ks2 := 0) ⟨rfl, rfl⟩ ?_) gy_kn
    refine gx_istore (ls2 := [(4, .int (gI q7)), (0, .ref v0), (1, .ref v1), (2, .int (gI v2)), (3, .int (gI v3))]) dX8_copyRenamed_20 (Nat.le_of_ble_eq_true rfl) rfl ?_
    refine gx_iload dX8_copyRenamed_22 0 rfl ?_
    refine gx_bE e (fun q8 hq8 e => ?_)
    refine gx_callSN (n := 1) (st := []) (As := [.int (gI q7)]) dX8_copyRenamed_24 (z_X11_isNonterminalLetter hq8) rfl ⟨rfl, gw_cw_X11_isNonterminalLetter, gw_1, gp_X11_isNonterminalLetter, ⟨Nat.le_of_ble_eq_true rfl, Nat.le_of_ble_eq_true rfl⟩⟩ (host := "Grammarsmith") (by decide +kernel) gw_368 ⟨Nat.le_of_ble_eq_true rfl, Nat.le_of_ble_eq_true rfl⟩ (Nat.le_of_ble_eq_true rfl) (gy_k1 (x := .int (gI q8)) (kc2 := 0) (ks2 := 0) ⟨rfl, rfl⟩ ?_) gy_kn
    refine gx_bE e (fun _ g9 e => ?_)
    refine gx_iE e (fun c10 e => ?_) (fun c10 e => ?_)
    · refine gy_if_eq (tgt := 52) (gi_rgS g9) dX8_copyRenamed_27 (by decide) (fun _ => ?_) (fun z => absurd c10 z)
      refine gx_aload_n dX8_copyRenamed_52 rfl 1 rfl ?_
      refine gx_iload dX8_copyRenamed_53 0 rfl ?_
      refine gx_bE e (fun _ hu11 e => ?_)
      refine gx_bE e (fun q12 hq12 e => ?_)
      refine gx_callV (n := 1) (st := []) (As := [.int (gI q7)]) (b := v0) dX8_copyRenamed_55 (z_X8_append hq12) rfl ⟨rfl, gw_cw_X8_append, gw_2, gp_X8_append, ⟨Nat.le_of_ble_eq_true rfl, Nat.le_of_ble_eq_true rfl⟩⟩ (gi_isS hu11) (by decide) gw_819 gw_755 gw_756 rfl ⟨Nat.le_of_ble_eq_true rfl, Nat.le_of_ble_eq_true rfl⟩ (Nat.le_of_ble_eq_true rfl) (gy_k1 (x := .int (gI q12.1)) (kc2 := 0) (ks2 := 0) ⟨rfl, rfl⟩ ?_) gy_kn
      refine gx_pop dX8_copyRenamed_58 rfl ?_
      refine gx_sub (ls2 := [(0, .ref v0), (1, .ref v1), (2, .int (gI v2)), (3, .int (gI v3))]) [1, 2, 3, 4] rfl ?_
      exact zb_X8_copyRenamed_59 hr7 e
    · refine gy_if_eq (tgt := 52) (gi_rgS g9) dX8_copyRenamed_27 (by decide) (fun z => absurd z c10) (fun _ => ?_)
      refine gx_aload_n dX8_copyRenamed_30 rfl 1 rfl ?_
      refine gy_bipush dX8_copyRenamed_31 gcb_65 ?_
      refine gx_iload dX8_copyRenamed_33 0 rfl ?_
      refine gy_bipush dX8_copyRenamed_35 gcb_65 ?_
      refine gy_isub dX8_copyRenamed_37 ?_
      refine gx_iload_n dX8_copyRenamed_38 rfl 3 rfl ?_
      refine gy_iadd dX8_copyRenamed_39 ?_
      refine gy_bipush dX8_copyRenamed_40 gcb_8 ?_
      refine gx_bE e (fun _ hu14 e => ?_)
      refine gy_irem hu14 dX8_copyRenamed_42 ?_
      refine gy_iadd dX8_copyRenamed_43 ?_
      refine gy_i2c dX8_copyRenamed_44 ?_
      refine gx_bE e (fun _ hu15 e => ?_)
      refine gx_bE e (fun q16 hq16 e => ?_)
      refine gx_callV (n := 1) (st := []) (As := [.int (gI (((65 : Int) + (((q7 - (65 : Int)) + v2) % (8 : Int))) % 65536))]) (b := v0) dX8_copyRenamed_45 (z_X8_append hq16) rfl ⟨rfl, gw_cw_X8_append, gw_2, gp_X8_append, ⟨Nat.le_of_ble_eq_true rfl, Nat.le_of_ble_eq_true rfl⟩⟩ (gi_isS hu15) (by decide) gw_819 gw_755 gw_756 rfl ⟨Nat.le_of_ble_eq_true rfl, Nat.le_of_ble_eq_true rfl⟩ (Nat.le_of_ble_eq_true rfl) (gy_k1 (x := .int (gI q16.1)) (kc2 := 0) (ks2 := 0) ⟨rfl, rfl⟩ ?_) gy_kn
      refine gx_pop dX8_copyRenamed_48 rfl ?_
      refine gx_goto (tgt := 59) dX8_copyRenamed_49 (by decide) ?_
      refine gx_sub (ls2 := [(0, .ref v0), (1, .ref v1), (2, .int (gI v2)), (3, .int (gI v3))]) [1, 2, 3, 4] rfl ?_
      exact zb_X8_copyRenamed_59 hr7 e
def l_X8_copyRenamed_7 (n : Nat)  : Nat → Nat → Nat → Int → Int → gi_H → Option (gi_H)
  | 0, _, _, _, _, _ => none
  | k + 1, v0, v1, v2, v3, h => b_X8_copyRenamed_7 n  (l_X8_copyRenamed_7 n  k) v0 v1 v2 v3 h
theorem zl_X8_copyRenamed_7 {al : Bool} {n : Nat}  {h1 : gi_H}  : ∀ (k : Nat) (v0 : Nat) (v1 : Nat) (v2 : Int) (v3 : Int) (h : gi_H), l_X8_copyRenamed_7 n  k v0 v1 v2 v3 h = some h1 → gx_Z mX8_copyRenamed al al 0 0 7 [(0, .ref v0), (1, .ref v1), (2, .int (gI v2)), (3, .int (gI v3))] [] (gi_cv h) (.inl none) (gi_cv h1)
  | 0, _, _, _, _, _, e => gx_0E e
  | k + 1, _, _, _, _, _, e => zb_X8_copyRenamed_7 (n := n)  (zl_X8_copyRenamed_7  k) e
set_option maxRecDepth 100000 in
def f_X8_copyRenamed (n : Nat) (v0 : Nat) (v1 : Nat) (v2 : Int) (h : gi_H) : Option (gi_H) :=
  Option.bind (gi_pI h v0 7 1 (0 : Int)) fun h1 => l_X8_copyRenamed_7 n  n v0 v1 v2 (0 : Int) h1
set_option maxRecDepth 100000 in
theorem z_X8_copyRenamed {al : Bool} {n : Nat} {v0 : Nat} {v1 : Nat} {v2 : Int} {h : gi_H} {h1 : gi_H} (e : f_X8_copyRenamed n v0 v1 v2 h = some h1) : gx_Cw mX8_copyRenamed al [.ref v0, .ref v1, .int (gI v2)] (gi_cv h) (.inl none) (gi_cv h1) := by
  refine gx_enter (by decide +kernel) rfl (Nat.le_of_ble_eq_true rfl) ?_
  show gx_Z mX8_copyRenamed al al 0 0 0 [(0, .ref v0), (1, .ref v1), (2, .int (gI v2))] [] (gi_cv h) (.inl none) (gi_cv h1)
  refine gx_aload_n dX8_copyRenamed_0 rfl 0 rfl ?_
  refine gy_iconst dX8_copyRenamed_1 ?_
  refine gx_bE e (fun h1 hh1 e => ?_)
  refine gy_qI hh1 dX8_copyRenamed_2 gf_RX8_15_7_1 (by decide) gkN_7_1 rfl (Or.inl rfl) ?_
  refine gy_iconst dX8_copyRenamed_5 ?_
  refine gx_istore_n (ls2 := [(3, .int (gI (0 : Int))), (0, .ref v0), (1, .ref v1), (2, .int (gI v2))]) dX8_copyRenamed_6 rfl (Nat.le_of_ble_eq_true rfl) rfl ?_
  refine gx_sub (ls2 := [(0, .ref v0), (1, .ref v1), (2, .int (gI v2)), (3, .int (gI (0 : Int)))]) [1, 2, 3, 0] rfl ?_
  exact zl_X8_copyRenamed_7  n _ _ _ _ _ e
/-! X4_admit  -/
set_option maxRecDepth 100000 in
def b_X4_admit_51 (n : Nat)  (v0 : Nat) (v2 : Int)  (h : gi_H) : Option (Int × gi_H) :=
  Option.bind (gi_pI h v0 3 3 v2) fun h6 => some ((0 : Int), h6)
set_option maxRecDepth 100000 in
theorem zb_X4_admit_51 {al : Bool} {n : Nat}  {res : Int} {h1 : gi_H}  {v0 : Nat} {v2 : Int}  {h : gi_H} (e : b_X4_admit_51 n v0 v2 h = some (res, h1)) : gx_Z mX4_admit al al 0 0 51 [(0, .ref v0), (2, .int (gI v2))] [] (gi_cv h) (.inl (some (.int (gI res)))) (gi_cv h1) := by
  refine gx_aload_n dX4_admit_51 rfl 0 rfl ?_
  refine gx_iload_n dX4_admit_52 rfl 1 rfl ?_
  refine gx_bE e (fun h6 hh6 e => ?_)
  refine gy_qI hh6 dX4_admit_53 gf_RX4_42_3_3 (by decide) gkN_3_3 rfl (Or.inl rfl) ?_
  refine gy_iconst dX4_admit_56 ?_
  cases e
  exact gx_zret (by decide +kernel) dX4_admit_57 rfl ⟨Nat.le_of_ble_eq_true rfl, Nat.le_of_ble_eq_true rfl⟩ (fun z => z)
set_option maxRecDepth 100000 in
def b_X4_admit_34 (n : Nat)  (v0 : Nat) (v1 : Nat) (v2 : Int) (s0 : Option Nat) (h : gi_H) : Option (Int × gi_H) :=
  if s0 = none then (b_X4_admit_51 n  v0 v2 h) else (Option.bind (gi_gR h v0 3 9) fun t7 => Option.bind (gi_is h t7 6) fun _ => Option.bind (f_X7_read n t7 v1 v0 h) fun q9 => Option.bind (gi_rg q9.1) fun _ => if q9.1 = 0 then (b_X4_admit_51 n  v0 v2 q9.2) else (Option.bind s0 fun t12 => Option.bind (gi_is q9.2 t12 7) fun _ => Option.bind (f_X8_copyRenamed n t12 v1 (0 : Int) q9.2) fun q14 => Option.bind (gi_gR q14 v0 3 5) fun t15 => Option.bind (gi_gI q14 v0 3 6) fun t16 => Option.bind (gi_s1 q14 t15 t16 v2) fun h17 => Option.bind (gi_gI h17 v0 3 6) fun t18 => Option.bind (gi_pI h17 v0 3 6 (t18 + (1 : Int))) fun h19 => some ((1 : Int), h19)))
set_option maxRecDepth 100000 in
theorem zb_X4_admit_34 {al : Bool} {n : Nat}  {res : Int} {h1 : gi_H}  {v0 : Nat} {v1 : Nat} {v2 : Int} {s0 : Option Nat} {h : gi_H} (e : b_X4_admit_34 n v0 v1 v2 s0 h = some (res, h1)) : gx_Z mX4_admit al al 0 0 34 [(0, .ref v0), (1, .ref v1), (2, .int (gI v2))] [va_rf s0] (gi_cv h) (.inl (some (.int (gI res)))) (gi_cv h1) := by
  refine gx_astore_nq (ls2 := [(3, va_rf s0), (0, .ref v0), (1, .ref v1), (2, .int (gI v2))]) dX4_admit_34 rfl (Nat.le_of_ble_eq_true rfl) rfl ?_
  refine gx_aload_nq dX4_admit_35 rfl 0 rfl ?_
  refine gx_iE e (fun c5 e => ?_) (fun c5 e => ?_)
  · refine gx_ifnull (tgt := 51) dX4_admit_36 (by decide) (fun _ => ?_) (fun z => absurd c5 z)
    refine gx_sub (ls2 := [(0, .ref v0), (2, .int (gI v2))]) [1, 3] rfl ?_
    exact zb_X4_admit_51  e
  · refine gx_ifnull (tgt := 51) dX4_admit_36 (by decide) (fun z => absurd z c5) (fun _ => ?_)
    refine gx_aload_n dX4_admit_39 rfl 1 rfl ?_
    refine gx_bE e (fun t7 ht7 e => ?_)
    refine gy_fR ht7 dX4_admit_40 gf_RX4_38_3_9 (by decide) gkN_3_9 gkR_3_9 ?_
    refine gx_aload_n dX4_admit_43 rfl 2 rfl ?_
    refine gx_aload_n dX4_admit_44 rfl 1 rfl ?_
    refine gx_bE e (fun _ hu8 e => ?_)
    refine gx_bE e (fun q9 hq9 e => ?_)
    refine gx_callV (n := 2) (st := []) (As := [.ref v1, .ref v0]) (b := t7) dX4_admit_45 (z_X7_read hq9) rfl ⟨rfl, gw_cw_X7_read, gw_4, gp_X7_read, ⟨Nat.le_of_ble_eq_true rfl, Nat.le_of_ble_eq_true rfl⟩⟩ (gi_isS hu8) (by decide) gw_770 gw_771 gw_772 rfl ⟨Nat.le_of_ble_eq_true rfl, Nat.le_of_ble_eq_true rfl⟩ (Nat.le_of_ble_eq_true rfl) (gy_k1 (x := .int (gI q9.1)) (kc2 := 0) (ks2 := 0) ⟨rfl, rfl⟩ ?_) gy_kn
    refine gx_bE e (fun _ g10 e => ?_)
    refine gx_iE e (fun c11 e => ?_) (fun c11 e => ?_)
    · refine gy_if_ne (tgt := 58) (gi_rgS g10) dX4_admit_48 (by decide) (fun z => absurd c11 z) (fun _ => ?_)
      refine gx_sub (ls2 := [(0, .ref v0), (2, .int (gI v2))]) [1, 3] rfl ?_
      exact zb_X4_admit_51  e
    · refine gy_if_ne (tgt := 58) (gi_rgS g10) dX4_admit_48 (by decide) (fun _ => ?_) (fun z => absurd z c11)
      refine gx_aload_nq dX4_admit_58 rfl 0 rfl ?_
      refine gx_aload_n dX4_admit_59 rfl 2 rfl ?_
      refine gy_iconst dX4_admit_60 ?_
      refine gx_bE e (fun t12 ht12 e => ?_)
      rw [ht12]
      refine gx_bE e (fun _ hu13 e => ?_)
      refine gx_bE e (fun q14 hq14 e => ?_)
      refine gx_callV (n := 2) (st := []) (As := [.ref v1, .int (gI (0 : Int))]) (b := t12) dX4_admit_61 (z_X8_copyRenamed hq14) rfl ⟨rfl, gw_cw_X8_copyRenamed, gw_2, gp_X8_copyRenamed, ⟨Nat.le_of_ble_eq_true rfl, Nat.le_of_ble_eq_true rfl⟩⟩ (gi_isS hu13) (by decide) gw_815 gw_816 gw_817 rfl ⟨Nat.le_of_ble_eq_true rfl, Nat.le_of_ble_eq_true rfl⟩ (Nat.le_of_ble_eq_true rfl) (gy_k0 (kc2 := 0) (ks2 := 0) ⟨rfl, rfl⟩ ?_) gy_kn
      refine gx_aload_n dX4_admit_64 rfl 1 rfl ?_
      refine gx_bE e (fun t15 ht15 e => ?_)
      refine gy_fR ht15 dX4_admit_65 gf_RX4_27_3_5 (by decide) gkN_3_5 gkR_3_5 ?_
      refine gx_aload_n dX4_admit_68 rfl 1 rfl ?_
      refine gx_bE e (fun t16 ht16 e => ?_)
      refine gy_fI ht16 dX4_admit_69 gf_RX4_46_3_6 (by decide) gkN_3_6 gkR_3_6 ?_
      refine gx_iload_n dX4_admit_72 rfl 3 rfl ?_
      refine gx_bE e (fun h17 hh17 e => ?_)
      refine gy_t1 hh17 dX4_admit_73 ?_
      refine gx_aload_n dX4_admit_74 rfl 1 rfl ?_
      refine gx_dup dX4_admit_75 rfl ?_
      refine gx_bE e (fun t18 ht18 e => ?_)
      refine gy_fI ht18 dX4_admit_76 gf_RX4_46_3_6 (by decide) gkN_3_6 gkR_3_6 ?_
      refine gy_iconst dX4_admit_79 ?_
      refine gy_iadd dX4_admit_80 ?_
      refine gx_bE e (fun h19 hh19 e => ?_)
      refine gy_qI hh19 dX4_admit_81 gf_RX4_46_3_6 (by decide) gkN_3_6 rfl (Or.inl rfl) ?_
      refine gy_iconst dX4_admit_84 ?_
      cases e
      exact gx_zret (by decide +kernel) dX4_admit_85 rfl ⟨Nat.le_of_ble_eq_true rfl, Nat.le_of_ble_eq_true rfl⟩ (fun z => z)
set_option maxRecDepth 100000 in
def b_X4_admit_33 (n : Nat)  (v0 : Nat) (v1 : Nat) (v2 : Int)  (h : gi_H) : Option (Int × gi_H) :=
  b_X4_admit_34 n  v0 v1 v2 none h
set_option maxRecDepth 100000 in
theorem zb_X4_admit_33 {al : Bool} {n : Nat}  {res : Int} {h1 : gi_H}  {v0 : Nat} {v1 : Nat} {v2 : Int}  {h : gi_H} (e : b_X4_admit_33 n v0 v1 v2 h = some (res, h1)) : gx_Z mX4_admit al al 0 0 33 [(0, .ref v0), (1, .ref v1), (2, .int (gI v2))] [] (gi_cv h) (.inl (some (.int (gI res)))) (gi_cv h1) := by
  refine gx_null dX4_admit_33 ?_
  exact zb_X4_admit_34  e
set_option maxRecDepth 100000 in
def f_X4_admit (n : Nat) (v0 : Nat) (v1 : Nat) (h : gi_H) : Option (Int × gi_H) :=
  Option.bind (gi_gI h v0 3 3) fun t1 => Option.bind (gi_gI h v0 3 6) fun t2 => Option.bind (gi_rg t2) fun _ => if t2 < 0 then (b_X4_admit_33 n  v0 v1 t1 h) else (Option.bind (gi_gI h v0 3 6) fun t20 => Option.bind (gi_rg t20) fun _ => if (24 : Int) ≤ t20 then (b_X4_admit_33 n  v0 v1 t1 h) else (Option.bind (gi_gR h v0 3 4) fun t23 => Option.bind (gi_gI h v0 3 6) fun t24 => Option.bind (gi_aR h t23 t24) fun t25 => b_X4_admit_34 n  v0 v1 t1 t25 h))
set_option maxRecDepth 100000 in
theorem z_X4_admit {al : Bool} {n : Nat} {v0 : Nat} {v1 : Nat} {h : gi_H} {res : Int} {h1 : gi_H} (e : f_X4_admit n v0 v1 h = some (res, h1)) : gx_Cw mX4_admit al [.ref v0, .ref v1] (gi_cv h) (.inl (some (.int (gI res)))) (gi_cv h1) := by
  refine gx_enter (by decide +kernel) rfl (Nat.le_of_ble_eq_true rfl) ?_
  show gx_Z mX4_admit al al 0 0 0 [(0, .ref v0), (1, .ref v1)] [] (gi_cv h) (.inl (some (.int (gI res)))) (gi_cv h1)
  refine gx_aload_n dX4_admit_0 rfl 0 rfl ?_
  refine gx_bE e (fun t1 ht1 e => ?_)
  refine gy_fI ht1 dX4_admit_1 gf_RX4_42_3_3 (by decide) gkN_3_3 gkR_3_3 ?_
  refine gx_istore_n (ls2 := [(2, .int (gI t1)), (0, .ref v0), (1, .ref v1)]) dX4_admit_4 rfl (Nat.le_of_ble_eq_true rfl) rfl ?_
  refine gx_aload_n dX4_admit_5 rfl 1 rfl ?_
  refine gx_bE e (fun t2 ht2 e => ?_)
  refine gy_fI ht2 dX4_admit_6 gf_RX4_46_3_6 (by decide) gkN_3_6 gkR_3_6 ?_
  refine gx_bE e (fun _ g3 e => ?_)
  refine gx_iE e (fun c4 e => ?_) (fun c4 e => ?_)
  · refine gy_if_lt (tgt := 33) (gi_rgS g3) dX4_admit_9 (by decide) (fun _ => ?_) (fun z => absurd c4 z)
    refine gx_sub (ls2 := [(0, .ref v0), (1, .ref v1), (2, .int (gI t1))]) [1, 2, 0] rfl ?_
    exact zb_X4_admit_33  e
  · refine gy_if_lt (tgt := 33) (gi_rgS g3) dX4_admit_9 (by decide) (fun z => absurd z c4) (fun _ => ?_)
    refine gx_aload_n dX4_admit_12 rfl 1 rfl ?_
    refine gx_bE e (fun t20 ht20 e => ?_)
    refine gy_fI ht20 dX4_admit_13 gf_RX4_46_3_6 (by decide) gkN_3_6 gkR_3_6 ?_
    refine gy_bipush dX4_admit_16 gcb_24 ?_
    refine gx_bE e (fun _ g21 e => ?_)
    refine gx_iE e (fun c22 e => ?_) (fun c22 e => ?_)
    · refine gy_icmp_ge (tgt := 33) (gi_rgS g21) (by decide) dX4_admit_18 (by decide) (fun _ => ?_) (fun z => absurd c22 z)
      refine gx_sub (ls2 := [(0, .ref v0), (1, .ref v1), (2, .int (gI t1))]) [1, 2, 0] rfl ?_
      exact zb_X4_admit_33  e
    · refine gy_icmp_ge (tgt := 33) (gi_rgS g21) (by decide) dX4_admit_18 (by decide) (fun z => absurd z c22) (fun _ => ?_)
      refine gx_aload_n dX4_admit_21 rfl 1 rfl ?_
      refine gx_bE e (fun t23 ht23 e => ?_)
      refine gy_fR ht23 dX4_admit_22 gf_RX4_23_3_4 (by decide) gkN_3_4 gkR_3_4 ?_
      refine gx_aload_n dX4_admit_25 rfl 1 rfl ?_
      refine gx_bE e (fun t24 ht24 e => ?_)
      refine gy_fI ht24 dX4_admit_26 gf_RX4_46_3_6 (by decide) gkN_3_6 gkR_3_6 ?_
      refine gx_bE e (fun t25 ht25 e => ?_)
      refine gy_l5 ht25 dX4_admit_29 ?_
      refine gx_goto (tgt := 34) dX4_admit_30 (by decide) ?_
      refine gx_sub (ls2 := [(0, .ref v0), (1, .ref v1), (2, .int (gI t1))]) [1, 2, 0] rfl ?_
      exact zb_X4_admit_34  e
/-! X3_forget  -/
set_option maxRecDepth 100000 in
def f_X3_forget (v0 : Nat) (v1 : Nat) (h : gi_H) : Option (gi_H) :=
  Option.bind (gi_pR h v0 2 0 v1) fun h1 => Option.bind (gi_pZ h1 v0 2 1 (0 : Int)) fun h2 => some h2
set_option maxRecDepth 100000 in
theorem z_X3_forget {al : Bool} {v0 : Nat} {v1 : Nat} {h : gi_H} {h1 : gi_H} (e : f_X3_forget v0 v1 h = some h1) : gx_Cw mX3_forget al [.ref v0, .ref v1] (gi_cv h) (.inl none) (gi_cv h1) := by
  refine gx_enter (by decide +kernel) rfl (Nat.le_of_ble_eq_true rfl) ?_
  show gx_Z mX3_forget al al 0 0 0 [(0, .ref v0), (1, .ref v1)] [] (gi_cv h) (.inl none) (gi_cv h1)
  refine gx_aload_n dX3_forget_0 rfl 0 rfl ?_
  refine gx_aload_n dX3_forget_1 rfl 1 rfl ?_
  refine gx_bE e (fun h1 hh1 e => ?_)
  refine gy_qR hh1 dX3_forget_2 gf_RX3_37_2_0 (by decide) gkN_2_0 gkR_2_0 (Or.inl rfl) ?_
  refine gx_aload_n dX3_forget_5 rfl 0 rfl ?_
  refine gy_iconst dX3_forget_6 ?_
  refine gx_bE e (fun h2 hh2 e => ?_)
  refine gy_qZ hh2 dX3_forget_7 gf_RX3_41_2_1 (by decide) gkN_2_1 rfl (Or.inl rfl) ?_
  cases e
  exact gx_vret dX3_forget_10 rfl ⟨Nat.le_of_ble_eq_true rfl, Nat.le_of_ble_eq_true rfl⟩ (fun z => z)
/-! X0_forget  -/
set_option maxRecDepth 100000 in
def f_X0_forget (v0 : Nat) (h : gi_H) : Option (gi_H) :=
  Option.bind (gi_pZ h v0 0 2 (0 : Int)) fun h1 => some h1
set_option maxRecDepth 100000 in
theorem z_X0_forget {al : Bool} {v0 : Nat} {h : gi_H} {h1 : gi_H} (e : f_X0_forget v0 h = some h1) : gx_Cw mX0_forget al [.ref v0] (gi_cv h) (.inl none) (gi_cv h1) := by
  refine gx_enter (by decide +kernel) rfl (Nat.le_of_ble_eq_true rfl) ?_
  show gx_Z mX0_forget al al 0 0 0 [(0, .ref v0)] [] (gi_cv h) (.inl none) (gi_cv h1)
  refine gx_aload_n dX0_forget_0 rfl 0 rfl ?_
  refine gy_iconst dX0_forget_1 ?_
  refine gx_bE e (fun h1 hh1 e => ?_)
  refine gy_qZ hh1 dX0_forget_2 gf_RX0_36_0_2 (by decide) gkN_0_2 rfl (Or.inl rfl) ?_
  cases e
  exact gx_vret dX0_forget_5 rfl ⟨Nat.le_of_ble_eq_true rfl, Nat.le_of_ble_eq_true rfl⟩ (fun z => z)
/-! X11_forget  -/
set_option maxRecDepth 100000 in
def f_X11_forget (v0 : Nat) (h : gi_H) : Option (gi_H) :=
  Option.bind (gi_gR h v0 9 8) fun t1 => Option.bind (gi_gR h v0 9 1) fun t2 => Option.bind (gi_is h t1 2) fun _ => Option.bind (f_X3_forget t1 t2 h) fun q4 => Option.bind (gi_gR q4 v0 9 9) fun t5 => Option.bind (gi_is q4 t5 0) fun _ => Option.bind (f_X0_forget t5 q4) fun q7 => Option.bind (gi_gR q7 v0 9 10) fun t8 => Option.bind (gi_is q7 t8 0) fun _ => Option.bind (f_X0_forget t8 q7) fun q10 => some q10
set_option maxRecDepth 100000 in
theorem z_X11_forget {al : Bool} {v0 : Nat} {h : gi_H} {h1 : gi_H} (e : f_X11_forget v0 h = some h1) : gx_Cw mX11_forget al [.ref v0] (gi_cv h) (.inl none) (gi_cv h1) := by
  refine gx_enter (by decide +kernel) rfl (Nat.le_of_ble_eq_true rfl) ?_
  show gx_Z mX11_forget al al 0 0 0 [(0, .ref v0)] [] (gi_cv h) (.inl none) (gi_cv h1)
  refine gx_aload_n dX11_forget_0 rfl 0 rfl ?_
  refine gx_bE e (fun t1 ht1 e => ?_)
  refine gy_fR ht1 dX11_forget_1 gf_RX11_52_9_8 (by decide) gkN_9_8 gkR_9_8 ?_
  refine gx_aload_n dX11_forget_4 rfl 0 rfl ?_
  refine gx_bE e (fun t2 ht2 e => ?_)
  refine gy_fR ht2 dX11_forget_5 gf_RX11_35_9_1 (by decide) gkN_9_1 gkR_9_1 ?_
  refine gx_bE e (fun _ hu3 e => ?_)
  refine gx_bE e (fun q4 hq4 e => ?_)
  refine gx_callV (n := 1) (st := []) (As := [.ref t2]) (b := t1) dX11_forget_8 (z_X3_forget hq4) rfl ⟨rfl, gw_cw_X3_forget, gw_6, gp_X3_forget, ⟨Nat.le_of_ble_eq_true rfl, Nat.le_of_ble_eq_true rfl⟩⟩ (gi_isS hu3) (by decide) gw_825 gw_826 gw_827 rfl ⟨Nat.le_of_ble_eq_true rfl, Nat.le_of_ble_eq_true rfl⟩ (Nat.le_of_ble_eq_true rfl) (gy_k0 (kc2 := 0) (ks2 := 0) ⟨rfl, rfl⟩ ?_) gy_kn
  refine gx_aload_n dX11_forget_11 rfl 0 rfl ?_
  refine gx_bE e (fun t5 ht5 e => ?_)
  refine gy_fR ht5 dX11_forget_12 gf_RX11_56_9_9 (by decide) gkN_9_9 gkR_9_9 ?_
  refine gx_bE e (fun _ hu6 e => ?_)
  refine gx_bE e (fun q7 hq7 e => ?_)
  refine gx_callV (n := 0) (st := []) (As := []) (b := t5) dX11_forget_15 (z_X0_forget hq7) rfl ⟨rfl, gw_cw_X0_forget, gw_7, gp_X0_forget, ⟨Nat.le_of_ble_eq_true rfl, Nat.le_of_ble_eq_true rfl⟩⟩ (gi_isS hu6) (by decide) gw_829 gw_830 gw_831 rfl ⟨Nat.le_of_ble_eq_true rfl, Nat.le_of_ble_eq_true rfl⟩ (Nat.le_of_ble_eq_true rfl) (gy_k0 (kc2 := 0) (ks2 := 0) ⟨rfl, rfl⟩ ?_) gy_kn
  refine gx_aload_n dX11_forget_18 rfl 0 rfl ?_
  refine gx_bE e (fun t8 ht8 e => ?_)
  refine gy_fR ht8 dX11_forget_19 gf_RX11_60_9_10 (by decide) gkN_9_10 gkR_9_10 ?_
  refine gx_bE e (fun _ hu9 e => ?_)
  refine gx_bE e (fun q10 hq10 e => ?_)
  refine gx_callV (n := 0) (st := []) (As := []) (b := t8) dX11_forget_22 (z_X0_forget hq10) rfl ⟨rfl, gw_cw_X0_forget, gw_7, gp_X0_forget, ⟨Nat.le_of_ble_eq_true rfl, Nat.le_of_ble_eq_true rfl⟩⟩ (gi_isS hu9) (by decide) gw_829 gw_830 gw_831 rfl ⟨Nat.le_of_ble_eq_true rfl, Nat.le_of_ble_eq_true rfl⟩ (Nat.le_of_ble_eq_true rfl) (gy_k0 (kc2 := 0) (ks2 := 0) ⟨rfl, rfl⟩ ?_) gy_kn
  cases e
  exact gx_vret dX11_forget_25 rfl ⟨Nat.le_of_ble_eq_true rfl, Nat.le_of_ble_eq_true rfl⟩ (fun z => z)
/-! X4_count  -/
set_option maxRecDepth 100000 in
def f_X4_count (v0 : Nat) (h : gi_H) : Option (Int) :=
  Option.bind (gi_gI h v0 3 3) fun t1 => some t1
set_option maxRecDepth 100000 in
theorem z_X4_count {al : Bool} {v0 : Nat} {h : gi_H} {res : Int} (e : f_X4_count v0 h = some res) : gx_Cw mX4_count al [.ref v0] (gi_cv h) (.inl (some (.int (gI res)))) (gi_cv h) := by
  refine gx_enter (by decide +kernel) rfl (Nat.le_of_ble_eq_true rfl) ?_
  show gx_Z mX4_count al al 0 0 0 [(0, .ref v0)] [] (gi_cv h) (.inl (some (.int (gI res)))) (gi_cv h)
  refine gx_aload_n dX4_count_0 rfl 0 rfl ?_
  refine gx_bE e (fun t1 ht1 e => ?_)
  refine gy_fI ht1 dX4_count_1 gf_RX4_42_3_3 (by decide) gkN_3_3 gkR_3_3 ?_
  cases e
  exact gx_iret dX4_count_4 rfl ⟨Nat.le_of_ble_eq_true rfl, Nat.le_of_ble_eq_true rfl⟩ (fun z => z)
/-! X11_enter  -/
set_option maxRecDepth 100000 in
def f_X11_enter (n : Nat) (v0 : Nat) (h : gi_H) : Option ((Int ⊕ String) × gi_H) :=
  Option.bind (gi_gR h v0 9 0) fun t1 => Option.bind (gi_is h t1 7) fun _ => Option.bind (f_X8_firstFault n t1 h) fun q3 => Option.bind (gi_rg q3) fun _ => if q3 = (-1 : Int) then (Option.bind (gi_gR h v0 9 1) fun t6 => Option.bind (gi_gR h v0 9 0) fun t7 => Option.bind (gi_is h t6 3) fun _ => Option.bind (f_X4_admit n t6 t7 h) fun q9 => Option.bind (gi_rg q9.1) fun _ => if q9.1 = 0 then (some (.inr gx_ISE, q9.2)) else (Option.bind (gi_is q9.2 v0 9) fun _ => Option.bind (f_X11_forget v0 q9.2) fun q13 => Option.bind (gi_gR q13 v0 9 1) fun t14 => Option.bind (gi_is q13 t14 3) fun _ => Option.bind (f_X4_count t14 q13) fun q16 => some (.inl q16, q13))) else (some (.inr gx_IAE, h))
set_option maxRecDepth 100000 in
theorem z_X11_enter {n : Nat} {v0 : Nat} {h : gi_H} {res : Int ⊕ String} {h1 : gi_H} (e : f_X11_enter n v0 h = some (res, h1)) : gx_Cw mX11_enter false [.ref v0] (gi_cv h) (gx_oI res) (gi_cv h1) := by
  refine gx_enter (by decide +kernel) rfl (Nat.le_of_ble_eq_true rfl) ?_
  show gx_Z mX11_enter false false 0 0 0 [(0, .ref v0)] [] (gi_cv h) (gx_oI res) (gi_cv h1)
  refine gx_aload_n dX11_enter_0 rfl 0 rfl ?_
  refine gx_bE e (fun t1 ht1 e => ?_)
  refine gy_fR ht1 dX11_enter_1 gf_RX11_12_9_0 (by decide) gkN_9_0 gkR_9_0 ?_
  refine gx_bE e (fun _ hu2 e => ?_)
  refine gx_bE e (fun q3 hq3 e => ?_)
  refine gx_callV (n := 0) (st := []) (As := []) (b := t1) dX11_enter_4 (z_X8_firstFault hq3) rfl ⟨rfl, gw_cw_X8_firstFault, gw_2, gp_X8_firstFault, ⟨Nat.le_of_ble_eq_true rfl, Nat.le_of_ble_eq_true rfl⟩⟩ (gi_isS hu2) (by decide) gw_356 gw_357 gw_358 rfl ⟨Nat.le_of_ble_eq_true rfl, Nat.le_of_ble_eq_true rfl⟩ (Nat.le_of_ble_eq_true rfl) (gy_k1 (x := .int (gI q3)) (kc2 := 0) (ks2 := 0) ⟨rfl, rfl⟩ ?_) gy_kn
  refine gy_iconst dX11_enter_7 ?_
  refine gx_bE e (fun _ g4 e => ?_)
  refine gx_iE e (fun c5 e => ?_) (fun c5 e => ?_)
  · refine gy_icmp_eq (tgt := 21) (gi_rgS g4) (by decide) dX11_enter_8 (by decide) (fun _ => ?_) (fun z => absurd c5 z)
    refine gx_aload_n dX11_enter_21 rfl 0 rfl ?_
    refine gx_bE e (fun t6 ht6 e => ?_)
    refine gy_fR ht6 dX11_enter_22 gf_RX11_35_9_1 (by decide) gkN_9_1 gkR_9_1 ?_
    refine gx_aload_n dX11_enter_25 rfl 0 rfl ?_
    refine gx_bE e (fun t7 ht7 e => ?_)
    refine gy_fR ht7 dX11_enter_26 gf_RX11_12_9_0 (by decide) gkN_9_0 gkR_9_0 ?_
    refine gx_bE e (fun _ hu8 e => ?_)
    refine gx_bE e (fun q9 hq9 e => ?_)
    refine gx_callV (n := 1) (st := []) (As := [.ref t7]) (b := t6) dX11_enter_29 (z_X4_admit hq9) rfl ⟨rfl, gw_cw_X4_admit, gw_3, gp_X4_admit, ⟨Nat.le_of_ble_eq_true rfl, Nat.le_of_ble_eq_true rfl⟩⟩ (gi_isS hu8) (by decide) gw_766 gw_767 gw_768 rfl ⟨Nat.le_of_ble_eq_true rfl, Nat.le_of_ble_eq_true rfl⟩ (Nat.le_of_ble_eq_true rfl) (gy_k1 (x := .int (gI q9.1)) (kc2 := 0) (ks2 := 0) ⟨rfl, rfl⟩ ?_) gy_kn
    refine gx_bE e (fun _ g10 e => ?_)
    refine gx_iE e (fun c11 e => ?_) (fun c11 e => ?_)
    · refine gy_if_ne (tgt := 45) (gi_rgS g10) dX11_enter_32 (by decide) (fun z => absurd c11 z) (fun _ => ?_)
      cases e
      exact gx_throw rfl gt_116_138_120 rfl dX11_enter_35 dX11_enter_38 dX11_enter_39 dX11_enter_41 dX11_enter_44 (Nat.le_of_ble_eq_true rfl) (Nat.le_of_ble_eq_true rfl) ⟨Nat.le_of_ble_eq_true rfl, Nat.le_of_ble_eq_true rfl⟩
    · refine gy_if_ne (tgt := 45) (gi_rgS g10) dX11_enter_32 (by decide) (fun _ => ?_) (fun z => absurd z c11)
      refine gx_aload_n dX11_enter_45 rfl 0 rfl ?_
      refine gx_bE e (fun _ hu12 e => ?_)
      refine gx_bE e (fun q13 hq13 e => ?_)
      refine gx_callV (n := 0) (st := []) (As := []) (b := v0) dX11_enter_46 (z_X11_forget hq13) rfl ⟨rfl, gw_cw_X11_forget, gw_1, gp_X11_forget, ⟨Nat.le_of_ble_eq_true rfl, Nat.le_of_ble_eq_true rfl⟩⟩ (gi_isS hu12) (by decide) gw_821 gw_823 gs_24 rfl ⟨Nat.le_of_ble_eq_true rfl, Nat.le_of_ble_eq_true rfl⟩ (Nat.le_of_ble_eq_true rfl) (gy_k0 (kc2 := 0) (ks2 := 0) ⟨rfl, rfl⟩ ?_) gy_kn
      refine gx_aload_n dX11_enter_49 rfl 0 rfl ?_
      refine gx_bE e (fun t14 ht14 e => ?_)
      refine gy_fR ht14 dX11_enter_50 gf_RX11_35_9_1 (by decide) gkN_9_1 gkR_9_1 ?_
      refine gx_bE e (fun _ hu15 e => ?_)
      refine gx_bE e (fun q16 hq16 e => ?_)
      refine gx_callV (n := 0) (st := []) (As := []) (b := t14) dX11_enter_53 (z_X4_count hq16) rfl ⟨rfl, gw_cw_X4_count, gw_3, gp_X4_count, ⟨Nat.le_of_ble_eq_true rfl, Nat.le_of_ble_eq_true rfl⟩⟩ (gi_isS hu15) (by decide) gw_383 gw_384 gw_385 rfl ⟨Nat.le_of_ble_eq_true rfl, Nat.le_of_ble_eq_true rfl⟩ (Nat.le_of_ble_eq_true rfl) (gy_k1 (x := .int (gI q16)) (kc2 := 0) (ks2 := 0) ⟨rfl, rfl⟩ ?_) gy_kn
      cases e
      exact gx_iret dX11_enter_56 rfl ⟨Nat.le_of_ble_eq_true rfl, Nat.le_of_ble_eq_true rfl⟩ (fun z => z)
  · refine gy_icmp_eq (tgt := 21) (gi_rgS g4) (by decide) dX11_enter_8 (by decide) (fun z => absurd z c5) (fun _ => ?_)
    cases e
    exact gx_throw rfl gt_105_132_109 rfl dX11_enter_11 dX11_enter_14 dX11_enter_15 dX11_enter_17 dX11_enter_20 (Nat.le_of_ble_eq_true rfl) (Nat.le_of_ble_eq_true rfl) ⟨Nat.le_of_ble_eq_true rfl, Nat.le_of_ble_eq_true rfl⟩
/-! L_enter  -/
set_option maxRecDepth 100000 in
def f_L_enter (n : Nat) (v0 : Nat) (h : gi_H) : Option (Int × gi_H) :=
  Option.bind (gi_is h v0 9) fun _ => Option.bind (f_X11_enter n v0 h) fun q2 => gx_sm q2.1 (fun t3 => some (t3, q2.2)) (fun t3 => if t3 = gx_IAE then (some ((-102 : Int), q2.2)) else (if t3 = gx_ISE then (some ((-103 : Int), q2.2)) else (none)))
set_option maxRecDepth 100000 in
theorem z_L_enter {n : Nat} {v0 : Nat} {h : gi_H} {res : Int} {h1 : gi_H} (e : f_L_enter n v0 h = some (res, h1)) : gx_Cw mL_enter false [.ref v0] (gi_cv h) (.inl (some (.int (gI res)))) (gi_cv h1) := by
  refine gx_enter (by decide +kernel) rfl (Nat.le_of_ble_eq_true rfl) ?_
  show gx_Z mL_enter false false 0 0 0 [(0, .ref v0)] [] (gi_cv h) (.inl (some (.int (gI res)))) (gi_cv h1)
  refine gx_aload_n dL_enter_0 rfl 0 rfl ?_
  refine gx_bE e (fun _ hu1 e => ?_)
  refine gx_bE e (fun q2 hq2 e => ?_)
  refine gx_smE e (fun t3 ht3 e => ?_) (fun t3 ht3 e => ?_)
  · have zq2 := z_X11_enter hq2
    rw [ht3] at zq2
    refine gx_callV (n := 0) (st := []) (As := []) (b := v0) dL_enter_1 zq2 rfl ⟨rfl, gw_cw_X11_enter, gw_1, gp_X11_enter, ⟨Nat.le_of_ble_eq_true rfl, Nat.le_of_ble_eq_true rfl⟩⟩ (gi_isS hu1) (by decide) gw_761 gw_762 gw_763 rfl ⟨Nat.le_of_ble_eq_true rfl, Nat.le_of_ble_eq_true rfl⟩ (Nat.le_of_ble_eq_true rfl) (gy_k1 (x := .int (gI t3)) (kc2 := 1) (ks2 := 6) ⟨rfl, rfl⟩ ?_) gy_kn
    cases e
    exact gx_iret dL_enter_4 rfl ⟨Nat.le_of_ble_eq_true rfl, Nat.le_of_ble_eq_true rfl⟩ (fun z => z)
  · have zq2 := z_X11_enter hq2
    rw [ht3] at zq2
    refine gx_callV (n := 0) (st := []) (As := []) (b := v0) dL_enter_1 zq2 rfl ⟨rfl, gw_cw_X11_enter, gw_1, gp_X11_enter, ⟨Nat.le_of_ble_eq_true rfl, Nat.le_of_ble_eq_true rfl⟩⟩ (gi_isS hu1) (by decide) gw_761 gw_762 gw_763 rfl ⟨Nat.le_of_ble_eq_true rfl, Nat.le_of_ble_eq_true rfl⟩ (Nat.le_of_ble_eq_true rfl) gy_kN (gy_kE (kc2 := 1) (ks2 := 6) ⟨rfl, rfl⟩ ?_)
    refine gx_iE e (fun c4 e => ?_) (fun c4 e => ?_)
    · rw [c4]
      refine gx_catch (ls2 := [(0, .ref v0)]) [] (x := (0, 4, 5, 15)) rfl (fun z hz => by cases hz) (by decide +kernel) (by decide) gw_654 (by decide +kernel) (Nat.le_of_ble_eq_true rfl) (Or.inl ⟨1, rfl, rfl, dL_enter_5⟩) rfl ?_
      refine gy_bipush dL_enter_6 gcb_m102 ?_
      cases e
      exact gx_iret dL_enter_8 rfl ⟨Nat.le_of_ble_eq_true rfl, Nat.le_of_ble_eq_true rfl⟩ (fun z => z)
    refine gx_iE e (fun c5 e => ?_) (fun c5 e => ?_)
    · rw [c5]
      refine gx_catch (ls2 := [(0, .ref v0)]) [(0, 4, 5, 15)] (x := (0, 4, 9, 17)) rfl (by refine List.forall_mem_cons.mpr ⟨⟨by decide, "java/lang/IllegalArgumentException", gw_654, by decide +kernel⟩, ?_⟩;  exact fun z hz => absurd hz List.not_mem_nil) (by decide +kernel) (by decide) gw_655 (by decide +kernel) (Nat.le_of_ble_eq_true rfl) (Or.inl ⟨1, rfl, rfl, dL_enter_9⟩) rfl ?_
      refine gy_bipush dL_enter_10 gcb_m103 ?_
      cases e
      exact gx_iret dL_enter_12 rfl ⟨Nat.le_of_ble_eq_true rfl, Nat.le_of_ble_eq_true rfl⟩ (fun z => z)
    cases e
/-! X11_productions  -/
set_option maxRecDepth 100000 in
def f_X11_productions (v0 : Nat) (h : gi_H) : Option (Int) :=
  Option.bind (gi_gR h v0 9 1) fun t1 => Option.bind (gi_is h t1 3) fun _ => Option.bind (f_X4_count t1 h) fun q3 => some q3
set_option maxRecDepth 100000 in
theorem z_X11_productions {al : Bool} {v0 : Nat} {h : gi_H} {res : Int} (e : f_X11_productions v0 h = some res) : gx_Cw mX11_productions al [.ref v0] (gi_cv h) (.inl (some (.int (gI res)))) (gi_cv h) := by
  refine gx_enter (by decide +kernel) rfl (Nat.le_of_ble_eq_true rfl) ?_
  show gx_Z mX11_productions al al 0 0 0 [(0, .ref v0)] [] (gi_cv h) (.inl (some (.int (gI res)))) (gi_cv h)
  refine gx_aload_n dX11_productions_0 rfl 0 rfl ?_
  refine gx_bE e (fun t1 ht1 e => ?_)
  refine gy_fR ht1 dX11_productions_1 gf_RX11_35_9_1 (by decide) gkN_9_1 gkR_9_1 ?_
  refine gx_bE e (fun _ hu2 e => ?_)
  refine gx_bE e (fun q3 hq3 e => ?_)
  refine gx_callV (n := 0) (st := []) (As := []) (b := t1) dX11_productions_4 (z_X4_count hq3) rfl ⟨rfl, gw_cw_X4_count, gw_3, gp_X4_count, ⟨Nat.le_of_ble_eq_true rfl, Nat.le_of_ble_eq_true rfl⟩⟩ (gi_isS hu2) (by decide) gw_383 gw_384 gw_385 rfl ⟨Nat.le_of_ble_eq_true rfl, Nat.le_of_ble_eq_true rfl⟩ (Nat.le_of_ble_eq_true rfl) (gy_k1 (x := .int (gI q3)) (kc2 := 0) (ks2 := 0) ⟨rfl, rfl⟩ ?_) gy_kn
  cases e
  exact gx_iret dX11_productions_7 rfl ⟨Nat.le_of_ble_eq_true rfl, Nat.le_of_ble_eq_true rfl⟩ (fun z => z)
/-! X11_left  -/
set_option maxRecDepth 100000 in
def b_X11_left_15    (h : gi_H) : Option ((Int ⊕ String) × gi_H) :=
  some (.inr gx_IOB, h)
set_option maxRecDepth 100000 in
theorem zb_X11_left_15  {res : Int ⊕ String} {h1 : gi_H}    {h : gi_H} (e : b_X11_left_15  h = some (res, h1)) : gx_Z mX11_left false false 0 0 15 [] [] (gi_cv h) (gx_oI res) (gi_cv h1) := by
  cases e
  exact gx_throw rfl gt_151_188_155 rfl dX11_left_15 dX11_left_18 dX11_left_19 dX11_left_21 dX11_left_24 (Nat.le_of_ble_eq_true rfl) (Nat.le_of_ble_eq_true rfl) ⟨Nat.le_of_ble_eq_true rfl, Nat.le_of_ble_eq_true rfl⟩
set_option maxRecDepth 100000 in
def f_X11_left (v0 : Nat) (v1 : Int) (h : gi_H) : Option ((Int ⊕ String) × gi_H) :=
  Option.bind (gi_rg v1) fun _ => if v1 < 0 then (b_X11_left_15   h) else (Option.bind (gi_gR h v0 9 1) fun t3 => Option.bind (gi_is h t3 3) fun _ => Option.bind (f_X4_count t3 h) fun q5 => Option.bind (gi_rg q5) fun _ => if v1 < q5 then (Option.bind (gi_gR h v0 9 1) fun t8 => Option.bind (gi_is h t8 3) fun _ => Option.bind (f_X4_owner t8 v1 h) fun q10 => some (.inl q10, h)) else (b_X11_left_15   h))
set_option maxRecDepth 100000 in
theorem z_X11_left {v0 : Nat} {v1 : Int} {h : gi_H} {res : Int ⊕ String} {h1 : gi_H} (e : f_X11_left v0 v1 h = some (res, h1)) : gx_Cw mX11_left false [.ref v0, .int (gI v1)] (gi_cv h) (gx_oI res) (gi_cv h1) := by
  refine gx_enter (by decide +kernel) rfl (Nat.le_of_ble_eq_true rfl) ?_
  show gx_Z mX11_left false false 0 0 0 [(0, .ref v0), (1, .int (gI v1))] [] (gi_cv h) (gx_oI res) (gi_cv h1)
  refine gx_iload_n dX11_left_0 rfl 1 rfl ?_
  refine gx_bE e (fun _ g1 e => ?_)
  refine gx_iE e (fun c2 e => ?_) (fun c2 e => ?_)
  · refine gy_if_lt (tgt := 15) (gi_rgS g1) dX11_left_1 (by decide) (fun _ => ?_) (fun z => absurd c2 z)
    refine gx_sub (ls2 := []) [] rfl ?_
    exact zb_X11_left_15  e
  · refine gy_if_lt (tgt := 15) (gi_rgS g1) dX11_left_1 (by decide) (fun z => absurd z c2) (fun _ => ?_)
    refine gx_iload_n dX11_left_4 rfl 1 rfl ?_
    refine gx_aload_n dX11_left_5 rfl 0 rfl ?_
    refine gx_bE e (fun t3 ht3 e => ?_)
    refine gy_fR ht3 dX11_left_6 gf_RX11_35_9_1 (by decide) gkN_9_1 gkR_9_1 ?_
    refine gx_bE e (fun _ hu4 e => ?_)
    refine gx_bE e (fun q5 hq5 e => ?_)
    refine gx_callV (n := 0) (st := [.int (gI v1)]) (As := []) (b := t3) dX11_left_9 (z_X4_count hq5) rfl ⟨rfl, gw_cw_X4_count, gw_3, gp_X4_count, ⟨Nat.le_of_ble_eq_true rfl, Nat.le_of_ble_eq_true rfl⟩⟩ (gi_isS hu4) (by decide) gw_383 gw_384 gw_385 rfl ⟨Nat.le_of_ble_eq_true rfl, Nat.le_of_ble_eq_true rfl⟩ (Nat.le_of_ble_eq_true rfl) (gy_k1 (x := .int (gI q5)) (kc2 := 0) (ks2 := 0) ⟨rfl, rfl⟩ ?_) gy_kn
    refine gx_bE e (fun _ g6 e => ?_)
    refine gx_iE e (fun c7 e => ?_) (fun c7 e => ?_)
    · refine gy_icmp_lt (tgt := 25) (gi_rgS g1) (gi_rgS g6) dX11_left_12 (by decide) (fun _ => ?_) (fun z => absurd c7 z)
      refine gx_aload_n dX11_left_25 rfl 0 rfl ?_
      refine gx_bE e (fun t8 ht8 e => ?_)
      refine gy_fR ht8 dX11_left_26 gf_RX11_35_9_1 (by decide) gkN_9_1 gkR_9_1 ?_
      refine gx_iload_n dX11_left_29 rfl 1 rfl ?_
      refine gx_bE e (fun _ hu9 e => ?_)
      refine gx_bE e (fun q10 hq10 e => ?_)
      refine gx_callV (n := 1) (st := []) (As := [.int (gI v1)]) (b := t8) dX11_left_30 (z_X4_owner hq10) rfl ⟨rfl, gw_cw_X4_owner, gw_3, gp_X4_owner, ⟨Nat.le_of_ble_eq_true rfl, Nat.le_of_ble_eq_true rfl⟩⟩ (gi_isS hu9) (by decide) gw_917 gw_403 gw_404 rfl ⟨Nat.le_of_ble_eq_true rfl, Nat.le_of_ble_eq_true rfl⟩ (Nat.le_of_ble_eq_true rfl) (gy_k1 (x := .int (gI q10)) (kc2 := 0) (ks2 := 0) ⟨rfl, rfl⟩ ?_) gy_kn
      cases e
      exact gx_iret dX11_left_33 rfl ⟨Nat.le_of_ble_eq_true rfl, Nat.le_of_ble_eq_true rfl⟩ (fun z => z)
    · refine gy_icmp_lt (tgt := 25) (gi_rgS g1) (gi_rgS g6) dX11_left_12 (by decide) (fun z => absurd z c7) (fun _ => ?_)
      refine gx_sub (ls2 := []) [] rfl ?_
      exact zb_X11_left_15  e
/-! L_left  -/
set_option maxRecDepth 100000 in
def f_L_left (v0 : Nat) (v1 : Int) (h : gi_H) : Option (Int × gi_H) :=
  Option.bind (gi_is h v0 9) fun _ => Option.bind (f_X11_left v0 v1 h) fun q2 => gx_sm q2.1 (fun t3 => some (t3, q2.2)) (fun t3 => if t3 = gx_IOB then (some ((-101 : Int), q2.2)) else (none))
set_option maxRecDepth 100000 in
theorem z_L_left {v0 : Nat} {v1 : Int} {h : gi_H} {res : Int} {h1 : gi_H} (e : f_L_left v0 v1 h = some (res, h1)) : gx_Cw mL_left false [.ref v0, .int (gI v1)] (gi_cv h) (.inl (some (.int (gI res)))) (gi_cv h1) := by
  refine gx_enter (by decide +kernel) rfl (Nat.le_of_ble_eq_true rfl) ?_
  show gx_Z mL_left false false 0 0 0 [(0, .ref v0), (1, .int (gI v1))] [] (gi_cv h) (.inl (some (.int (gI res)))) (gi_cv h1)
  refine gx_aload_n dL_left_0 rfl 0 rfl ?_
  refine gx_iload_n dL_left_1 rfl 1 rfl ?_
  refine gx_bE e (fun _ hu1 e => ?_)
  refine gx_bE e (fun q2 hq2 e => ?_)
  refine gx_smE e (fun t3 ht3 e => ?_) (fun t3 ht3 e => ?_)
  · have zq2 := z_X11_left hq2
    rw [ht3] at zq2
    refine gx_callV (n := 1) (st := []) (As := [.int (gI v1)]) (b := v0) dL_left_2 zq2 rfl ⟨rfl, gw_cw_X11_left, gw_1, gp_X11_left, ⟨Nat.le_of_ble_eq_true rfl, Nat.le_of_ble_eq_true rfl⟩⟩ (gi_isS hu1) (by decide) gw_912 gw_913 gw_914 rfl ⟨Nat.le_of_ble_eq_true rfl, Nat.le_of_ble_eq_true rfl⟩ (Nat.le_of_ble_eq_true rfl) (gy_k1 (x := .int (gI t3)) (kc2 := 1) (ks2 := 6) ⟨rfl, rfl⟩ ?_) gy_kn
    cases e
    exact gx_iret dL_left_5 rfl ⟨Nat.le_of_ble_eq_true rfl, Nat.le_of_ble_eq_true rfl⟩ (fun z => z)
  · have zq2 := z_X11_left hq2
    rw [ht3] at zq2
    refine gx_callV (n := 1) (st := []) (As := [.int (gI v1)]) (b := v0) dL_left_2 zq2 rfl ⟨rfl, gw_cw_X11_left, gw_1, gp_X11_left, ⟨Nat.le_of_ble_eq_true rfl, Nat.le_of_ble_eq_true rfl⟩⟩ (gi_isS hu1) (by decide) gw_912 gw_913 gw_914 rfl ⟨Nat.le_of_ble_eq_true rfl, Nat.le_of_ble_eq_true rfl⟩ (Nat.le_of_ble_eq_true rfl) gy_kN (gy_kE (kc2 := 1) (ks2 := 6) ⟨rfl, rfl⟩ ?_)
    refine gx_iE e (fun c4 e => ?_) (fun c4 e => ?_)
    · rw [c4]
      refine gx_catch (ls2 := [(0, .ref v0), (1, .int (gI v1))]) [] (x := (0, 5, 6, 33)) rfl (fun z hz => by cases hz) (by decide +kernel) (by decide) gw_866 (by decide +kernel) (Nat.le_of_ble_eq_true rfl) (Or.inl ⟨2, rfl, rfl, dL_left_6⟩) rfl ?_
      refine gy_bipush dL_left_7 gcb_m101 ?_
      cases e
      exact gx_iret dL_left_9 rfl ⟨Nat.le_of_ble_eq_true rfl, Nat.le_of_ble_eq_true rfl⟩ (fun z => z)
    cases e
