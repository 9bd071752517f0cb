/-! X3_findLeftRecursive  -/
set_option maxRecDepth 100000 in
def b_X3_findLeftRecursive_85 (n : Nat)  (v0 : Nat)  (h : gi_H) : Option (gi_H) :=
  Option.bind (gi_is h v0 2) fun _ => Option.bind (f_X3_closeRelation n v0 h) fun q10 => Option.bind (gi_is q10 v0 2) fun _ => Option.bind (f_X3_relatedToThemselves n v0 q10) fun q12 => Option.bind (gi_pI q10 v0 2 3 q12) fun h13 => some h13
set_option maxRecDepth 100000 in
theorem zb_X3_findLeftRecursive_85 {al : Bool} {n : Nat}  {h1 : gi_H}  {v0 : Nat}  {h : gi_H} (e : b_X3_findLeftRecursive_85 n v0 h = some h1) : gx_Z mX3_findLeftRecursive al al 0 0 85 [(0, .ref v0)] [] (gi_cv h) (.inl none) (gi_cv h1) := by
  refine gx_aload_n dX3_findLeftRecursive_85 rfl 0 rfl ?_
  refine gx_bE e (fun _ hu9 e => ?_)
  refine gx_bE e (fun q10 hq10 e => ?_)
  refine gx_callV (n := 0) (st := []) (As := []) (b := v0) dX3_findLeftRecursive_86 (z_X3_closeRelation hq10) rfl ⟨rfl, gw_cw_X3_closeRelation, gw_6, gp_X3_closeRelation, ⟨Nat.le_of_ble_eq_true rfl, Nat.le_of_ble_eq_true rfl⟩⟩ (gi_isS hu9) (by decide) gw_455 gw_457 gs_7 rfl ⟨Nat.le_of_ble_eq_true rfl, Nat.le_of_ble_eq_true rfl⟩ (Nat.le_of_ble_eq_true rfl) (gy_k0 (kc2 := 0) (ks2 := 0) ⟨rfl, rfl⟩ ?_) gy_kn
  refine gx_aload_n dX3_findLeftRecursive_89 rfl 0 rfl ?_
  refine gx_aload_n dX3_findLeftRecursive_90 rfl 0 rfl ?_
  refine gx_bE e (fun _ hu11 e => ?_)
  refine gx_bE e (fun q12 hq12 e => ?_)
  refine gx_callV (n := 0) (st := [.ref v0]) (As := []) (b := v0) dX3_findLeftRecursive_91 (z_X3_relatedToThemselves hq12) rfl ⟨rfl, gw_cw_X3_relatedToThemselves, gw_6, gp_X3_relatedToThemselves, ⟨Nat.le_of_ble_eq_true rfl, Nat.le_of_ble_eq_true rfl⟩⟩ (gi_isS hu11) (by decide) gw_466 gw_468 gs_9 rfl ⟨Nat.le_of_ble_eq_true rfl, Nat.le_of_ble_eq_true rfl⟩ (Nat.le_of_ble_eq_true rfl) (gy_k1 (x := .int (gI q12)) (kc2 := 0) (ks2 := 0) ⟨rfl, rfl⟩ ?_) gy_kn
  refine gx_bE e (fun h13 hh13 e => ?_)
  refine gy_qI hh13 dX3_findLeftRecursive_94 gf_RX3_87_2_3 (by decide) gkN_2_3 rfl (Or.inl rfl) ?_
  cases e
  exact gx_vret dX3_findLeftRecursive_97 rfl ⟨Nat.le_of_ble_eq_true rfl, Nat.le_of_ble_eq_true rfl⟩ (fun z => z)
set_option maxRecDepth 100000 in
def b_X3_findLeftRecursive_79 (n : Nat) (r10 : Nat → Int → gi_H → Option (gi_H)) (v0 : Nat) (v1 : Int)  (h : gi_H) : Option (gi_H) :=
  gx_nm (v1 + (1 : Int)) fun t20 => r10 v0 t20 h
set_option maxRecDepth 100000 in
theorem zb_X3_findLeftRecursive_79 {al : Bool} {n : Nat} {r10 : Nat → Int → gi_H → Option (gi_H)} {h1 : gi_H} (hr10 : ∀ (x0 : Nat) (x1 : Int) (hh : gi_H), r10 x0 x1 hh = some h1 → gx_Z mX3_findLeftRecursive al al 0 0 10 [(0, .ref x0), (1, .int (gI x1))] [] (gi_cv hh) (.inl none) (gi_cv h1)) {v0 : Nat} {v1 : Int}  {h : gi_H} (e : b_X3_findLeftRecursive_79 n r10 v0 v1 h = some h1) : gx_Z mX3_findLeftRecursive al al 0 0 79 [(0, .ref v0), (1, .int (gI v1))] [] (gi_cv h) (.inl none) (gi_cv h1) := by
  refine gx_nE e (fun t20 ht20 e => ?_)
  refine gy_iinc (v := t20) (ls2 := [(1, .int (gI t20)), (0, .ref v0)]) dX3_findLeftRecursive_79 1 rfl ht20 (Nat.le_of_ble_eq_true rfl) rfl ?_
  refine gx_goto (tgt := 10) dX3_findLeftRecursive_82 (by decide) ?_
  refine gx_sub (ls2 := [(0, .ref v0), (1, .int (gI t20))]) [1, 0] rfl ?_
  exact hr10 _ _ _ e
set_option maxRecDepth 100000 in
def b_X3_findLeftRecursive_72 (n : Nat) (r10 : Nat → Int → gi_H → Option (gi_H)) (r25 : Nat → Int → Int → Int → gi_H → Option (gi_H)) (v0 : Nat) (v1 : Int) (v3 : Int) (s0 : Int) (h : gi_H) : Option (gi_H) :=
  gx_nm (v3 + (1 : Int)) fun t32 => r25 v0 v1 s0 t32 h
set_option maxRecDepth 100000 in
theorem zb_X3_findLeftRecursive_72 {al : Bool} {n : Nat} {r10 : Nat → Int → gi_H → Option (gi_H)} {r25 : Nat → Int → Int → Int → gi_H → Option (gi_H)} {h1 : gi_H} (hr10 : ∀ (x0 : Nat) (x1 : Int) (hh : gi_H), r10 x0 x1 hh = some h1 → gx_Z mX3_findLeftRecursive al al 0 0 10 [(0, .ref x0), (1, .int (gI x1))] [] (gi_cv hh) (.inl none) (gi_cv h1)) (hr25 : ∀ (x0 : Nat) (x1 : Int) (x2 : Int) (x3 : Int) (hh : gi_H), r25 x0 x1 x2 x3 hh = some h1 → gx_Z mX3_findLeftRecursive al al 0 0 25 [(0, .ref x0), (1, .int (gI x1)), (2, .int (gI x2)), (3, .int (gI x3))] [] (gi_cv hh) (.inl none) (gi_cv h1)) {v0 : Nat} {v1 : Int} {v3 : Int} {s0 : Int} {h : gi_H} (e : b_X3_findLeftRecursive_72 n r10 r25 v0 v1 v3 s0 h = some h1) : gx_Z mX3_findLeftRecursive al al 0 0 72 [(0, .ref v0), (1, .int (gI v1)), (3, .int (gI v3))] [.int (gI s0)] (gi_cv h) (.inl none) (gi_cv h1) := by
  refine gx_istore_n (ls2 := [(2, .int (gI s0)), (0, .ref v0), (1, .int (gI v1)), (3, .int (gI v3))]) dX3_findLeftRecursive_72 rfl (Nat.le_of_ble_eq_true rfl) rfl ?_
  refine gx_nE e (fun t32 ht32 e => ?_)
  refine gy_iinc (v := t32) (ls2 := [(3, .int (gI t32)), (2, .int (gI s0)), (0, .ref v0), (1, .int (gI v1))]) dX3_findLeftRecursive_73 3 rfl ht32 (Nat.le_of_ble_eq_true rfl) rfl ?_
  refine gx_goto (tgt := 25) dX3_findLeftRecursive_76 (by decide) ?_
  refine gx_sub (ls2 := [(0, .ref v0), (1, .int (gI v1)), (2, .int (gI s0)), (3, .int (gI t32))]) [2, 3, 1, 0] rfl ?_
  exact hr25 _ _ _ _ _ e
set_option maxRecDepth 100000 in
def b_X3_findLeftRecursive_25 (n : Nat) (r10 : Nat → Int → gi_H → Option (gi_H)) (r25 : Nat → Int → Int → Int → gi_H → Option (gi_H)) (v0 : Nat) (v1 : Int) (v2 : Int) (v3 : Int)  (h : gi_H) : Option (gi_H) :=
  Option.bind (gi_gR h v0 2 0) fun t14 => Option.bind (gi_is h t14 3) fun _ => Option.bind (f_X4_length t14 v1 h) fun q16 => Option.bind (gi_rg v3) fun _ => Option.bind (gi_rg q16) fun _ => if q16 ≤ v3 then (b_X3_findLeftRecursive_79 n r10 v0 v1 h) else (Option.bind (gi_rg v2) fun _ => if v2 = 0 then (b_X3_findLeftRecursive_79 n r10 v0 v1 h) else (Option.bind (gi_is h v0 2) fun _ => Option.bind (f_X3_relate v0 v1 v3 h) fun q24 => Option.bind (gi_gR q24 v0 2 0) fun t25 => Option.bind (gi_is q24 t25 3) fun _ => Option.bind (f_X4_symbol t25 v1 v3 q24) fun q27 => Option.bind (gi_is q24 v0 2) fun _ => Option.bind (f_X3_beginOf v0 q27 q24) fun q29 => Option.bind (gi_rg (gi_and q29 (512 : Int))) fun _ => if (gi_and q29 (512 : Int)) = 0 then (b_X3_findLeftRecursive_72 n r10 r25 v0 v1 v3 (0 : Int) q24) else (b_X3_findLeftRecursive_72 n r10 r25 v0 v1 v3 (1 : Int) q24)))
set_option maxRecDepth 100000 in
theorem zb_X3_findLeftRecursive_25 {al : Bool} {n : Nat} {r10 : Nat → Int → gi_H → Option (gi_H)} {r25 : Nat → Int → Int → Int → gi_H → Option (gi_H)} {h1 : gi_H} (hr10 : ∀ (x0 : Nat) (x1 : Int) (hh : gi_H), r10 x0 x1 hh = some h1 → gx_Z mX3_findLeftRecursive al al 0 0 10 [(0, .ref x0), (1, .int (gI x1))] [] (gi_cv hh) (.inl none) (gi_cv h1)) (hr25 : ∀ (x0 : Nat) (x1 : Int) (x2 : Int) (x3 : Int) (hh : gi_H), r25 x0 x1 x2 x3 hh = some h1 → gx_Z mX3_findLeftRecursive al al 0 0 25 [(0, .ref x0), (1, .int (gI x1)), (2, .int (gI x2)), (3, .int (gI x3))] [] (gi_cv hh) (.inl none) (gi_cv h1)) {v0 : Nat} {v1 : Int} {v2 : Int} {v3 : Int}  {h : gi_H} (e : b_X3_findLeftRecursive_25 n r10 r25 v0 v1 v2 v3 h = some h1) : gx_Z mX3_findLeftRecursive al al 0 0 25 [(0, .ref v0), (1, .int (gI v1)), (2, .int (gI v2)), (3, .int (gI v3))] [] (gi_cv h) (.inl none) (gi_cv h1) := by
  refine gx_iload_n dX3_findLeftRecursive_25 rfl 3 rfl ?_
  refine gx_aload_n dX3_findLeftRecursive_26 rfl 0 rfl ?_
  refine gx_bE e (fun t14 ht14 e => ?_)
  refine gy_fR ht14 dX3_findLeftRecursive_27 gf_RX3_37_2_0 (by decide) gkN_2_0 gkR_2_0 ?_
  refine gx_iload_n dX3_findLeftRecursive_30 rfl 1 rfl ?_
  refine gx_bE e (fun _ hu15 e => ?_)
  refine gx_bE e (fun q16 hq16 e => ?_)
  refine gx_callV (n := 1) (st := [.int (gI v3)]) (As := [.int (gI v1)]) (b := t14) dX3_findLeftRecursive_31 (z_X4_length hq16) rfl ⟨rfl, gw_cw_X4_length, gw_3, gp_X4_length, ⟨Nat.le_of_ble_eq_true rfl, Nat.le_of_ble_eq_true rfl⟩⟩ (gi_isS hu15) (by decide) gw_410 gw_411 gw_412 rfl ⟨Nat.le_of_ble_eq_true rfl, Nat.le_of_ble_eq_true rfl⟩ (Nat.le_of_ble_eq_true rfl) (gy_k1 (x := .int (gI q16)) (kc2 := 0) (ks2 := 0) ⟨rfl, rfl⟩ ?_) gy_kn
  refine gx_bE e (fun _ g17 e => ?_)
  refine gx_bE e (fun _ g18 e => ?_)
  refine gx_iE e (fun c19 e => ?_) (fun c19 e => ?_)
  · refine gy_icmp_ge (tgt := 79) (gi_rgS g17) (gi_rgS g18) dX3_findLeftRecursive_34 (by decide) (fun _ => ?_) (fun z => absurd c19 z)
    refine gx_sub (ls2 := [(0, .ref v0), (1, .int (gI v1))]) [0, 1] rfl ?_
    exact zb_X3_findLeftRecursive_79 hr10 e
  · refine gy_icmp_ge (tgt := 79) (gi_rgS g17) (gi_rgS g18) dX3_findLeftRecursive_34 (by decide) (fun z => absurd z c19) (fun _ => ?_)
    refine gx_iload_n dX3_findLeftRecursive_37 rfl 2 rfl ?_
    refine gx_bE e (fun _ g21 e => ?_)
    refine gx_iE e (fun c22 e => ?_) (fun c22 e => ?_)
    · refine gy_if_eq (tgt := 79) (gi_rgS g21) dX3_findLeftRecursive_38 (by decide) (fun _ => ?_) (fun z => absurd c22 z)
      refine gx_sub (ls2 := [(0, .ref v0), (1, .int (gI v1))]) [0, 1] rfl ?_
      exact zb_X3_findLeftRecursive_79 hr10 e
    · refine gy_if_eq (tgt := 79) (gi_rgS g21) dX3_findLeftRecursive_38 (by decide) (fun z => absurd z c22) (fun _ => ?_)
      refine gx_aload_n dX3_findLeftRecursive_41 rfl 0 rfl ?_
      refine gx_iload_n dX3_findLeftRecursive_42 rfl 1 rfl ?_
      refine gx_iload_n dX3_findLeftRecursive_43 rfl 3 rfl ?_
      refine gx_bE e (fun _ hu23 e => ?_)
      refine gx_bE e (fun q24 hq24 e => ?_)
      refine gx_callV (n := 2) (st := []) (As := [.int (gI v1), .int (gI v3)]) (b := v0) dX3_findLeftRecursive_44 (z_X3_relate hq24) rfl ⟨rfl, gw_cw_X3_relate, gw_6, gp_X3_relate, ⟨Nat.le_of_ble_eq_true rfl, Nat.le_of_ble_eq_true rfl⟩⟩ (gi_isS hu23) (by decide) gw_451 gw_453 gs_6 rfl ⟨Nat.le_of_ble_eq_true rfl, Nat.le_of_ble_eq_true rfl⟩ (Nat.le_of_ble_eq_true rfl) (gy_k0 (kc2 := 0) (ks2 := 0) ⟨rfl, rfl⟩ ?_) gy_kn
      refine gx_aload_n dX3_findLeftRecursive_47 rfl 0 rfl ?_
      refine gx_aload_n dX3_findLeftRecursive_48 rfl 0 rfl ?_
      refine gx_bE e (fun t25 ht25 e => ?_)
      refine gy_fR ht25 dX3_findLeftRecursive_49 gf_RX3_37_2_0 (by decide) gkN_2_0 gkR_2_0 ?_
      refine gx_iload_n dX3_findLeftRecursive_52 rfl 1 rfl ?_
      refine gx_iload_n dX3_findLeftRecursive_53 rfl 3 rfl ?_
      refine gx_bE e (fun _ hu26 e => ?_)
      refine gx_bE e (fun q27 hq27 e => ?_)
      refine gx_callV (n := 2) (st := [.ref v0]) (As := [.int (gI v1), .int (gI v3)]) (b := t25) dX3_findLeftRecursive_54 (z_X4_symbol hq27) rfl ⟨rfl, gw_cw_X4_symbol, gw_3, gp_X4_symbol, ⟨Nat.le_of_ble_eq_true rfl, Nat.le_of_ble_eq_true rfl⟩⟩ (gi_isS hu26) (by decide) gw_414 gw_415 gw_416 rfl ⟨Nat.le_of_ble_eq_true rfl, Nat.le_of_ble_eq_true rfl⟩ (Nat.le_of_ble_eq_true rfl) (gy_k1 (x := .int (gI q27)) (kc2 := 0) (ks2 := 0) ⟨rfl, rfl⟩ ?_) gy_kn
      refine gx_bE e (fun _ hu28 e => ?_)
      refine gx_bE e (fun q29 hq29 e => ?_)
      refine gx_callV (n := 1) (st := []) (As := [.int (gI q27)]) (b := v0) dX3_findLeftRecursive_57 (z_X3_beginOf hq29) rfl ⟨rfl, gw_cw_X3_beginOf, gw_6, gp_X3_beginOf, ⟨Nat.le_of_ble_eq_true rfl, Nat.le_of_ble_eq_true rfl⟩⟩ (gi_isS hu28) (by decide) gw_418 gw_420 gs_2 rfl ⟨Nat.le_of_ble_eq_true rfl, Nat.le_of_ble_eq_true rfl⟩ (Nat.le_of_ble_eq_true rfl) (gy_k1 (x := .int (gI q29)) (kc2 := 0) (ks2 := 0) ⟨rfl, rfl⟩ ?_) gy_kn
      refine gy_sipush dX3_findLeftRecursive_60 gcs_512 ?_
      refine gy_iand dX3_findLeftRecursive_63 ?_
      refine gx_bE e (fun _ g30 e => ?_)
      refine gx_iE e (fun c31 e => ?_) (fun c31 e => ?_)
      · refine gy_if_eq (tgt := 71) (gi_rgS g30) dX3_findLeftRecursive_64 (by decide) (fun _ => ?_) (fun z => absurd c31 z)
        refine gy_iconst dX3_findLeftRecursive_71 ?_
        refine gx_sub (ls2 := [(0, .ref v0), (1, .int (gI v1)), (3, .int (gI v3))]) [0, 1, 3] rfl ?_
        exact zb_X3_findLeftRecursive_72 hr10 hr25 e
      · refine gy_if_eq (tgt := 71) (gi_rgS g30) dX3_findLeftRecursive_64 (by decide) (fun z => absurd z c31) (fun _ => ?_)
        refine gy_iconst dX3_findLeftRecursive_67 ?_
        refine gx_goto (tgt := 72) dX3_findLeftRecursive_68 (by decide) ?_
        refine gx_sub (ls2 := [(0, .ref v0), (1, .int (gI v1)), (3, .int (gI v3))]) [0, 1, 3] rfl ?_
        exact zb_X3_findLeftRecursive_72 hr10 hr25 e
def l_X3_findLeftRecursive_25 (n : Nat) (r10 : Nat → Int → gi_H → Option (gi_H)) : Nat → Nat → Int → Int → Int → gi_H → Option (gi_H)
  | 0, _, _, _, _, _ => none
  | k + 1, v0, v1, v2, v3, h => b_X3_findLeftRecursive_25 n r10 (l_X3_findLeftRecursive_25 n r10 k) v0 v1 v2 v3 h
theorem zl_X3_findLeftRecursive_25 {al : Bool} {n : Nat} {r10 : Nat → Int → gi_H → Option (gi_H)} {h1 : gi_H} (hr10 : ∀ (x0 : Nat) (x1 : Int) (hh : gi_H), r10 x0 x1 hh = some h1 → gx_Z mX3_findLeftRecursive al al 0 0 10 [(0, .ref x0), (1, .int (gI x1))] [] (gi_cv hh) (.inl none) (gi_cv h1)) : ∀ (k : Nat) (v0 : Nat) (v1 : Int) (v2 : Int) (v3 : Int) (h : gi_H), l_X3_findLeftRecursive_25 n r10 k v0 v1 v2 v3 h = some h1 → gx_Z mX3_findLeftRecursive al al 0 0 25 [(0, .ref v0), (1, .int (gI v1)), (2, .int (gI v2)), (3, .int (gI v3))] [] (gi_cv h) (.inl none) (gi_cv h1)
  | 0, _, _, _, _, _, e => gx_0E e
  | k + 1, _, _, _, _, _, e => zb_X3_findLeftRecursive_25 (n := n) hr10 (zl_X3_findLeftRecursive_25 hr10 k) e
set_option maxRecDepth 100000 in
def b_X3_findLeftRecursive_10 (n : Nat) (r10 : Nat → Int → gi_H → Option (gi_H)) (v0 : Nat) (v1 : Int)  (h : gi_H) : Option (gi_H) :=
  Option.bind (gi_gR h v0 2 0) fun t3 => Option.bind (gi_is h t3 3) fun _ => Option.bind (f_X4_count t3 h) fun q5 => Option.bind (gi_rg v1) fun _ => Option.bind (gi_rg q5) fun _ => if q5 ≤ v1 then (b_X3_findLeftRecursive_85 n  v0 h) else (l_X3_findLeftRecursive_25 n r10 n v0 v1 (1 : Int) (0 : Int) h)
set_option maxRecDepth 100000 in
theorem zb_X3_findLeftRecursive_10 {al : Bool} {n : Nat} {r10 : Nat → Int → gi_H → Option (gi_H)} {h1 : gi_H} (hr10 : ∀ (x0 : Nat) (x1 : Int) (hh : gi_H), r10 x0 x1 hh = some h1 → gx_Z mX3_findLeftRecursive al al 0 0 10 [(0, .ref x0), (1, .int (gI x1))] [] (gi_cv hh) (.inl none) (gi_cv h1)) {v0 : Nat} {v1 : Int}  {h : gi_H} (e : b_X3_findLeftRecursive_10 n r10 v0 v1 h = some h1) : gx_Z mX3_findLeftRecursive al al 0 0 10 [(0, .ref v0), (1, .int (gI v1))] [] (gi_cv h) (.inl none) (gi_cv h1) := by
  refine gx_iload_n dX3_findLeftRecursive_10 rfl 1 rfl ?_
  refine gx_aload_n dX3_findLeftRecursive_11 rfl 0 rfl ?_
  refine gx_bE e (fun t3 ht3 e => ?_)
  refine gy_fR ht3 dX3_findLeftRecursive_12 gf_RX3_37_2_0 (by decide) gkN_2_0 gkR_2_0 ?_
  refine gx_bE e (fun _ hu4 e => ?_)
  refine gx_bE e (fun q5 hq5 e => ?_)
  refine gx_callV (n := 0) (st := [.int (gI v1)]) (As := []) (b := t3) dX3_findLeftRecursive_15 (z_X4_count hq5) rfl ⟨rfl, gw_cw_X4_count, gw_3, gp_X4_count, ⟨Nat.le_of_ble_eq_true rfl, Nat.le_of_ble_eq_true rfl⟩⟩ (gi_isS hu4) (by decide) gw_401 gw_384 gw_385 rfl ⟨Nat.le_of_ble_eq_true rfl, Nat.le_of_ble_eq_true rfl⟩ (Nat.le_of_ble_eq_true rfl) (gy_k1 (x := .int (gI q5)) (kc2 := 0) (ks2 := 0) ⟨rfl, rfl⟩ ?_) gy_kn
  refine gx_bE e (fun _ g6 e => ?_)
  refine gx_bE e (fun _ g7 e => ?_)
  refine gx_iE e (fun c8 e => ?_) (fun c8 e => ?_)
  · refine gy_icmp_ge (tgt := 85) (gi_rgS g6) (gi_rgS g7) dX3_findLeftRecursive_18 (by decide) (fun _ => ?_) (fun z => absurd c8 z)
    refine gx_sub (ls2 := [(0, .ref v0)]) [0] rfl ?_
    exact zb_X3_findLeftRecursive_85  e
  · refine gy_icmp_ge (tgt := 85) (gi_rgS g6) (gi_rgS g7) dX3_findLeftRecursive_18 (by decide) (fun z => absurd z c8) (fun _ => ?_)
    refine gy_iconst dX3_findLeftRecursive_21 ?_
    refine gx_istore_n (ls2 := [(2, .int (gI (1 : Int))), (0, .ref v0), (1, .int (gI v1))]) dX3_findLeftRecursive_22 rfl (Nat.le_of_ble_eq_true rfl) rfl ?_
    refine gy_iconst dX3_findLeftRecursive_23 ?_
    refine gx_istore_n (ls2 := [(3, .int (gI (0 : Int))), (2, .int (gI (1 : Int))), (0, .ref v0), (1, .int (gI v1))]) dX3_findLeftRecursive_24 rfl (Nat.le_of_ble_eq_true rfl) rfl ?_
    refine gx_sub (ls2 := [(0, .ref v0), (1, .int (gI v1)), (2, .int (gI (1 : Int))), (3, .int (gI (0 : Int)))]) [2, 3, 1, 0] rfl ?_
    exact zl_X3_findLeftRecursive_25 hr10 n _ _ _ _ _ e
def l_X3_findLeftRecursive_10 (n : Nat)  : Nat → Nat → Int → gi_H → Option (gi_H)
  | 0, _, _, _ => none
  | k + 1, v0, v1, h => b_X3_findLeftRecursive_10 n  (l_X3_findLeftRecursive_10 n  k) v0 v1 h
theorem zl_X3_findLeftRecursive_10 {al : Bool} {n : Nat}  {h1 : gi_H}  : ∀ (k : Nat) (v0 : Nat) (v1 : Int) (h : gi_H), l_X3_findLeftRecursive_10 n  k v0 v1 h = some h1 → gx_Z mX3_findLeftRecursive al al 0 0 10 [(0, .ref v0), (1, .int (gI v1))] [] (gi_cv h) (.inl none) (gi_cv h1)
  | 0, _, _, _, e => gx_0E e
  | k + 1, _, _, _, e => zb_X3_findLeftRecursive_10 (n := n)  (zl_X3_findLeftRecursive_10  k) e
set_option maxRecDepth 100000 in
def f_X3_findLeftRecursive (n : Nat) (v0 : Nat) (h : gi_H) : Option (gi_H) :=
  Option.bind (gi_gR h v0 2 11) fun t1 => Option.bind (f_J7_fill_53178 n t1 (0 : Int) h) fun q2 => l_X3_findLeftRecursive_10 n  n v0 (0 : Int) q2
set_option maxRecDepth 100000 in
theorem z_X3_findLeftRecursive {al : Bool} {n : Nat} {v0 : Nat} {h : gi_H} {h1 : gi_H} (e : f_X3_findLeftRecursive n v0 h = some h1) : gx_Cw mX3_findLeftRecursive al [.ref v0] (gi_cv h) (.inl none) (gi_cv h1) := by
  refine gx_enter (by decide +kernel) rfl (Nat.le_of_ble_eq_true rfl) ?_
  show gx_Z mX3_findLeftRecursive al al 0 0 0 [(0, .ref v0)] [] (gi_cv h) (.inl none) (gi_cv h1)
  refine gx_aload_n dX3_findLeftRecursive_0 rfl 0 rfl ?_
  refine gx_bE e (fun t1 ht1 e => ?_)
  refine gy_fR ht1 dX3_findLeftRecursive_1 gf_RX3_28_2_11 (by decide) gkN_2_11 gkR_2_11 ?_
  refine gy_iconst dX3_findLeftRecursive_4 ?_
  refine gx_bE e (fun q2 hq2 e => ?_)
  refine gx_callS (n := 2) (st := []) (As := [.ref t1, .int (gI (0 : Int))]) dX3_findLeftRecursive_5 (z_J7_fill_53178 hq2) rfl ⟨rfl, gw_cw_J7_fill_53178, gw_5, gp_J7_fill_53178, ⟨Nat.le_of_ble_eq_true rfl, Nat.le_of_ble_eq_true rfl⟩⟩ gw_399 gw_98 ⟨Nat.le_of_ble_eq_true rfl, Nat.le_of_ble_eq_true rfl⟩ (Nat.le_of_ble_eq_true rfl) (gy_k0 (kc2 := 0) (ks2 := 0) ⟨rfl, rfl⟩ ?_) gy_kn
  refine gy_iconst dX3_findLeftRecursive_8 ?_
  refine gx_istore_n (ls2 := [(1, .int (gI (0 : Int))), (0, .ref v0)]) dX3_findLeftRecursive_9 rfl (Nat.le_of_ble_eq_true rfl) rfl ?_
  refine gx_sub (ls2 := [(0, .ref v0), (1, .int (gI (0 : Int)))]) [1, 0] rfl ?_
  exact zl_X3_findLeftRecursive_10  n _ _ _ e
/-! X3_findCircular  -/
set_option maxRecDepth 100000 in
def b_X3_findCircular_100 (n : Nat)  (v0 : Nat)  (h : gi_H) : Option (gi_H) :=
  Option.bind (gi_is h v0 2) fun _ => Option.bind (f_X3_closeRelation n v0 h) fun q10 => Option.bind (gi_is q10 v0 2) fun _ => Option.bind (f_X3_relatedToThemselves n v0 q10) fun q12 => Option.bind (gi_pI q10 v0 2 4 q12) fun h13 => some h13
set_option maxRecDepth 100000 in
theorem zb_X3_findCircular_100 {al : Bool} {n : Nat}  {h1 : gi_H}  {v0 : Nat}  {h : gi_H} (e : b_X3_findCircular_100 n v0 h = some h1) : gx_Z mX3_findCircular al al 0 0 100 [(0, .ref v0)] [] (gi_cv h) (.inl none) (gi_cv h1) := by
  refine gx_aload_n dX3_findCircular_100 rfl 0 rfl ?_
  refine gx_bE e (fun _ hu9 e => ?_)
  refine gx_bE e (fun q10 hq10 e => ?_)
  refine gx_callV (n := 0) (st := []) (As := []) (b := v0) dX3_findCircular_101 (z_X3_closeRelation hq10) rfl ⟨rfl, gw_cw_X3_closeRelation, gw_6, gp_X3_closeRelation, ⟨Nat.le_of_ble_eq_true rfl, Nat.le_of_ble_eq_true rfl⟩⟩ (gi_isS hu9) (by decide) gw_455 gw_457 gs_7 rfl ⟨Nat.le_of_ble_eq_true rfl, Nat.le_of_ble_eq_true rfl⟩ (Nat.le_of_ble_eq_true rfl) (gy_k0 (kc2 := 0) (ks2 := 0) ⟨rfl, rfl⟩ ?_) gy_kn
  refine gx_aload_n dX3_findCircular_104 rfl 0 rfl ?_
  refine gx_aload_n dX3_findCircular_105 rfl 0 rfl ?_
  refine gx_bE e (fun _ hu11 e => ?_)
  refine gx_bE e (fun q12 hq12 e => ?_)
  refine gx_callV (n := 0) (st := [.ref v0]) (As := []) (b := v0) dX3_findCircular_106 (z_X3_relatedToThemselves hq12) rfl ⟨rfl, gw_cw_X3_relatedToThemselves, gw_6, gp_X3_relatedToThemselves, ⟨Nat.le_of_ble_eq_true rfl, Nat.le_of_ble_eq_true rfl⟩⟩ (gi_isS hu11) (by decide) gw_466 gw_468 gs_9 rfl ⟨Nat.le_of_ble_eq_true rfl, Nat.le_of_ble_eq_true rfl⟩ (Nat.le_of_ble_eq_true rfl) (gy_k1 (x := .int (gI q12)) (kc2 := 0) (ks2 := 0) ⟨rfl, rfl⟩ ?_) gy_kn
  refine gx_bE e (fun h13 hh13 e => ?_)
  refine gy_qI hh13 dX3_findCircular_109 gf_RX3_90_2_4 (by decide) gkN_2_4 rfl (Or.inl rfl) ?_
  cases e
  exact gx_vret dX3_findCircular_112 rfl ⟨Nat.le_of_ble_eq_true rfl, Nat.le_of_ble_eq_true rfl⟩ (fun z => z)
set_option maxRecDepth 100000 in
def b_X3_findCircular_94 (n : Nat) (r10 : Nat → Int → gi_H → Option (gi_H)) (v0 : Nat) (v1 : Int)  (h : gi_H) : Option (gi_H) :=
  gx_nm (v1 + (1 : Int)) fun t20 => r10 v0 t20 h
set_option maxRecDepth 100000 in
theorem zb_X3_findCircular_94 {al : Bool} {n : Nat} {r10 : Nat → Int → gi_H → Option (gi_H)} {h1 : gi_H} (hr10 : ∀ (x0 : Nat) (x1 : Int) (hh : gi_H), r10 x0 x1 hh = some h1 → gx_Z mX3_findCircular al al 0 0 10 [(0, .ref x0), (1, .int (gI x1))] [] (gi_cv hh) (.inl none) (gi_cv h1)) {v0 : Nat} {v1 : Int}  {h : gi_H} (e : b_X3_findCircular_94 n r10 v0 v1 h = some h1) : gx_Z mX3_findCircular al al 0 0 94 [(0, .ref v0), (1, .int (gI v1))] [] (gi_cv h) (.inl none) (gi_cv h1) := by
  refine gx_nE e (fun t20 ht20 e => ?_)
  refine gy_iinc (v := t20) (ls2 := [(1, .int (gI t20)), (0, .ref v0)]) dX3_findCircular_94 1 rfl ht20 (Nat.le_of_ble_eq_true rfl) rfl ?_
  refine gx_goto (tgt := 10) dX3_findCircular_97 (by decide) ?_
  refine gx_sub (ls2 := [(0, .ref v0), (1, .int (gI t20))]) [1, 0] rfl ?_
  exact hr10 _ _ _ e
set_option maxRecDepth 100000 in
def b_X3_findCircular_87 (n : Nat) (r10 : Nat → Int → gi_H → Option (gi_H)) (r25 : Nat → Int → Int → Int → gi_H → Option (gi_H)) (v0 : Nat) (v1 : Int) (v3 : Int) (s0 : Int) (h : gi_H) : Option (gi_H) :=
  gx_nm (v3 + (1 : Int)) fun t34 => r25 v0 v1 s0 t34 h
set_option maxRecDepth 100000 in
theorem zb_X3_findCircular_87 {al : Bool} {n : Nat} {r10 : Nat → Int → gi_H → Option (gi_H)} {r25 : Nat → Int → Int → Int → gi_H → Option (gi_H)} {h1 : gi_H} (hr10 : ∀ (x0 : Nat) (x1 : Int) (hh : gi_H), r10 x0 x1 hh = some h1 → gx_Z mX3_findCircular al al 0 0 10 [(0, .ref x0), (1, .int (gI x1))] [] (gi_cv hh) (.inl none) (gi_cv h1)) (hr25 : ∀ (x0 : Nat) (x1 : Int) (x2 : Int) (x3 : Int) (hh : gi_H), r25 x0 x1 x2 x3 hh = some h1 → gx_Z mX3_findCircular al al 0 0 25 [(0, .ref x0), (1, .int (gI x1)), (2, .int (gI x2)), (3, .int (gI x3))] [] (gi_cv hh) (.inl none) (gi_cv h1)) {v0 : Nat} {v1 : Int} {v3 : Int} {s0 : Int} {h : gi_H} (e : b_X3_findCircular_87 n r10 r25 v0 v1 v3 s0 h = some h1) : gx_Z mX3_findCircular al al 0 0 87 [(0, .ref v0), (1, .int (gI v1)), (3, .int (gI v3))] [.int (gI s0)] (gi_cv h) (.inl none) (gi_cv h1) := by
  refine gx_istore_n (ls2 := [(2, .int (gI s0)), (0, .ref v0), (1, .int (gI v1)), (3, .int (gI v3))]) dX3_findCircular_87 rfl (Nat.le_of_ble_eq_true rfl) rfl ?_
  refine gx_nE e (fun t34 ht34 e => ?_)
  refine gy_iinc (v := t34) (ls2 := [(3, .int (gI t34)), (2, .int (gI s0)), (0, .ref v0), (1, .int (gI v1))]) dX3_findCircular_88 3 rfl ht34 (Nat.le_of_ble_eq_true rfl) rfl ?_
  refine gx_goto (tgt := 25) dX3_findCircular_91 (by decide) ?_
  refine gx_sub (ls2 := [(0, .ref v0), (1, .int (gI v1)), (2, .int (gI s0)), (3, .int (gI t34))]) [2, 3, 1, 0] rfl ?_
  exact hr25 _ _ _ _ _ e
set_option maxRecDepth 100000 in
def b_X3_findCircular_62 (n : Nat) (r10 : Nat → Int → gi_H → Option (gi_H)) (r25 : Nat → Int → Int → Int → gi_H → Option (gi_H)) (v0 : Nat) (v1 : Int) (v3 : Int)  (h : gi_H) : Option (gi_H) :=
  Option.bind (gi_gR h v0 2 0) fun t27 => Option.bind (gi_is h t27 3) fun _ => Option.bind (f_X4_symbol t27 v1 v3 h) fun q29 => Option.bind (gi_is h v0 2) fun _ => Option.bind (f_X3_beginOf v0 q29 h) fun q31 => Option.bind (gi_rg (gi_and q31 (512 : Int))) fun _ => if (gi_and q31 (512 : Int)) = 0 then (b_X3_findCircular_87 n r10 r25 v0 v1 v3 (0 : Int) h) else (b_X3_findCircular_87 n r10 r25 v0 v1 v3 (1 : Int) h)
set_option maxRecDepth 100000 in
theorem zb_X3_findCircular_62 {al : Bool} {n : Nat} {r10 : Nat → Int → gi_H → Option (gi_H)} {r25 : Nat → Int → Int → Int → gi_H → Option (gi_H)} {h1 : gi_H} (hr10 : ∀ (x0 : Nat) (x1 : Int) (hh : gi_H), r10 x0 x1 hh = some h1 → gx_Z mX3_findCircular al al 0 0 10 [(0, .ref x0), (1, .int (gI x1))] [] (gi_cv hh) (.inl none) (gi_cv h1)) (hr25 : ∀ (x0 : Nat) (x1 : Int) (x2 : Int) (x3 : Int) (hh : gi_H), r25 x0 x1 x2 x3 hh = some h1 → gx_Z mX3_findCircular al al 0 0 25 [(0, .ref x0), (1, .int (gI x1)), (2, .int (gI x2)), (3, .int (gI x3))] [] (gi_cv hh) (.inl none) (gi_cv h1)) {v0 : Nat} {v1 : Int} {v3 : Int}  {h : gi_H} (e : b_X3_findCircular_62 n r10 r25 v0 v1 v3 h = some h1) : gx_Z mX3_findCircular al al 0 0 62 [(0, .ref v0), (1, .int (gI v1)), (3, .int (gI v3))] [] (gi_cv h) (.inl none) (gi_cv h1) := by
  refine gx_aload_n dX3_findCircular_62 rfl 0 rfl ?_
  refine gx_aload_n dX3_findCircular_63 rfl 0 rfl ?_
  refine gx_bE e (fun t27 ht27 e => ?_)
  refine gy_fR ht27 dX3_findCircular_64 gf_RX3_37_2_0 (by decide) gkN_2_0 gkR_2_0 ?_
  refine gx_iload_n dX3_findCircular_67 rfl 1 rfl ?_
  refine gx_iload_n dX3_findCircular_68 rfl 2 rfl ?_
  refine gx_bE e (fun _ hu28 e => ?_)
  refine gx_bE e (fun q29 hq29 e => ?_)
  refine gx_callV (n := 2) (st := [.ref v0]) (As := [.int (gI v1), .int (gI v3)]) (b := t27) dX3_findCircular_69 (z_X4_symbol hq29) rfl ⟨rfl, gw_cw_X4_symbol, gw_3, gp_X4_symbol, ⟨Nat.le_of_ble_eq_true rfl, Nat.le_of_ble_eq_true rfl⟩⟩ (gi_isS hu28) (by decide) gw_414 gw_415 gw_416 rfl ⟨Nat.le_of_ble_eq_true rfl, Nat.le_of_ble_eq_true rfl⟩ (Nat.le_of_ble_eq_true rfl) (gy_k1 (x := .int (gI q29)) (kc2 := 0) (ks2 := 0) ⟨rfl, rfl⟩ ?_) gy_kn
  refine gx_bE e (fun _ hu30 e => ?_)
  refine gx_bE e (fun q31 hq31 e => ?_)
  refine gx_callV (n := 1) (st := []) (As := [.int (gI q29)]) (b := v0) dX3_findCircular_72 (z_X3_beginOf hq31) rfl ⟨rfl, gw_cw_X3_beginOf, gw_6, gp_X3_beginOf, ⟨Nat.le_of_ble_eq_true rfl, Nat.le_of_ble_eq_true rfl⟩⟩ (gi_isS hu30) (by decide) gw_418 gw_420 gs_2 rfl ⟨Nat.le_of_ble_eq_true rfl, Nat.le_of_ble_eq_true rfl⟩ (Nat.le_of_ble_eq_true rfl) (gy_k1 (x := .int (gI q31)) (kc2 := 0) (ks2 := 0) ⟨rfl, rfl⟩ ?_) gy_kn
  refine gy_sipush dX3_findCircular_75 gcs_512 ?_
  refine gy_iand dX3_findCircular_78 ?_
  refine gx_bE e (fun _ g32 e => ?_)
  refine gx_iE e (fun c33 e => ?_) (fun c33 e => ?_)
  · refine gy_if_eq (tgt := 86) (gi_rgS g32) dX3_findCircular_79 (by decide) (fun _ => ?_) (fun z => absurd c33 z)
    refine gy_iconst dX3_findCircular_86 ?_
    exact zb_X3_findCircular_87 hr10 hr25 e
  · refine gy_if_eq (tgt := 86) (gi_rgS g32) dX3_findCircular_79 (by decide) (fun z => absurd z c33) (fun _ => ?_)
    refine gy_iconst dX3_findCircular_82 ?_
    refine gx_goto (tgt := 87) dX3_findCircular_83 (by decide) ?_
    exact zb_X3_findCircular_87 hr10 hr25 e
set_option maxRecDepth 100000 in
def b_X3_findCircular_25 (n : Nat) (r10 : Nat → Int → gi_H → Option (gi_H)) (r25 : Nat → Int → Int → Int → gi_H → Option (gi_H)) (v0 : Nat) (v1 : Int) (v2 : Int) (v3 : Int)  (h : gi_H) : Option (gi_H) :=
  Option.bind (gi_gR h v0 2 0) fun t14 => Option.bind (gi_is h t14 3) fun _ => Option.bind (f_X4_length t14 v1 h) fun q16 => Option.bind (gi_rg v3) fun _ => Option.bind (gi_rg q16) fun _ => if q16 ≤ v3 then (b_X3_findCircular_94 n r10 v0 v1 h) else (Option.bind (gi_rg v2) fun _ => if v2 = 0 then (b_X3_findCircular_94 n r10 v0 v1 h) else (Option.bind (gi_is h v0 2) fun _ => Option.bind (f_X3_beginnings n v0 v1 (v3 + (1 : Int)) h) fun q24 => Option.bind (gi_rg (gi_and q24 (512 : Int))) fun _ => if (gi_and q24 (512 : Int)) = 0 then (b_X3_findCircular_62 n r10 r25 v0 v1 v3 h) else (Option.bind (gi_is h v0 2) fun _ => Option.bind (f_X3_relate v0 v1 v3 h) fun q36 => b_X3_findCircular_62 n r10 r25 v0 v1 v3 q36)))
set_option maxRecDepth 100000 in
theorem zb_X3_findCircular_25 {al : Bool} {n : Nat} {r10 : Nat → Int → gi_H → Option (gi_H)} {r25 : Nat → Int → Int → Int → gi_H → Option (gi_H)} {h1 : gi_H} (hr10 : ∀ (x0 : Nat) (x1 : Int) (hh : gi_H), r10 x0 x1 hh = some h1 → gx_Z mX3_findCircular al al 0 0 10 [(0, .ref x0), (1, .int (gI x1))] [] (gi_cv hh) (.inl none) (gi_cv h1)) (hr25 : ∀ (x0 : Nat) (x1 : Int) (x2 : Int) (x3 : Int) (hh : gi_H), r25 x0 x1 x2 x3 hh = some h1 → gx_Z mX3_findCircular al al 0 0 25 [(0, .ref x0), (1, .int (gI x1)), (2, .int (gI x2)), (3, .int (gI x3))] [] (gi_cv hh) (.inl none) (gi_cv h1)) {v0 : Nat} {v1 : Int} {v2 : Int} {v3 : Int}  {h : gi_H} (e : b_X3_findCircular_25 n r10 r25 v0 v1 v2 v3 h = some h1) : gx_Z mX3_findCircular al al 0 0 25 [(0, .ref v0), (1, .int (gI v1)), (2, .int (gI v2)), (3, .int (gI v3))] [] (gi_cv h) (.inl none) (gi_cv h1) := by
  refine gx_iload_n dX3_findCircular_25 rfl 3 rfl ?_
  refine gx_aload_n dX3_findCircular_26 rfl 0 rfl ?_
  refine gx_bE e (fun t14 ht14 e => ?_)
  refine gy_fR ht14 dX3_findCircular_27 gf_RX3_37_2_0 (by decide) gkN_2_0 gkR_2_0 ?_
  refine gx_iload_n dX3_findCircular_30 rfl 1 rfl ?_
  refine gx_bE e (fun _ hu15 e => ?_)
  refine gx_bE e (fun q16 hq16 e => ?_)
  refine gx_callV (n := 1) (st := [.int (gI v3)]) (As := [.int (gI v1)]) (b := t14) dX3_findCircular_31 (z_X4_length hq16) rfl ⟨rfl, gw_cw_X4_length, gw_3, gp_X4_length, ⟨Nat.le_of_ble_eq_true rfl, Nat.le_of_ble_eq_true rfl⟩⟩ (gi_isS hu15) (by decide) gw_410 gw_411 gw_412 rfl ⟨Nat.le_of_ble_eq_true rfl, Nat.le_of_ble_eq_true rfl⟩ (Nat.le_of_ble_eq_true rfl) (gy_k1 (x := .int (gI q16)) (kc2 := 0) (ks2 := 0) ⟨rfl, rfl⟩ ?_) gy_kn
  refine gx_bE e (fun _ g17 e => ?_)
  refine gx_bE e (fun _ g18 e => ?_)
  refine gx_iE e (fun c19 e => ?_) (fun c19 e => ?_)
  · refine gy_icmp_ge (tgt := 94) (gi_rgS g17) (gi_rgS g18) dX3_findCircular_34 (by decide) (fun _ => ?_) (fun z => absurd c19 z)
    refine gx_sub (ls2 := [(0, .ref v0), (1, .int (gI v1))]) [0, 1] rfl ?_
    exact zb_X3_findCircular_94 hr10 e
  · refine gy_icmp_ge (tgt := 94) (gi_rgS g17) (gi_rgS g18) dX3_findCircular_34 (by decide) (fun z => absurd z c19) (fun _ => ?_)
    refine gx_iload_n dX3_findCircular_37 rfl 2 rfl ?_
    refine gx_bE e (fun _ g21 e => ?_)
    refine gx_iE e (fun c22 e => ?_) (fun c22 e => ?_)
    · refine gy_if_eq (tgt := 94) (gi_rgS g21) dX3_findCircular_38 (by decide) (fun _ => ?_) (fun z => absurd c22 z)
      refine gx_sub (ls2 := [(0, .ref v0), (1, .int (gI v1))]) [0, 1] rfl ?_
      exact zb_X3_findCircular_94 hr10 e
    · refine gy_if_eq (tgt := 94) (gi_rgS g21) dX3_findCircular_38 (by decide) (fun z => absurd z c22) (fun _ => ?_)
      refine gx_aload_n dX3_findCircular_41 rfl 0 rfl ?_
      refine gx_iload_n dX3_findCircular_42 rfl 1 rfl ?_
      refine gx_iload_n dX3_findCircular_43 rfl 3 rfl ?_
      refine gy_iconst dX3_findCircular_44 ?_
      refine gy_iadd dX3_findCircular_45 ?_
      refine gx_bE e (fun _ hu23 e => ?_)
      refine gx_bE e (fun q24 hq24 e => ?_)
      refine gx_callV (n := 2) (st := []) (As := [.int (gI v1), .int (gI (v3 + (1 : Int)))]) (b := v0) dX3_findCircular_46 (z_X3_beginnings hq24) rfl ⟨rfl, gw_cw_X3_beginnings, gw_6, gp_X3_beginnings, ⟨Nat.le_of_ble_eq_true rfl, Nat.le_of_ble_eq_true rfl⟩⟩ (gi_isS hu23) (by decide) gw_406 gw_408 gs_1 rfl ⟨Nat.le_of_ble_eq_true rfl, Nat.le_of_ble_eq_true rfl⟩ (Nat.le_of_ble_eq_true rfl) (gy_k1 (x := .int (gI q24)) (kc2 := 0) (ks2 := 0) ⟨rfl, rfl⟩ ?_) gy_kn
      refine gy_sipush dX3_findCircular_49 gcs_512 ?_
      refine gy_iand dX3_findCircular_52 ?_
      refine gx_bE e (fun _ g25 e => ?_)
      refine gx_iE e (fun c26 e => ?_) (fun c26 e => ?_)
      · refine gy_if_eq (tgt := 62) (gi_rgS g25) dX3_findCircular_53 (by decide) (fun _ => ?_) (fun z => absurd c26 z)
        refine gx_sub (ls2 := [(0, .ref v0), (1, .int (gI v1)), (3, .int (gI v3))]) [0, 1, 3] rfl ?_
        exact zb_X3_findCircular_62 hr10 hr25 e
      · refine gy_if_eq (tgt := 62) (gi_rgS g25) dX3_findCircular_53 (by decide) (fun z => absurd z c26) (fun _ => ?_)
        refine gx_aload_n dX3_findCircular_56 rfl 0 rfl ?_
        refine gx_iload_n dX3_findCircular_57 rfl 1 rfl ?_
        refine gx_iload_n dX3_findCircular_58 rfl 3 rfl ?_
        refine gx_bE e (fun _ hu35 e => ?_)
        refine gx_bE e (fun q36 hq36 e => ?_)
        refine gx_callV (n := 2) (st := []) (As := [.int (gI v1), .int (gI v3)]) (b := v0) dX3_findCircular_59 (z_X3_relate hq36) rfl ⟨rfl, gw_cw_X3_relate, gw_6, gp_X3_relate, ⟨Nat.le_of_ble_eq_true rfl, Nat.le_of_ble_eq_true rfl⟩⟩ (gi_isS hu35) (by decide) gw_451 gw_453 gs_6 rfl ⟨Nat.le_of_ble_eq_true rfl, Nat.le_of_ble_eq_true rfl⟩ (Nat.le_of_ble_eq_true rfl) (gy_k0 (kc2 := 0) (ks2 := 0) ⟨rfl, rfl⟩ ?_) gy_kn
        refine gx_sub (ls2 := [(0, .ref v0), (1, .int (gI v1)), (3, .int (gI v3))]) [0, 1, 3] rfl ?_
        exact zb_X3_findCircular_62 hr10 hr25 e
def l_X3_findCircular_25 (n : Nat) (r10 : Nat → Int → gi_H → Option (gi_H)) : Nat → Nat → Int → Int → Int → gi_H → Option (gi_H)
  | 0, _, _, _, _, _ => none
  | k + 1, v0, v1, v2, v3, h => b_X3_findCircular_25 n r10 (l_X3_findCircular_25 n r10 k) v0 v1 v2 v3 h
theorem zl_X3_findCircular_25 {al : Bool} {n : Nat} {r10 : Nat → Int → gi_H → Option (gi_H)} {h1 : gi_H} (hr10 : ∀ (x0 : Nat) (x1 : Int) (hh : gi_H), r10 x0 x1 hh = some h1 → gx_Z mX3_findCircular al al 0 0 10 [(0, .ref x0), (1, .int (gI x1))] [] (gi_cv hh) (.inl none) (gi_cv h1)) : ∀ (k : Nat) (v0 : Nat) (v1 : Int) (v2 : Int) (v3 : Int) (h : gi_H), l_X3_findCircular_25 n r10 k v0 v1 v2 v3 h = some h1 → gx_Z mX3_findCircular al al 0 0 25 [(0, .ref v0), (1, .int (gI v1)), (2, .int (gI v2)), (3, .int (gI v3))] [] (gi_cv h) (.inl none) (gi_cv h1)
  | 0, _, _, _, _, _, e => gx_0E e
  | k + 1, _, _, _, _, _, e => zb_X3_findCircular_25 (n := n) hr10 (zl_X3_findCircular_25 hr10 k) e
set_option maxRecDepth 100000 in
def b_X3_findCircular_10 (n : Nat) (r10 : Nat → Int → gi_H → Option (gi_H)) (v0 : Nat) (v1 : Int)  (h : gi_H) : Option (gi_H) :=
  Option.bind (gi_gR h v0 2 0) fun t3 => Option.bind (gi_is h t3 3) fun _ => Option.bind (f_X4_count t3 h) fun q5 => Option.bind (gi_rg v1) fun _ => Option.bind (gi_rg q5) fun _ => if q5 ≤ v1 then (b_X3_findCircular_100 n  v0 h) else (l_X3_findCircular_25 n r10 n v0 v1 (1 : Int) (0 : Int) h)
set_option maxRecDepth 100000 in
theorem zb_X3_findCircular_10 {al : Bool} {n : Nat} {r10 : Nat → Int → gi_H → Option (gi_H)} {h1 : gi_H} (hr10 : ∀ (x0 : Nat) (x1 : Int) (hh : gi_H), r10 x0 x1 hh = some h1 → gx_Z mX3_findCircular al al 0 0 10 [(0, .ref x0), (1, .int (gI x1))] [] (gi_cv hh) (.inl none) (gi_cv h1)) {v0 : Nat} {v1 : Int}  {h : gi_H} (e : b_X3_findCircular_10 n r10 v0 v1 h = some h1) : gx_Z mX3_findCircular al al 0 0 10 [(0, .ref v0), (1, .int (gI v1))] [] (gi_cv h) (.inl none) (gi_cv h1) := by
  refine gx_iload_n dX3_findCircular_10 rfl 1 rfl ?_
  refine gx_aload_n dX3_findCircular_11 rfl 0 rfl ?_
  refine gx_bE e (fun t3 ht3 e => ?_)
  refine gy_fR ht3 dX3_findCircular_12 gf_RX3_37_2_0 (by decide) gkN_2_0 gkR_2_0 ?_
  refine gx_bE e (fun _ hu4 e => ?_)
  refine gx_bE e (fun q5 hq5 e => ?_)
  refine gx_callV (n := 0) (st := [.int (gI v1)]) (As := []) (b := t3) dX3_findCircular_15 (z_X4_count hq5) rfl ⟨rfl, gw_cw_X4_count, gw_3, gp_X4_count, ⟨Nat.le_of_ble_eq_true rfl, Nat.le_of_ble_eq_true rfl⟩⟩ (gi_isS hu4) (by decide) gw_401 gw_384 gw_385 rfl ⟨Nat.le_of_ble_eq_true rfl, Nat.le_of_ble_eq_true rfl⟩ (Nat.le_of_ble_eq_true rfl) (gy_k1 (x := .int (gI q5)) (kc2 := 0) (ks2 := 0) ⟨rfl, rfl⟩ ?_) gy_kn
  refine gx_bE e (fun _ g6 e => ?_)
  refine gx_bE e (fun _ g7 e => ?_)
  refine gx_iE e (fun c8 e => ?_) (fun c8 e => ?_)
  · refine gy_icmp_ge (tgt := 100) (gi_rgS g6) (gi_rgS g7) dX3_findCircular_18 (by decide) (fun _ => ?_) (fun z => absurd c8 z)
    refine gx_sub (ls2 := [(0, .ref v0)]) [0] rfl ?_
    exact zb_X3_findCircular_100  e
  · refine gy_icmp_ge (tgt := 100) (gi_rgS g6) (gi_rgS g7) dX3_findCircular_18 (by decide) (fun z => absurd z c8) (fun _ => ?_)
    refine gy_iconst dX3_findCircular_21 ?_
    refine gx_istore_n (ls2 := [(2, .int (gI (1 : Int))), (0, .ref v0), (1, .int (gI v1))]) dX3_findCircular_22 rfl (Nat.le_of_ble_eq_true rfl) rfl ?_
    refine gy_iconst dX3_findCircular_23 ?_
    refine gx_istore_n (ls2 := [(3, .int (gI (0 : Int))), (2, .int (gI (1 : Int))), (0, .ref v0), (1, .int (gI v1))]) dX3_findCircular_24 rfl (Nat.le_of_ble_eq_true rfl) rfl ?_
    refine gx_sub (ls2 := [(0, .ref v0), (1, .int (gI v1)), (2, .int (gI (1 : Int))), (3, .int (gI (0 : Int)))]) [2, 3, 1, 0] rfl ?_
    exact zl_X3_findCircular_25 hr10 n _ _ _ _ _ e
def l_X3_findCircular_10 (n : Nat)  : Nat → Nat → Int → gi_H → Option (gi_H)
  | 0, _, _, _ => none
  | k + 1, v0, v1, h => b_X3_findCircular_10 n  (l_X3_findCircular_10 n  k) v0 v1 h
theorem zl_X3_findCircular_10 {al : Bool} {n : Nat}  {h1 : gi_H}  : ∀ (k : Nat) (v0 : Nat) (v1 : Int) (h : gi_H), l_X3_findCircular_10 n  k v0 v1 h = some h1 → gx_Z mX3_findCircular al al 0 0 10 [(0, .ref v0), (1, .int (gI v1))] [] (gi_cv h) (.inl none) (gi_cv h1)
  | 0, _, _, _, e => gx_0E e
  | k + 1, _, _, _, e => zb_X3_findCircular_10 (n := n)  (zl_X3_findCircular_10  k) e
set_option maxRecDepth 100000 in
def f_X3_findCircular (n : Nat) (v0 : Nat) (h : gi_H) : Option (gi_H) :=
  Option.bind (gi_gR h v0 2 11) fun t1 => Option.bind (f_J7_fill_53178 n t1 (0 : Int) h) fun q2 => l_X3_findCircular_10 n  n v0 (0 : Int) q2
set_option maxRecDepth 100000 in
theorem z_X3_findCircular {al : Bool} {n : Nat} {v0 : Nat} {h : gi_H} {h1 : gi_H} (e : f_X3_findCircular n v0 h = some h1) : gx_Cw mX3_findCircular al [.ref v0] (gi_cv h) (.inl none) (gi_cv h1) := by
  refine gx_enter (by decide +kernel) rfl (Nat.le_of_ble_eq_true rfl) ?_
  show gx_Z mX3_findCircular al al 0 0 0 [(0, .ref v0)] [] (gi_cv h) (.inl none) (gi_cv h1)
  refine gx_aload_n dX3_findCircular_0 rfl 0 rfl ?_
  refine gx_bE e (fun t1 ht1 e => ?_)
  refine gy_fR ht1 dX3_findCircular_1 gf_RX3_28_2_11 (by decide) gkN_2_11 gkR_2_11 ?_
  refine gy_iconst dX3_findCircular_4 ?_
  refine gx_bE e (fun q2 hq2 e => ?_)
  refine gx_callS (n := 2) (st := []) (As := [.ref t1, .int (gI (0 : Int))]) dX3_findCircular_5 (z_J7_fill_53178 hq2) rfl ⟨rfl, gw_cw_J7_fill_53178, gw_5, gp_J7_fill_53178, ⟨Nat.le_of_ble_eq_true rfl, Nat.le_of_ble_eq_true rfl⟩⟩ gw_399 gw_98 ⟨Nat.le_of_ble_eq_true rfl, Nat.le_of_ble_eq_true rfl⟩ (Nat.le_of_ble_eq_true rfl) (gy_k0 (kc2 := 0) (ks2 := 0) ⟨rfl, rfl⟩ ?_) gy_kn
  refine gy_iconst dX3_findCircular_8 ?_
  refine gx_istore_n (ls2 := [(1, .int (gI (0 : Int))), (0, .ref v0)]) dX3_findCircular_9 rfl (Nat.le_of_ble_eq_true rfl) rfl ?_
  refine gx_sub (ls2 := [(0, .ref v0), (1, .int (gI (0 : Int)))]) [1, 0] rfl ?_
  exact zl_X3_findCircular_10  n _ _ _ e
/-! X3_leastOf  -/
set_option maxRecDepth 100000 in
def b_X3_leastOf_19    (h : gi_H) : Option (Int) :=
  some (-1 : Int)
set_option maxRecDepth 100000 in
theorem zb_X3_leastOf_19 {al : Bool}  {res : Int}    {h : gi_H} (e : b_X3_leastOf_19  h = some res) : gx_Z mX3_leastOf al al 0 0 19 [] [] (gi_cv h) (.inl (some (.int (gI res)))) (gi_cv h) := by
  refine gy_iconst dX3_leastOf_19 ?_
  cases e
  exact gx_iret dX3_leastOf_20 rfl ⟨Nat.le_of_ble_eq_true rfl, Nat.le_of_ble_eq_true rfl⟩ (fun z => z)
set_option maxRecDepth 100000 in
def f_X3_leastOf (v0 : Nat) (v1 : Int) (h : gi_H) : Option (Int) :=
  Option.bind (gi_rg v1) fun _ => if v1 < 0 then (b_X3_leastOf_19   h) else (if (32 : Int) ≤ v1 then (b_X3_leastOf_19   h) else (Option.bind (gi_gR h v0 2 8) fun t4 => Option.bind (gi_aI h 1 t4 v1) fun t5 => some t5))
set_option maxRecDepth 100000 in
theorem z_X3_leastOf {al : Bool} {v0 : Nat} {v1 : Int} {h : gi_H} {res : Int} (e : f_X3_leastOf v0 v1 h = some res) : gx_Cw mX3_leastOf al [.ref v0, .int (gI v1)] (gi_cv h) (.inl (some (.int (gI res)))) (gi_cv h) := by
  refine gx_enter (by decide +kernel) rfl (Nat.le_of_ble_eq_true rfl) ?_
  show gx_Z mX3_leastOf al al 0 0 0 [(0, .ref v0), (1, .int (gI v1))] [] (gi_cv h) (.inl (some (.int (gI res)))) (gi_cv h)
  refine gx_iload_n dX3_leastOf_0 rfl 1 rfl ?_
  refine gx_bE e (fun _ g1 e => ?_)
  refine gx_iE e (fun c2 e => ?_) (fun c2 e => ?_)
  · refine gy_if_lt (tgt := 19) (gi_rgS g1) dX3_leastOf_1 (by decide) (fun _ => ?_) (fun z => absurd c2 z)
    refine gx_sub (ls2 := []) [] rfl ?_
    exact zb_X3_leastOf_19  e
  · refine gy_if_lt (tgt := 19) (gi_rgS g1) dX3_leastOf_1 (by decide) (fun z => absurd z c2) (fun _ => ?_)
    refine gx_iload_n dX3_leastOf_4 rfl 1 rfl ?_
    refine gy_bipush dX3_leastOf_5 gcb_32 ?_
    refine gx_iE e (fun c3 e => ?_) (fun c3 e => ?_)
    · refine gy_icmp_ge (tgt := 19) (gi_rgS g1) (by decide) dX3_leastOf_7 (by decide) (fun _ => ?_) (fun z => absurd c3 z)
      refine gx_sub (ls2 := []) [] rfl ?_
      exact zb_X3_leastOf_19  e
    · refine gy_icmp_ge (tgt := 19) (gi_rgS g1) (by decide) dX3_leastOf_7 (by decide) (fun z => absurd z c3) (fun _ => ?_)
      refine gx_aload_n dX3_leastOf_10 rfl 0 rfl ?_
      refine gx_bE e (fun t4 ht4 e => ?_)
      refine gy_fR ht4 dX3_leastOf_11 gf_RX3_21_2_8 (by decide) gkN_2_8 gkR_2_8 ?_
      refine gx_iload_n dX3_leastOf_14 rfl 1 rfl ?_
      refine gx_bE e (fun t5 ht5 e => ?_)
      refine gy_l1 ht5 dX3_leastOf_15 ?_
      refine gx_goto (tgt := 20) dX3_leastOf_16 (by decide) ?_
      cases e
      exact gx_iret dX3_leastOf_20 rfl ⟨Nat.le_of_ble_eq_true rfl, Nat.le_of_ble_eq_true rfl⟩ (fun z => z)
/-! X3_leastOfRight  -/
set_option maxRecDepth 100000 in
def b_X3_leastOfRight_4 (n : Nat) (r4 : Nat → Int → Int → Int → gi_H → Option (Int)) (v0 : Nat) (v1 : Int) (v2 : Int) (v3 : Int)  (h : gi_H) : Option (Int) :=
  Option.bind (gi_gR h v0 2 0) fun t1 => Option.bind (gi_is h t1 3) fun _ => Option.bind (f_X4_length t1 v1 h) fun q3 => Option.bind (gi_rg v3) fun _ => Option.bind (gi_rg q3) fun _ => if q3 ≤ v3 then (some v2) else (Option.bind (gi_gR h v0 2 0) fun t7 => Option.bind (gi_is h t7 3) fun _ => Option.bind (f_X4_symbol t7 v1 v3 h) fun q9 => Option.bind (gi_is h v0 2) fun _ => Option.bind (f_X3_leastOf v0 q9 h) fun q11 => Option.bind (gi_rg q11) fun _ => if q11 = (-1 : Int) then (some (-1 : Int)) else (Option.bind (gi_rg (v2 + q11)) fun _ => gx_nm (gi_min (99 : Int) (v2 + q11)) fun t15 => gx_nm (v3 + (1 : Int)) fun t16 => r4 v0 v1 t15 t16 h))
set_option maxRecDepth 100000 in
theorem zb_X3_leastOfRight_4 {al : Bool} {n : Nat} {r4 : Nat → Int → Int → Int → gi_H → Option (Int)} {res : Int} (hr4 : ∀ (x0 : Nat) (x1 : Int) (x2 : Int) (x3 : Int) (hh : gi_H), r4 x0 x1 x2 x3 hh = some res → gx_Z mX3_leastOfRight al al 0 0 4 [(0, .ref x0), (1, .int (gI x1)), (2, .int (gI x2)), (3, .int (gI x3))] [] (gi_cv hh) (.inl (some (.int (gI res)))) (gi_cv hh)) {v0 : Nat} {v1 : Int} {v2 : Int} {v3 : Int}  {h : gi_H} (e : b_X3_leastOfRight_4 n r4 v0 v1 v2 v3 h = some res) : gx_Z mX3_leastOfRight al al 0 0 4 [(0, .ref v0), (1, .int (gI v1)), (2, .int (gI v2)), (3, .int (gI v3))] [] (gi_cv h) (.inl (some (.int (gI res)))) (gi_cv h) := by
  refine gx_iload_n dX3_leastOfRight_4 rfl 3 rfl ?_
  refine gx_aload_n dX3_leastOfRight_5 rfl 0 rfl ?_
  refine gx_bE e (fun t1 ht1 e => ?_)
  refine gy_fR ht1 dX3_leastOfRight_6 gf_RX3_37_2_0 (by decide) gkN_2_0 gkR_2_0 ?_
  refine gx_iload_n dX3_leastOfRight_9 rfl 1 rfl ?_
  refine gx_bE e (fun _ hu2 e => ?_)
  refine gx_bE e (fun q3 hq3 e => ?_)
  refine gx_callV (n := 1) (st := [.int (gI v3)]) (As := [.int (gI v1)]) (b := t1) dX3_leastOfRight_10 (z_X4_length hq3) rfl ⟨rfl, gw_cw_X4_length, gw_3, gp_X4_length, ⟨Nat.le_of_ble_eq_true rfl, Nat.le_of_ble_eq_true rfl⟩⟩ (gi_isS hu2) (by decide) gw_410 gw_411 gw_412 rfl ⟨Nat.le_of_ble_eq_true rfl, Nat.le_of_ble_eq_true rfl⟩ (Nat.le_of_ble_eq_true rfl) (gy_k1 (x := .int (gI q3)) (kc2 := 0) (ks2 := 0) ⟨rfl, rfl⟩ ?_) gy_kn
  refine gx_bE e (fun _ g4 e => ?_)
  refine gx_bE e (fun _ g5 e => ?_)
  refine gx_iE e (fun c6 e => ?_) (fun c6 e => ?_)
  · refine gy_icmp_ge (tgt := 55) (gi_rgS g4) (gi_rgS g5) dX3_leastOfRight_13 (by decide) (fun _ => ?_) (fun z => absurd c6 z)
    refine gx_iload_n dX3_leastOfRight_55 rfl 2 rfl ?_
    cases e
    exact gx_iret dX3_leastOfRight_56 rfl ⟨Nat.le_of_ble_eq_true rfl, Nat.le_of_ble_eq_true rfl⟩ (fun z => z)
  · refine gy_icmp_ge (tgt := 55) (gi_rgS g4) (gi_rgS g5) dX3_leastOfRight_13 (by decide) (fun z => absurd z c6) (fun _ => ?_)
    refine gx_aload_n dX3_leastOfRight_16 rfl 0 rfl ?_
    refine gx_aload_n dX3_leastOfRight_17 rfl 0 rfl ?_
    refine gx_bE e (fun t7 ht7 e => ?_)
    refine gy_fR ht7 dX3_leastOfRight_18 gf_RX3_37_2_0 (by decide) gkN_2_0 gkR_2_0 ?_
    refine gx_iload_n dX3_leastOfRight_21 rfl 1 rfl ?_
    refine gx_iload_n dX3_leastOfRight_22 rfl 3 rfl ?_
    refine gx_bE e (fun _ hu8 e => ?_)
    refine gx_bE e (fun q9 hq9 e => ?_)
    refine gx_callV (n := 2) (st := [.ref v0]) (As := [.int (gI v1), .int (gI v3)]) (b := t7) dX3_leastOfRight_23 (z_X4_symbol hq9) rfl ⟨rfl, gw_cw_X4_symbol, gw_3, gp_X4_symbol, ⟨Nat.le_of_ble_eq_true rfl, Nat.le_of_ble_eq_true rfl⟩⟩ (gi_isS hu8) (by decide) gw_414 gw_415 gw_416 rfl ⟨Nat.le_of_ble_eq_true rfl, Nat.le_of_ble_eq_true rfl⟩ (Nat.le_of_ble_eq_true rfl) (gy_k1 (x := .int (gI q9)) (kc2 := 0) (ks2 := 0) ⟨rfl, rfl⟩ ?_) gy_kn
    refine gx_bE e (fun _ hu10 e => ?_)
    refine gx_bE e (fun q11 hq11 e => ?_)
    refine gx_callV (n := 1) (st := []) (As := [.int (gI q9)]) (b := v0) dX3_leastOfRight_26 (z_X3_leastOf hq11) rfl ⟨rfl, gw_cw_X3_leastOf, gw_6, gp_X3_leastOf, ⟨Nat.le_of_ble_eq_true rfl, Nat.le_of_ble_eq_true rfl⟩⟩ (gi_isS hu10) (by decide) gw_482 gw_484 gs_13 rfl ⟨Nat.le_of_ble_eq_true rfl, Nat.le_of_ble_eq_true rfl⟩ (Nat.le_of_ble_eq_true rfl) (gy_k1 (x := .int (gI q11)) (kc2 := 0) (ks2 := 0) ⟨rfl, rfl⟩ ?_) gy_kn
    refine gx_istore (ls2 := [(4, .int (gI q11)), (0, .ref v0), (1, .int (gI v1)), (2, .int (gI v2)), (3, .int (gI v3))]) dX3_leastOfRight_29 (Nat.le_of_ble_eq_true rfl) rfl ?_
    refine gx_iload dX3_leastOfRight_31 0 rfl ?_
    refine gy_iconst dX3_leastOfRight_33 ?_
    refine gx_bE e (fun _ g12 e => ?_)
    refine gx_iE e (fun c13 e => ?_) (fun c13 e => ?_)
    · refine gy_icmp_ne (tgt := 39) (gi_rgS g12) (by decide) dX3_leastOfRight_34 (by decide) (fun z => absurd c13 z) (fun _ => ?_)
      refine gy_iconst dX3_leastOfRight_37 ?_
      cases e
      exact gx_iret dX3_leastOfRight_38 rfl ⟨Nat.le_of_ble_eq_true rfl, Nat.le_of_ble_eq_true rfl⟩ (fun z => z)
    · refine gy_icmp_ne (tgt := 39) (gi_rgS g12) (by decide) dX3_leastOfRight_34 (by decide) (fun _ => ?_) (fun z => absurd z c13)
      refine gy_bipush dX3_leastOfRight_39 gcb_99 ?_
      refine gx_iload_n dX3_leastOfRight_41 rfl 3 rfl ?_
      refine gx_iload dX3_leastOfRight_42 0 rfl ?_
      refine gy_iadd dX3_leastOfRight_44 ?_
      refine gx_bE e (fun _ g14 e => ?_)
      refine gy_mmin (by decide) (gi_rgS g14) dX3_leastOfRight_45 gw_486 (Nat.le_of_ble_eq_true rfl) (Nat.le_of_ble_eq_true rfl) ⟨Nat.le_of_ble_eq_true rfl, Nat.le_of_ble_eq_true rfl⟩ ?_
      refine gx_nE e (fun t15 ht15 e => ?_)
      rw [ht15]
      refine gx_istore_n (ls2 := [(2, .int (gI t15)), (4, .int (gI q11)), (0, .ref v0), (1, .int (gI v1)), (3, .int (gI v3))]) dX3_leastOfRight_48 rfl (Nat.le_of_ble_eq_true rfl) rfl ?_
      refine gx_nE e (fun t16 ht16 e => ?_)
      refine gy_iinc (v := t16) (ls2 := [(3, .int (gI t16)), (2, .int (gI t15)), (4, .int (gI q11)), (0, .ref v0), (1, .int (gI v1))]) dX3_leastOfRight_49 4 rfl ht16 (Nat.le_of_ble_eq_true rfl) rfl ?_
      refine gx_goto (tgt := 4) dX3_leastOfRight_52 (by decide) ?_
      refine gx_sub (ls2 := [(0, .ref v0), (1, .int (gI v1)), (2, .int (gI t15)), (3, .int (gI t16))]) [3, 4, 1, 0] rfl ?_
      exact hr4 _ _ _ _ _ e
def l_X3_leastOfRight_4 (n : Nat)  : Nat → Nat → Int → Int → Int → gi_H → Option (Int)
  | 0, _, _, _, _, _ => none
  | k + 1, v0, v1, v2, v3, h => b_X3_leastOfRight_4 n  (l_X3_leastOfRight_4 n  k) v0 v1 v2 v3 h
theorem zl_X3_leastOfRight_4 {al : Bool} {n : Nat}  {res : Int}  : ∀ (k : Nat) (v0 : Nat) (v1 : Int) (v2 : Int) (v3 : Int) (h : gi_H), l_X3_leastOfRight_4 n  k v0 v1 v2 v3 h = some res → gx_Z mX3_leastOfRight al al 0 0 4 [(0, .ref v0), (1, .int (gI v1)), (2, .int (gI v2)), (3, .int (gI v3))] [] (gi_cv h) (.inl (some (.int (gI res)))) (gi_cv h)
  | 0, _, _, _, _, _, e => gx_0E e
  | k + 1, _, _, _, _, _, e => zb_X3_leastOfRight_4 (n := n)  (zl_X3_leastOfRight_4  k) e
set_option maxRecDepth 100000 in
def f_X3_leastOfRight (n : Nat) (v0 : Nat) (v1 : Int) (h : gi_H) : Option (Int) :=
  l_X3_leastOfRight_4 n  n v0 v1 (0 : Int) (0 : Int) h
set_option maxRecDepth 100000 in
theorem z_X3_leastOfRight {al : Bool} {n : Nat} {v0 : Nat} {v1 : Int} {h : gi_H} {res : Int} (e : f_X3_leastOfRight n v0 v1 h = some res) : gx_Cw mX3_leastOfRight al [.ref v0, .int (gI v1)] (gi_cv h) (.inl (some (.int (gI res)))) (gi_cv h) := by
  refine gx_enter (by decide +kernel) rfl (Nat.le_of_ble_eq_true rfl) ?_
  show gx_Z mX3_leastOfRight al al 0 0 0 [(0, .ref v0), (1, .int (gI v1))] [] (gi_cv h) (.inl (some (.int (gI res)))) (gi_cv h)
  refine gy_iconst dX3_leastOfRight_0 ?_
  refine gx_istore_n (ls2 := [(2, .int (gI (0 : Int))), (0, .ref v0), (1, .int (gI v1))]) dX3_leastOfRight_1 rfl (Nat.le_of_ble_eq_true rfl) rfl ?_
  refine gy_iconst dX3_leastOfRight_2 ?_
  refine gx_istore_n (ls2 := [(3, .int (gI (0 : Int))), (2, .int (gI (0 : Int))), (0, .ref v0), (1, .int (gI v1))]) dX3_leastOfRight_3 rfl (Nat.le_of_ble_eq_true rfl) rfl ?_
  refine gx_sub (ls2 := [(0, .ref v0), (1, .int (gI v1)), (2, .int (gI (0 : Int))), (3, .int (gI (0 : Int)))]) [2, 3, 1, 0] rfl ?_
  exact zl_X3_leastOfRight_4  n _ _ _ _ _ e
/-! X3_findLeasts  -/
set_option maxRecDepth 100000 in
def b_X3_findLeasts_142 (n : Nat) (r33 : Nat → Int → Int → gi_H → Option (gi_H)) (v0 : Nat) (v1 : Int) (v2 : Int)  (h : gi_H) : Option (gi_H) :=
  gx_nm (v2 + (1 : Int)) fun t15 => r33 v0 v1 t15 h
set_option maxRecDepth 100000 in
theorem zb_X3_findLeasts_142 {al : Bool} {n : Nat} {r33 : Nat → Int → Int → gi_H → Option (gi_H)} {h1 : gi_H} (hr33 : ∀ (x0 : Nat) (x1 : Int) (x2 : Int) (hh : gi_H), r33 x0 x1 x2 hh = some h1 → gx_Z mX3_findLeasts al al 0 0 33 [(0, .ref x0), (1, .int (gI x1)), (2, .int (gI x2))] [] (gi_cv hh) (.inl none) (gi_cv h1)) {v0 : Nat} {v1 : Int} {v2 : Int}  {h : gi_H} (e : b_X3_findLeasts_142 n r33 v0 v1 v2 h = some h1) : gx_Z mX3_findLeasts al al 0 0 142 [(0, .ref v0), (1, .int (gI v1)), (2, .int (gI v2))] [] (gi_cv h) (.inl none) (gi_cv h1) := by
  refine gx_nE e (fun t15 ht15 e => ?_)
  refine gy_iinc (v := t15) (ls2 := [(2, .int (gI t15)), (0, .ref v0), (1, .int (gI v1))]) dX3_findLeasts_142 2 rfl ht15 (Nat.le_of_ble_eq_true rfl) rfl ?_
  refine gx_goto (tgt := 33) dX3_findLeasts_145 (by decide) ?_
  refine gx_sub (ls2 := [(0, .ref v0), (1, .int (gI v1)), (2, .int (gI t15))]) [1, 2, 0] rfl ?_
  exact hr33 _ _ _ _ e
set_option maxRecDepth 100000 in
def b_X3_findLeasts_136 (n : Nat) (r33 : Nat → Int → Int → gi_H → Option (gi_H)) (r47 : Nat → Int → Int → Int → gi_H → Option (gi_H)) (v0 : Nat) (v1 : Int) (v2 : Int) (v3 : Int)  (h : gi_H) : Option (gi_H) :=
  gx_nm (v3 + (1 : Int)) fun t28 => r47 v0 v1 v2 t28 h
set_option maxRecDepth 100000 in
theorem zb_X3_findLeasts_136 {al : Bool} {n : Nat} {r33 : Nat → Int → Int → gi_H → Option (gi_H)} {r47 : Nat → Int → Int → Int → gi_H → Option (gi_H)} {h1 : gi_H} (hr33 : ∀ (x0 : Nat) (x1 : Int) (x2 : Int) (hh : gi_H), r33 x0 x1 x2 hh = some h1 → gx_Z mX3_findLeasts al al 0 0 33 [(0, .ref x0), (1, .int (gI x1)), (2, .int (gI x2))] [] (gi_cv hh) (.inl none) (gi_cv h1)) (hr47 : ∀ (x0 : Nat) (x1 : Int) (x2 : Int) (x3 : Int) (hh : gi_H), r47 x0 x1 x2 x3 hh = some h1 → gx_Z mX3_findLeasts al al 0 0 47 [(0, .ref x0), (1, .int (gI x1)), (2, .int (gI x2)), (3, .int (gI x3))] [] (gi_cv hh) (.inl none) (gi_cv h1)) {v0 : Nat} {v1 : Int} {v2 : Int} {v3 : Int}  {h : gi_H} (e : b_X3_findLeasts_136 n r33 r47 v0 v1 v2 v3 h = some h1) : gx_Z mX3_findLeasts al al 0 0 136 [(0, .ref v0), (1, .int (gI v1)), (2, .int (gI v2)), (3, .int (gI v3))] [] (gi_cv h) (.inl none) (gi_cv h1) := by
  refine gx_nE e (fun t28 ht28 e => ?_)
  refine gy_iinc (v := t28) (ls2 := [(3, .int (gI t28)), (0, .ref v0), (1, .int (gI v1)), (2, .int (gI v2))]) dX3_findLeasts_136 3 rfl ht28 (Nat.le_of_ble_eq_true rfl) rfl ?_
  refine gx_goto (tgt := 47) dX3_findLeasts_139 (by decide) ?_
  refine gx_sub (ls2 := [(0, .ref v0), (1, .int (gI v1)), (2, .int (gI v2)), (3, .int (gI t28))]) [1, 2, 3, 0] rfl ?_
  exact hr47 _ _ _ _ _ e
set_option maxRecDepth 100000 in
def b_X3_findLeasts_104 (n : Nat) (r33 : Nat → Int → Int → gi_H → Option (gi_H)) (r47 : Nat → Int → Int → Int → gi_H → Option (gi_H)) (v0 : Nat) (v1 : Int) (v2 : Int) (v3 : Int) (v4 : Int) (v5 : Int) (s0 : Int) (h : gi_H) : Option (gi_H) :=
  Option.bind (gi_rg v5) fun _ => if v5 = (-1 : Int) then (b_X3_findLeasts_136 n r33 r47 v0 v1 v2 v3 h) else (Option.bind (gi_rg s0) fun _ => if s0 = 0 then (b_X3_findLeasts_136 n r33 r47 v0 v1 v2 v3 h) else (Option.bind (f_X11_isNonterminal v4 h) fun q31 => Option.bind (gi_rg q31) fun _ => if q31 = 0 then (b_X3_findLeasts_136 n r33 r47 v0 v1 v2 v3 h) else (Option.bind (gi_gR h v0 2 8) fun t34 => Option.bind (gi_s1 h t34 v4 v5) fun h35 => b_X3_findLeasts_136 n r33 r47 v0 (1 : Int) v2 v3 h35)))
set_option maxRecDepth 100000 in
theorem zb_X3_findLeasts_104 {al : Bool} {n : Nat} {r33 : Nat → Int → Int → gi_H → Option (gi_H)} {r47 : Nat → Int → Int → Int → gi_H → Option (gi_H)} {h1 : gi_H} (hr33 : ∀ (x0 : Nat) (x1 : Int) (x2 : Int) (hh : gi_H), r33 x0 x1 x2 hh = some h1 → gx_Z mX3_findLeasts al al 0 0 33 [(0, .ref x0), (1, .int (gI x1)), (2, .int (gI x2))] [] (gi_cv hh) (.inl none) (gi_cv h1)) (hr47 : ∀ (x0 : Nat) (x1 : Int) (x2 : Int) (x3 : Int) (hh : gi_H), r47 x0 x1 x2 x3 hh = some h1 → gx_Z mX3_findLeasts al al 0 0 47 [(0, .ref x0), (1, .int (gI x1)), (2, .int (gI x2)), (3, .int (gI x3))] [] (gi_cv hh) (.inl none) (gi_cv h1)) {v0 : Nat} {v1 : Int} {v2 : Int} {v3 : Int} {v4 : Int} {v5 : Int} {s0 : Int} {h : gi_H} (e : b_X3_findLeasts_104 n r33 r47 v0 v1 v2 v3 v4 v5 s0 h = some h1) : gx_Z mX3_findLeasts al al 0 0 104 [(0, .ref v0), (1, .int (gI v1)), (2, .int (gI v2)), (3, .int (gI v3)), (4, .int (gI v4)), (5, .int (gI v5))] [.int (gI s0)] (gi_cv h) (.inl none) (gi_cv h1) := by
  refine gx_istore (ls2 := [(6, .int (gI s0)), (0, .ref v0), (1, .int (gI v1)), (2, .int (gI v2)), (3, .int (gI v3)), (4, .int (gI v4)), (5, .int (gI v5))]) dX3_findLeasts_104 (Nat.le_of_ble_eq_true rfl) rfl ?_
  refine gx_iload dX3_findLeasts_106 6 rfl ?_
  refine gy_iconst dX3_findLeasts_108 ?_
  refine gx_bE e (fun _ g26 e => ?_)
  refine gx_iE e (fun c27 e => ?_) (fun c27 e => ?_)
  · refine gy_icmp_eq (tgt := 136) (gi_rgS g26) (by decide) dX3_findLeasts_109 (by decide) (fun _ => ?_) (fun z => absurd c27 z)
    refine gx_sub (ls2 := [(0, .ref v0), (1, .int (gI v1)), (2, .int (gI v2)), (3, .int (gI v3))]) [1, 2, 3, 4] rfl ?_
    exact zb_X3_findLeasts_136 hr33 hr47 e
  · refine gy_icmp_eq (tgt := 136) (gi_rgS g26) (by decide) dX3_findLeasts_109 (by decide) (fun z => absurd z c27) (fun _ => ?_)
    refine gx_iload dX3_findLeasts_112 0 rfl ?_
    refine gx_bE e (fun _ g29 e => ?_)
    refine gx_iE e (fun c30 e => ?_) (fun c30 e => ?_)
    · refine gy_if_eq (tgt := 136) (gi_rgS g29) dX3_findLeasts_114 (by decide) (fun _ => ?_) (fun z => absurd c30 z)
      refine gx_sub (ls2 := [(0, .ref v0), (1, .int (gI v1)), (2, .int (gI v2)), (3, .int (gI v3))]) [1, 2, 3, 4] rfl ?_
      exact zb_X3_findLeasts_136 hr33 hr47 e
    · refine gy_if_eq (tgt := 136) (gi_rgS g29) dX3_findLeasts_114 (by decide) (fun z => absurd z c30) (fun _ => ?_)
      refine gx_iload dX3_findLeasts_117 5 rfl ?_
      refine gx_bE e (fun q31 hq31 e => ?_)
      refine gx_callSN (n := 1) (st := []) (As := [.int (gI v4)]) dX3_findLeasts_119 (z_X11_isNonterminal hq31) rfl ⟨rfl, gw_cw_X11_isNonterminal, gw_1, gp_X11_isNonterminal, ⟨Nat.le_of_ble_eq_true rfl, Nat.le_of_ble_eq_true rfl⟩⟩ (host := "Grammarsmith") (by decide +kernel) gw_438 ⟨Nat.le_of_ble_eq_true rfl, Nat.le_of_ble_eq_true rfl⟩ (Nat.le_of_ble_eq_true rfl) (gy_k1 (x := .int (gI q31)) (kc2 := 0) (ks2 := 0) ⟨rfl, rfl⟩ ?_) gy_kn
      refine gx_bE e (fun _ g32 e => ?_)
      refine gx_iE e (fun c33 e => ?_) (fun c33 e => ?_)
      · refine gy_if_eq (tgt := 136) (gi_rgS g32) dX3_findLeasts_122 (by decide) (fun _ => ?_) (fun z => absurd c33 z)
        refine gx_sub (ls2 := [(0, .ref v0), (1, .int (gI v1)), (2, .int (gI v2)), (3, .int (gI v3))]) [1, 2, 3, 4] rfl ?_
        exact zb_X3_findLeasts_136 hr33 hr47 e
      · refine gy_if_eq (tgt := 136) (gi_rgS g32) dX3_findLeasts_122 (by decide) (fun z => absurd z c33) (fun _ => ?_)
        refine gx_aload_n dX3_findLeasts_125 rfl 1 rfl ?_
        refine gx_bE e (fun t34 ht34 e => ?_)
        refine gy_fR ht34 dX3_findLeasts_126 gf_RX3_21_2_8 (by decide) gkN_2_8 gkR_2_8 ?_
        refine gx_iload dX3_findLeasts_129 5 rfl ?_
        refine gx_iload dX3_findLeasts_131 6 rfl ?_
        refine gx_bE e (fun h35 hh35 e => ?_)
        refine gy_t1 hh35 dX3_findLeasts_133 ?_
        refine gy_iconst dX3_findLeasts_134 ?_
        refine gx_istore_n (ls2 := [(1, .int (gI (1 : Int))), (6, .int (gI s0)), (0, .ref v0), (2, .int (gI v2)), (3, .int (gI v3)), (4, .int (gI v4)), (5, .int (gI v5))]) dX3_findLeasts_135 rfl (Nat.le_of_ble_eq_true rfl) rfl ?_
        refine gx_sub (ls2 := [(0, .ref v0), (1, .int (gI (1 : Int))), (2, .int (gI v2)), (3, .int (gI v3))]) [2, 0, 3, 4] rfl ?_
        exact zb_X3_findLeasts_136 hr33 hr47 e
set_option maxRecDepth 100000 in
def b_X3_findLeasts_99 (n : Nat) (r33 : Nat → Int → Int → gi_H → Option (gi_H)) (r47 : Nat → Int → Int → Int → gi_H → Option (gi_H)) (v0 : Nat) (v1 : Int) (v2 : Int) (v3 : Int) (v4 : Int) (v5 : Int)  (h : gi_H) : Option (gi_H) :=
  b_X3_findLeasts_104 n r33 r47 v0 v1 v2 v3 v4 v5 (1 : Int) h
set_option maxRecDepth 100000 in
theorem zb_X3_findLeasts_99 {al : Bool} {n : Nat} {r33 : Nat → Int → Int → gi_H → Option (gi_H)} {r47 : Nat → Int → Int → Int → gi_H → Option (gi_H)} {h1 : gi_H} (hr33 : ∀ (x0 : Nat) (x1 : Int) (x2 : Int) (hh : gi_H), r33 x0 x1 x2 hh = some h1 → gx_Z mX3_findLeasts al al 0 0 33 [(0, .ref x0), (1, .int (gI x1)), (2, .int (gI x2))] [] (gi_cv hh) (.inl none) (gi_cv h1)) (hr47 : ∀ (x0 : Nat) (x1 : Int) (x2 : Int) (x3 : Int) (hh : gi_H), r47 x0 x1 x2 x3 hh = some h1 → gx_Z mX3_findLeasts al al 0 0 47 [(0, .ref x0), (1, .int (gI x1)), (2, .int (gI x2)), (3, .int (gI x3))] [] (gi_cv hh) (.inl none) (gi_cv h1)) {v0 : Nat} {v1 : Int} {v2 : Int} {v3 : Int} {v4 : Int} {v5 : Int}  {h : gi_H} (e : b_X3_findLeasts_99 n r33 r47 v0 v1 v2 v3 v4 v5 h = some h1) : gx_Z mX3_findLeasts al al 0 0 99 [(0, .ref v0), (1, .int (gI v1)), (2, .int (gI v2)), (3, .int (gI v3)), (4, .int (gI v4)), (5, .int (gI v5))] [] (gi_cv h) (.inl none) (gi_cv h1) := by
  refine gy_iconst dX3_findLeasts_99 ?_
  refine gx_goto (tgt := 104) dX3_findLeasts_100 (by decide) ?_
  exact zb_X3_findLeasts_104 hr33 hr47 e
set_option maxRecDepth 100000 in
def b_X3_findLeasts_47 (n : Nat) (r33 : Nat → Int → Int → gi_H → Option (gi_H)) (r47 : Nat → Int → Int → Int → gi_H → Option (gi_H)) (v0 : Nat) (v1 : Int) (v2 : Int) (v3 : Int)  (h : gi_H) : Option (gi_H) :=
  Option.bind (gi_gR h v0 2 0) fun t9 => Option.bind (gi_is h t9 3) fun _ => Option.bind (f_X4_count t9 h) fun q11 => Option.bind (gi_rg v3) fun _ => Option.bind (gi_rg q11) fun _ => if q11 ≤ v3 then (b_X3_findLeasts_142 n r33 v0 v1 v2 h) else (Option.bind (gi_gR h v0 2 0) fun t16 => Option.bind (gi_is h t16 3) fun _ => Option.bind (f_X4_owner t16 v3 h) fun q18 => gx_nm ((16 : Int) + q18) fun t19 => Option.bind (gi_is h v0 2) fun _ => Option.bind (f_X3_leastOfRight n v0 v3 h) fun q21 => Option.bind (gi_is h v0 2) fun _ => Option.bind (f_X3_leastOf v0 t19 h) fun q23 => Option.bind (gi_rg q23) fun _ => if q23 = (-1 : Int) then (b_X3_findLeasts_99 n r33 r47 v0 v1 v2 v3 t19 q21 h) else (Option.bind (gi_is h v0 2) fun _ => Option.bind (f_X3_leastOf v0 t19 h) fun q37 => Option.bind (gi_rg q21) fun _ => Option.bind (gi_rg q37) fun _ => if q37 ≤ q21 then (b_X3_findLeasts_104 n r33 r47 v0 v1 v2 v3 t19 q21 (0 : Int) h) else (b_X3_findLeasts_99 n r33 r47 v0 v1 v2 v3 t19 q21 h)))
set_option maxRecDepth 100000 in
theorem zb_X3_findLeasts_47 {al : Bool} {n : Nat} {r33 : Nat → Int → Int → gi_H → Option (gi_H)} {r47 : Nat → Int → Int → Int → gi_H → Option (gi_H)} {h1 : gi_H} (hr33 : ∀ (x0 : Nat) (x1 : Int) (x2 : Int) (hh : gi_H), r33 x0 x1 x2 hh = some h1 → gx_Z mX3_findLeasts al al 0 0 33 [(0, .ref x0), (1, .int (gI x1)), (2, .int (gI x2))] [] (gi_cv hh) (.inl none) (gi_cv h1)) (hr47 : ∀ (x0 : Nat) (x1 : Int) (x2 : Int) (x3 : Int) (hh : gi_H), r47 x0 x1 x2 x3 hh = some h1 → gx_Z mX3_findLeasts al al 0 0 47 [(0, .ref x0), (1, .int (gI x1)), (2, .int (gI x2)), (3, .int (gI x3))] [] (gi_cv hh) (.inl none) (gi_cv h1)) {v0 : Nat} {v1 : Int} {v2 : Int} {v3 : Int}  {h : gi_H} (e : b_X3_findLeasts_47 n r33 r47 v0 v1 v2 v3 h = some h1) : gx_Z mX3_findLeasts al al 0 0 47 [(0, .ref v0), (1, .int (gI v1)), (2, .int (gI v2)), (3, .int (gI v3))] [] (gi_cv h) (.inl none) (gi_cv h1) := by
  refine gx_iload_n dX3_findLeasts_47 rfl 3 rfl ?_
  refine gx_aload_n dX3_findLeasts_48 rfl 0 rfl ?_
  refine gx_bE e (fun t9 ht9 e => ?_)
  refine gy_fR ht9 dX3_findLeasts_49 gf_RX3_37_2_0 (by decide) gkN_2_0 gkR_2_0 ?_
  refine gx_bE e (fun _ hu10 e => ?_)
  refine gx_bE e (fun q11 hq11 e => ?_)
  refine gx_callV (n := 0) (st := [.int (gI v3)]) (As := []) (b := t9) dX3_findLeasts_52 (z_X4_count hq11) rfl ⟨rfl, gw_cw_X4_count, gw_3, gp_X4_count, ⟨Nat.le_of_ble_eq_true rfl, Nat.le_of_ble_eq_true rfl⟩⟩ (gi_isS hu10) (by decide) gw_401 gw_384 gw_385 rfl ⟨Nat.le_of_ble_eq_true rfl, Nat.le_of_ble_eq_true rfl⟩ (Nat.le_of_ble_eq_true rfl) (gy_k1 (x := .int (gI q11)) (kc2 := 0) (ks2 := 0) ⟨rfl, rfl⟩ ?_) gy_kn
  refine gx_bE e (fun _ g12 e => ?_)
  refine gx_bE e (fun _ g13 e => ?_)
  refine gx_iE e (fun c14 e => ?_) (fun c14 e => ?_)
  · refine gy_icmp_ge (tgt := 142) (gi_rgS g12) (gi_rgS g13) dX3_findLeasts_55 (by decide) (fun _ => ?_) (fun z => absurd c14 z)
    refine gx_sub (ls2 := [(0, .ref v0), (1, .int (gI v1)), (2, .int (gI v2))]) [0, 1, 2] rfl ?_
    exact zb_X3_findLeasts_142 hr33 e
  · refine gy_icmp_ge (tgt := 142) (gi_rgS g12) (gi_rgS g13) dX3_findLeasts_55 (by decide) (fun z => absurd z c14) (fun _ => ?_)
    refine gy_bipush dX3_findLeasts_58 gcb_16 ?_
    refine gx_aload_n dX3_findLeasts_60 rfl 0 rfl ?_
    refine gx_bE e (fun t16 ht16 e => ?_)
    refine gy_fR ht16 dX3_findLeasts_61 gf_RX3_37_2_0 (by decide) gkN_2_0 gkR_2_0 ?_
    refine gx_iload_n dX3_findLeasts_64 rfl 3 rfl ?_
    refine gx_bE e (fun _ hu17 e => ?_)
    refine gx_bE e (fun q18 hq18 e => ?_)
    refine gx_callV (n := 1) (st := [.int (gI (16 : Int))]) (As := [.int (gI v3)]) (b := t16) dX3_findLeasts_65 (z_X4_owner hq18) rfl ⟨rfl, gw_cw_X4_owner, gw_3, gp_X4_owner, ⟨Nat.le_of_ble_eq_true rfl, Nat.le_of_ble_eq_true rfl⟩⟩ (gi_isS hu17) (by decide) gw_402 gw_403 gw_404 rfl ⟨Nat.le_of_ble_eq_true rfl, Nat.le_of_ble_eq_true rfl⟩ (Nat.le_of_ble_eq_true rfl) (gy_k1 (x := .int (gI q18)) (kc2 := 0) (ks2 := 0) ⟨rfl, rfl⟩ ?_) gy_kn
    refine gy_iadd dX3_findLeasts_68 ?_
    refine gx_nE e (fun t19 ht19 e => ?_)
    rw [ht19]
    refine gx_istore (ls2 := [(4, .int (gI t19)), (0, .ref v0), (1, .int (gI v1)), (2, .int (gI v2)), (3, .int (gI v3))]) dX3_findLeasts_69 (Nat.le_of_ble_eq_true rfl) rfl ?_
    refine gx_aload_n dX3_findLeasts_71 rfl 1 rfl ?_
    refine gx_iload_n dX3_findLeasts_72 rfl 4 rfl ?_
    refine gx_bE e (fun _ hu20 e => ?_)
    refine gx_bE e (fun q21 hq21 e => ?_)
    refine gx_callV (n := 1) (st := []) (As := [.int (gI v3)]) (b := v0) dX3_findLeasts_73 (z_X3_leastOfRight hq21) rfl ⟨rfl, gw_cw_X3_leastOfRight, gw_6, gp_X3_leastOfRight, ⟨Nat.le_of_ble_eq_true rfl, Nat.le_of_ble_eq_true rfl⟩⟩ (gi_isS hu20) (by decide) gw_478 gw_480 gs_12 rfl ⟨Nat.le_of_ble_eq_true rfl, Nat.le_of_ble_eq_true rfl⟩ (Nat.le_of_ble_eq_true rfl) (gy_k1 (x := .int (gI q21)) (kc2 := 0) (ks2 := 0) ⟨rfl, rfl⟩ ?_) gy_kn
    refine gx_istore (ls2 := [(5, .int (gI q21)), (4, .int (gI t19)), (0, .ref v0), (1, .int (gI v1)), (2, .int (gI v2)), (3, .int (gI v3))]) dX3_findLeasts_76 (Nat.le_of_ble_eq_true rfl) rfl ?_
    refine gx_aload_n dX3_findLeasts_78 rfl 2 rfl ?_
    refine gx_iload dX3_findLeasts_79 1 rfl ?_
    refine gx_bE e (fun _ hu22 e => ?_)
    refine gx_bE e (fun q23 hq23 e => ?_)
    refine gx_callV (n := 1) (st := []) (As := [.int (gI t19)]) (b := v0) dX3_findLeasts_81 (z_X3_leastOf hq23) rfl ⟨rfl, gw_cw_X3_leastOf, gw_6, gp_X3_leastOf, ⟨Nat.le_of_ble_eq_true rfl, Nat.le_of_ble_eq_true rfl⟩⟩ (gi_isS hu22) (by decide) gw_482 gw_484 gs_13 rfl ⟨Nat.le_of_ble_eq_true rfl, Nat.le_of_ble_eq_true rfl⟩ (Nat.le_of_ble_eq_true rfl) (gy_k1 (x := .int (gI q23)) (kc2 := 0) (ks2 := 0) ⟨rfl, rfl⟩ ?_) gy_kn
    refine gy_iconst dX3_findLeasts_84 ?_
    refine gx_bE e (fun _ g24 e => ?_)
    refine gx_iE e (fun c25 e => ?_) (fun c25 e => ?_)
    · refine gy_icmp_eq (tgt := 99) (gi_rgS g24) (by decide) dX3_findLeasts_85 (by decide) (fun _ => ?_) (fun z => absurd c25 z)
      refine gx_sub (ls2 := [(0, .ref v0), (1, .int (gI v1)), (2, .int (gI v2)), (3, .int (gI v3)), (4, .int (gI t19)), (5, .int (gI q21))]) [2, 3, 4, 5, 1, 0] rfl ?_
      exact zb_X3_findLeasts_99 hr33 hr47 e
    · refine gy_icmp_eq (tgt := 99) (gi_rgS g24) (by decide) dX3_findLeasts_85 (by decide) (fun z => absurd z c25) (fun _ => ?_)
      refine gx_iload dX3_findLeasts_88 0 rfl ?_
      refine gx_aload_n dX3_findLeasts_90 rfl 2 rfl ?_
      refine gx_iload dX3_findLeasts_91 1 rfl ?_
      refine gx_bE e (fun _ hu36 e => ?_)
      refine gx_bE e (fun q37 hq37 e => ?_)
      refine gx_callV (n := 1) (st := [.int (gI q21)]) (As := [.int (gI t19)]) (b := v0) dX3_findLeasts_93 (z_X3_leastOf hq37) rfl ⟨rfl, gw_cw_X3_leastOf, gw_6, gp_X3_leastOf, ⟨Nat.le_of_ble_eq_true rfl, Nat.le_of_ble_eq_true rfl⟩⟩ (gi_isS hu36) (by decide) gw_482 gw_484 gs_13 rfl ⟨Nat.le_of_ble_eq_true rfl, Nat.le_of_ble_eq_true rfl⟩ (Nat.le_of_ble_eq_true rfl) (gy_k1 (x := .int (gI q37)) (kc2 := 0) (ks2 := 0) ⟨rfl, rfl⟩ ?_) gy_kn
      refine gx_bE e (fun _ g38 e => ?_)
      refine gx_bE e (fun _ g39 e => ?_)
      refine gx_iE e (fun c40 e => ?_) (fun c40 e => ?_)
      · refine gy_icmp_ge (tgt := 103) (gi_rgS g38) (gi_rgS g39) dX3_findLeasts_96 (by decide) (fun _ => ?_) (fun z => absurd c40 z)
        refine gy_iconst dX3_findLeasts_103 ?_
        refine gx_sub (ls2 := [(0, .ref v0), (1, .int (gI v1)), (2, .int (gI v2)), (3, .int (gI v3)), (4, .int (gI t19)), (5, .int (gI q21))]) [2, 3, 4, 5, 1, 0] rfl ?_
        exact zb_X3_findLeasts_104 hr33 hr47 e
      · refine gy_icmp_ge (tgt := 103) (gi_rgS g38) (gi_rgS g39) dX3_findLeasts_96 (by decide) (fun z => absurd z c40) (fun _ => ?_)
        refine gx_sub (ls2 := [(0, .ref v0), (1, .int (gI v1)), (2, .int (gI v2)), (3, .int (gI v3)), (4, .int (gI t19)), (5, .int (gI q21))]) [2, 3, 4, 5, 1, 0] rfl ?_
        exact zb_X3_findLeasts_99 hr33 hr47 e
def l_X3_findLeasts_47 (n : Nat) (r33 : Nat → Int → Int → gi_H → Option (gi_H)) : Nat → Nat → Int → Int → Int → gi_H → Option (gi_H)
  | 0, _, _, _, _, _ => none
  | k + 1, v0, v1, v2, v3, h => b_X3_findLeasts_47 n r33 (l_X3_findLeasts_47 n r33 k) v0 v1 v2 v3 h
theorem zl_X3_findLeasts_47 {al : Bool} {n : Nat} {r33 : Nat → Int → Int → gi_H → Option (gi_H)} {h1 : gi_H} (hr33 : ∀ (x0 : Nat) (x1 : Int) (x2 : Int) (hh : gi_H), r33 x0 x1 x2 hh = some h1 → gx_Z mX3_findLeasts al al 0 0 33 [(0, .ref x0), (1, .int (gI x1)), (2, .int (gI x2))] [] (gi_cv hh) (.inl none) (gi_cv h1)) : ∀ (k : Nat) (v0 : Nat) (v1 : Int) (v2 : Int) (v3 : Int) (h : gi_H), l_X3_findLeasts_47 n r33 k v0 v1 v2 v3 h = some h1 → gx_Z mX3_findLeasts al al 0 0 47 [(0, .ref v0), (1, .int (gI v1)), (2, .int (gI v2)), (3, .int (gI v3))] [] (gi_cv h) (.inl none) (gi_cv h1)
  | 0, _, _, _, _, _, e => gx_0E e
  | k + 1, _, _, _, _, _, e => zb_X3_findLeasts_47 (n := n) hr33 (zl_X3_findLeasts_47 hr33 k) e
set_option maxRecDepth 100000 in
def b_X3_findLeasts_33 (n : Nat) (r33 : Nat → Int → Int → gi_H → Option (gi_H)) (v0 : Nat) (v1 : Int) (v2 : Int)  (h : gi_H) : Option (gi_H) :=
  Option.bind (gi_rg v2) fun _ => if (1000000 : Int) ≤ v2 then (some h) else (Option.bind (gi_rg v1) fun _ => if v1 = 0 then (some h) else (l_X3_findLeasts_47 n r33 n v0 (0 : Int) v2 (0 : Int) h))
set_option maxRecDepth 100000 in
theorem zb_X3_findLeasts_33 {al : Bool} {n : Nat} {r33 : Nat → Int → Int → gi_H → Option (gi_H)} {h1 : gi_H} (hr33 : ∀ (x0 : Nat) (x1 : Int) (x2 : Int) (hh : gi_H), r33 x0 x1 x2 hh = some h1 → gx_Z mX3_findLeasts al al 0 0 33 [(0, .ref x0), (1, .int (gI x1)), (2, .int (gI x2))] [] (gi_cv hh) (.inl none) (gi_cv h1)) {v0 : Nat} {v1 : Int} {v2 : Int}  {h : gi_H} (e : b_X3_findLeasts_33 n r33 v0 v1 v2 h = some h1) : gx_Z mX3_findLeasts al al 0 0 33 [(0, .ref v0), (1, .int (gI v1)), (2, .int (gI v2))] [] (gi_cv h) (.inl none) (gi_cv h1) := by
  refine gx_iload_n dX3_findLeasts_33 rfl 2 rfl ?_
  refine gy_ldc (n := 1000000) dX3_findLeasts_34 gw_400 (by decide +kernel) ?_
  refine gx_bE e (fun _ g5 e => ?_)
  refine gx_iE e (fun c6 e => ?_) (fun c6 e => ?_)
  · refine gy_icmp_ge (tgt := 148) (gi_rgS g5) (by decide) dX3_findLeasts_36 (by decide) (fun _ => ?_) (fun z => absurd c6 z)
    cases e
    exact gx_vret dX3_findLeasts_148 rfl ⟨Nat.le_of_ble_eq_true rfl, Nat.le_of_ble_eq_true rfl⟩ (fun z => z)
  · refine gy_icmp_ge (tgt := 148) (gi_rgS g5) (by decide) dX3_findLeasts_36 (by decide) (fun z => absurd z c6) (fun _ => ?_)
    refine gx_iload_n dX3_findLeasts_39 rfl 1 rfl ?_
    refine gx_bE e (fun _ g7 e => ?_)
    refine gx_iE e (fun c8 e => ?_) (fun c8 e => ?_)
    · refine gy_if_eq (tgt := 148) (gi_rgS g7) dX3_findLeasts_40 (by decide) (fun _ => ?_) (fun z => absurd c8 z)
      cases e
      exact gx_vret dX3_findLeasts_148 rfl ⟨Nat.le_of_ble_eq_true rfl, Nat.le_of_ble_eq_true rfl⟩ (fun z => z)
    · refine gy_if_eq (tgt := 148) (gi_rgS g7) dX3_findLeasts_40 (by decide) (fun z => absurd z c8) (fun _ => ?_)
      refine gy_iconst dX3_findLeasts_43 ?_
      refine gx_istore_n (ls2 := [(1, .int (gI (0 : Int))), (0, .ref v0), (2, .int (gI v2))]) dX3_findLeasts_44 rfl (Nat.le_of_ble_eq_true rfl) rfl ?_
      refine gy_iconst dX3_findLeasts_45 ?_
      refine gx_istore_n (ls2 := [(3, .int (gI (0 : Int))), (1, .int (gI (0 : Int))), (0, .ref v0), (2, .int (gI v2))]) dX3_findLeasts_46 rfl (Nat.le_of_ble_eq_true rfl) rfl ?_
      refine gx_sub (ls2 := [(0, .ref v0), (1, .int (gI (0 : Int))), (2, .int (gI v2)), (3, .int (gI (0 : Int)))]) [2, 1, 3, 0] rfl ?_
      exact zl_X3_findLeasts_47 hr33 n _ _ _ _ _ e
def l_X3_findLeasts_33 (n : Nat)  : Nat → Nat → Int → Int → gi_H → Option (gi_H)
  | 0, _, _, _, _ => none
  | k + 1, v0, v1, v2, h => b_X3_findLeasts_33 n  (l_X3_findLeasts_33 n  k) v0 v1 v2 h
theorem zl_X3_findLeasts_33 {al : Bool} {n : Nat}  {h1 : gi_H}  : ∀ (k : Nat) (v0 : Nat) (v1 : Int) (v2 : Int) (h : gi_H), l_X3_findLeasts_33 n  k v0 v1 v2 h = some h1 → gx_Z mX3_findLeasts al al 0 0 33 [(0, .ref v0), (1, .int (gI v1)), (2, .int (gI v2))] [] (gi_cv h) (.inl none) (gi_cv h1)
  | 0, _, _, _, _, e => gx_0E e
  | k + 1, _, _, _, _, e => zb_X3_findLeasts_33 (n := n)  (zl_X3_findLeasts_33  k) e
set_option maxRecDepth 100000 in
def b_X3_findLeasts_29 (n : Nat)  (v0 : Nat)  (h : gi_H) : Option (gi_H) :=
  l_X3_findLeasts_33 n  n v0 (1 : Int) (0 : Int) h
set_option maxRecDepth 100000 in
theorem zb_X3_findLeasts_29 {al : Bool} {n : Nat}  {h1 : gi_H}  {v0 : Nat}  {h : gi_H} (e : b_X3_findLeasts_29 n v0 h = some h1) : gx_Z mX3_findLeasts al al 0 0 29 [(0, .ref v0)] [] (gi_cv h) (.inl none) (gi_cv h1) := by
  refine gy_iconst dX3_findLeasts_29 ?_
  refine gx_istore_n (ls2 := [(1, .int (gI (1 : Int))), (0, .ref v0)]) dX3_findLeasts_30 rfl (Nat.le_of_ble_eq_true rfl) rfl ?_
  refine gy_iconst dX3_findLeasts_31 ?_
  refine gx_istore_n (ls2 := [(2, .int (gI (0 : Int))), (1, .int (gI (1 : Int))), (0, .ref v0)]) dX3_findLeasts_32 rfl (Nat.le_of_ble_eq_true rfl) rfl ?_
  refine gx_sub (ls2 := [(0, .ref v0), (1, .int (gI (1 : Int))), (2, .int (gI (0 : Int)))]) [2, 1, 0] rfl ?_
  exact zl_X3_findLeasts_33  n _ _ _ _ e
set_option maxRecDepth 100000 in
def b_X3_findLeasts_10 (n : Nat) (r10 : Nat → Int → gi_H → Option (gi_H)) (v0 : Nat) (v1 : Int)  (h : gi_H) : Option (gi_H) :=
  Option.bind (gi_rg v1) fun _ => if (8 : Int) ≤ v1 then (b_X3_findLeasts_29 n  v0 h) else (Option.bind (gi_gR h v0 2 8) fun t41 => Option.bind (gi_s1 h t41 v1 (1 : Int)) fun h42 => gx_nm (v1 + (1 : Int)) fun t43 => r10 v0 t43 h42)
set_option maxRecDepth 100000 in
theorem zb_X3_findLeasts_10 {al : Bool} {n : Nat} {r10 : Nat → Int → gi_H → Option (gi_H)} {h1 : gi_H} (hr10 : ∀ (x0 : Nat) (x1 : Int) (hh : gi_H), r10 x0 x1 hh = some h1 → gx_Z mX3_findLeasts al al 0 0 10 [(0, .ref x0), (1, .int (gI x1))] [] (gi_cv hh) (.inl none) (gi_cv h1)) {v0 : Nat} {v1 : Int}  {h : gi_H} (e : b_X3_findLeasts_10 n r10 v0 v1 h = some h1) : gx_Z mX3_findLeasts al al 0 0 10 [(0, .ref v0), (1, .int (gI v1))] [] (gi_cv h) (.inl none) (gi_cv h1) := by
  refine gx_iload_n dX3_findLeasts_10 rfl 1 rfl ?_
  refine gy_bipush dX3_findLeasts_11 gcb_8 ?_
  refine gx_bE e (fun _ g3 e => ?_)
  refine gx_iE e (fun c4 e => ?_) (fun c4 e => ?_)
  · refine gy_icmp_ge (tgt := 29) (gi_rgS g3) (by decide) dX3_findLeasts_13 (by decide) (fun _ => ?_) (fun z => absurd c4 z)
    refine gx_sub (ls2 := [(0, .ref v0)]) [0] rfl ?_
    exact zb_X3_findLeasts_29  e
  · refine gy_icmp_ge (tgt := 29) (gi_rgS g3) (by decide) dX3_findLeasts_13 (by decide) (fun z => absurd z c4) (fun _ => ?_)
    refine gx_aload_n dX3_findLeasts_16 rfl 0 rfl ?_
    refine gx_bE e (fun t41 ht41 e => ?_)
    refine gy_fR ht41 dX3_findLeasts_17 gf_RX3_21_2_8 (by decide) gkN_2_8 gkR_2_8 ?_
    refine gx_iload_n dX3_findLeasts_20 rfl 1 rfl ?_
    refine gy_iconst dX3_findLeasts_21 ?_
    refine gx_bE e (fun h42 hh42 e => ?_)
    refine gy_t1 hh42 dX3_findLeasts_22 ?_
    refine gx_nE e (fun t43 ht43 e => ?_)
    refine gy_iinc (v := t43) (ls2 := [(1, .int (gI t43)), (0, .ref v0)]) dX3_findLeasts_23 1 rfl ht43 (Nat.le_of_ble_eq_true rfl) rfl ?_
    refine gx_goto (tgt := 10) dX3_findLeasts_26 (by decide) ?_
    refine gx_sub (ls2 := [(0, .ref v0), (1, .int (gI t43))]) [1, 0] rfl ?_
    exact hr10 _ _ _ e
def l_X3_findLeasts_10 (n : Nat)  : Nat → Nat → Int → gi_H → Option (gi_H)
  | 0, _, _, _ => none
  | k + 1, v0, v1, h => b_X3_findLeasts_10 n  (l_X3_findLeasts_10 n  k) v0 v1 h
theorem zl_X3_findLeasts_10 {al : Bool} {n : Nat}  {h1 : gi_H}  : ∀ (k : Nat) (v0 : Nat) (v1 : Int) (h : gi_H), l_X3_findLeasts_10 n  k v0 v1 h = some h1 → gx_Z mX3_findLeasts al al 0 0 10 [(0, .ref v0), (1, .int (gI v1))] [] (gi_cv h) (.inl none) (gi_cv h1)
  | 0, _, _, _, e => gx_0E e
  | k + 1, _, _, _, e => zb_X3_findLeasts_10 (n := n)  (zl_X3_findLeasts_10  k) e
set_option maxRecDepth 100000 in
def f_X3_findLeasts (n : Nat) (v0 : Nat) (h : gi_H) : Option (gi_H) :=
  Option.bind (gi_gR h v0 2 8) fun t1 => Option.bind (f_J7_fill_53178 n t1 (-1 : Int) h) fun q2 => l_X3_findLeasts_10 n  n v0 (0 : Int) q2
set_option maxRecDepth 100000 in
theorem z_X3_findLeasts {al : Bool} {n : Nat} {v0 : Nat} {h : gi_H} {h1 : gi_H} (e : f_X3_findLeasts n v0 h = some h1) : gx_Cw mX3_findLeasts al [.ref v0] (gi_cv h) (.inl none) (gi_cv h1) := by
  refine gx_enter (by decide +kernel) rfl (Nat.le_of_ble_eq_true rfl) ?_
  show gx_Z mX3_findLeasts al al 0 0 0 [(0, .ref v0)] [] (gi_cv h) (.inl none) (gi_cv h1)
  refine gx_aload_n dX3_findLeasts_0 rfl 0 rfl ?_
  refine gx_bE e (fun t1 ht1 e => ?_)
  refine gy_fR ht1 dX3_findLeasts_1 gf_RX3_21_2_8 (by decide) gkN_2_8 gkR_2_8 ?_
  refine gy_iconst dX3_findLeasts_4 ?_
  refine gx_bE e (fun q2 hq2 e => ?_)
  refine gx_callS (n := 2) (st := []) (As := [.ref t1, .int (gI (-1 : Int))]) dX3_findLeasts_5 (z_J7_fill_53178 hq2) rfl ⟨rfl, gw_cw_J7_fill_53178, gw_5, gp_J7_fill_53178, ⟨Nat.le_of_ble_eq_true rfl, Nat.le_of_ble_eq_true rfl⟩⟩ gw_399 gw_98 ⟨Nat.le_of_ble_eq_true rfl, Nat.le_of_ble_eq_true rfl⟩ (Nat.le_of_ble_eq_true rfl) (gy_k0 (kc2 := 0) (ks2 := 0) ⟨rfl, rfl⟩ ?_) gy_kn
  refine gy_iconst dX3_findLeasts_8 ?_
  refine gx_istore_n (ls2 := [(1, .int (gI (0 : Int))), (0, .ref v0)]) dX3_findLeasts_9 rfl (Nat.le_of_ble_eq_true rfl) rfl ?_
  refine gx_sub (ls2 := [(0, .ref v0), (1, .int (gI (0 : Int)))]) [1, 0] rfl ?_
  exact zl_X3_findLeasts_10  n _ _ _ e
/-! X3_spell  -/
set_option maxRecDepth 100000 in
def b_X3_spell_54 (n : Nat)    (h : gi_H) : Option (Int) :=
  some (-1 : Int)
set_option maxRecDepth 100000 in
theorem zb_X3_spell_54 {al : Bool} {n : Nat}  {res : Int}    {h : gi_H} (e : b_X3_spell_54 n  h = some res) : gx_Z mX3_spell al al 0 0 54 [] [] (gi_cv h) (.inl (some (.long (gL res)))) (gi_cv h) := by
  refine gy_ldc2 (n := -1) dX3_spell_54 gw_501 (by decide +kernel) ?_
  cases e
  exact gx_lret dX3_spell_57 rfl ⟨Nat.le_of_ble_eq_true rfl, Nat.le_of_ble_eq_true rfl⟩ (fun z => z)
set_option maxRecDepth 100000 in
def b_X3_spell_5 (n : Nat) (r5 : Nat → Int → Int → Int → gi_H → Option (Int)) (v0 : Nat) (v1 : Int) (v2 : Int) (v4 : Int)  (h : gi_H) : Option (Int) :=
  Option.bind (gi_gR h v0 2 0) fun t1 => Option.bind (gi_is h t1 3) fun _ => Option.bind (f_X4_length t1 v1 h) fun q3 => Option.bind (gi_rg v4) fun _ => Option.bind (gi_rg q3) fun _ => if q3 ≤ v4 then (some v2) else (Option.bind (gi_gR h v0 2 0) fun t7 => Option.bind (gi_is h t7 3) fun _ => Option.bind (f_X4_symbol t7 v1 v4 h) fun q9 => Option.bind (gi_rg q9) fun _ => if q9 < 0 then (b_X3_spell_54 n   h) else (if (32 : Int) ≤ q9 then (b_X3_spell_54 n   h) else (Option.bind (gi_gI h v0 2 10) fun t13 => Option.bind (f_X11_has t13 q9 h) fun q14 => Option.bind (gi_rg q14) fun _ => if q14 = 0 then (b_X3_spell_54 n   h) else (Option.bind (gi_gR h v0 2 8) fun t17 => Option.bind (gi_aI h 1 t17 q9) fun t18 => Option.bind (gi_gR h v0 2 9) fun t19 => Option.bind (gi_aL h t19 q9) fun t20 => gx_nm (gi_orL (gi_shlL v2 ((3 : Int) * t18)) t20) fun t21 => gx_nm (v4 + (1 : Int)) fun t22 => r5 v0 v1 t21 t22 h))))
set_option maxRecDepth 100000 in
theorem zb_X3_spell_5 {al : Bool} {n : Nat} {r5 : Nat → Int → Int → Int → gi_H → Option (Int)} {res : Int} (hr5 : ∀ (x0 : Nat) (x1 : Int) (x2 : Int) (x4 : Int) (hh : gi_H), r5 x0 x1 x2 x4 hh = some res → gx_Z mX3_spell al al 0 0 5 [(0, .ref x0), (1, .int (gI x1)), (2, .long (gL x2)), (4, .int (gI x4))] [] (gi_cv hh) (.inl (some (.long (gL res)))) (gi_cv hh)) {v0 : Nat} {v1 : Int} {v2 : Int} {v4 : Int}  {h : gi_H} (e : b_X3_spell_5 n r5 v0 v1 v2 v4 h = some res) : gx_Z mX3_spell al al 0 0 5 [(0, .ref v0), (1, .int (gI v1)), (2, .long (gL v2)), (4, .int (gI v4))] [] (gi_cv h) (.inl (some (.long (gL res)))) (gi_cv h) := by
  refine gx_iload dX3_spell_5 3 rfl ?_
  refine gx_aload_n dX3_spell_7 rfl 0 rfl ?_
  refine gx_bE e (fun t1 ht1 e => ?_)
  refine gy_fR ht1 dX3_spell_8 gf_RX3_37_2_0 (by decide) gkN_2_0 gkR_2_0 ?_
  refine gx_iload_n dX3_spell_11 rfl 1 rfl ?_
  refine gx_bE e (fun _ hu2 e => ?_)
  refine gx_bE e (fun q3 hq3 e => ?_)
  refine gx_callV (n := 1) (st := [.int (gI v4)]) (As := [.int (gI v1)]) (b := t1) dX3_spell_12 (z_X4_length hq3) rfl ⟨rfl, gw_cw_X4_length, gw_3, gp_X4_length, ⟨Nat.le_of_ble_eq_true rfl, Nat.le_of_ble_eq_true rfl⟩⟩ (gi_isS hu2) (by decide) gw_410 gw_411 gw_412 rfl ⟨Nat.le_of_ble_eq_true rfl, Nat.le_of_ble_eq_true rfl⟩ (Nat.le_of_ble_eq_true rfl) (gy_k1 (x := .int (gI q3)) (kc2 := 0) (ks2 := 0) ⟨rfl, rfl⟩ ?_) gy_kn
  refine gx_bE e (fun _ g4 e => ?_)
  refine gx_bE e (fun _ g5 e => ?_)
  refine gx_iE e (fun c6 e => ?_) (fun c6 e => ?_)
  · refine gy_icmp_ge (tgt := 84) (gi_rgS g4) (gi_rgS g5) dX3_spell_15 (by decide) (fun _ => ?_) (fun z => absurd c6 z)
    refine gx_lload_n dX3_spell_84 rfl 2 rfl ?_
    cases e
    exact gx_lret dX3_spell_85 rfl ⟨Nat.le_of_ble_eq_true rfl, Nat.le_of_ble_eq_true rfl⟩ (fun z => z)
  · refine gy_icmp_ge (tgt := 84) (gi_rgS g4) (gi_rgS g5) dX3_spell_15 (by decide) (fun z => absurd z c6) (fun _ => ?_)
    refine gx_aload_n dX3_spell_18 rfl 0 rfl ?_
    refine gx_bE e (fun t7 ht7 e => ?_)
    refine gy_fR ht7 dX3_spell_19 gf_RX3_37_2_0 (by decide) gkN_2_0 gkR_2_0 ?_
    refine gx_iload_n dX3_spell_22 rfl 1 rfl ?_
    refine gx_iload dX3_spell_23 3 rfl ?_
    refine gx_bE e (fun _ hu8 e => ?_)
    refine gx_bE e (fun q9 hq9 e => ?_)
    refine gx_callV (n := 2) (st := []) (As := [.int (gI v1), .int (gI v4)]) (b := t7) dX3_spell_25 (z_X4_symbol hq9) rfl ⟨rfl, gw_cw_X4_symbol, gw_3, gp_X4_symbol, ⟨Nat.le_of_ble_eq_true rfl, Nat.le_of_ble_eq_true rfl⟩⟩ (gi_isS hu8) (by decide) gw_414 gw_415 gw_416 rfl ⟨Nat.le_of_ble_eq_true rfl, Nat.le_of_ble_eq_true rfl⟩ (Nat.le_of_ble_eq_true rfl) (gy_k1 (x := .int (gI q9)) (kc2 := 0) (ks2 := 0) ⟨rfl, rfl⟩ ?_) gy_kn
    refine gx_istore (ls2 := [(5, .int (gI q9)), (0, .ref v0), (1, .int (gI v1)), (2, .long (gL v2)), (4, .int (gI v4))]) dX3_spell_28 (Nat.le_of_ble_eq_true rfl) rfl ?_
    refine gx_iload dX3_spell_30 0 rfl ?_
    refine gx_bE e (fun _ g10 e => ?_)
    refine gx_iE e (fun c11 e => ?_) (fun c11 e => ?_)
    · refine gy_if_lt (tgt := 54) (gi_rgS g10) dX3_spell_32 (by decide) (fun _ => ?_) (fun z => absurd c11 z)
      refine gx_sub (ls2 := []) [] rfl ?_
      exact zb_X3_spell_54  e
    · refine gy_if_lt (tgt := 54) (gi_rgS g10) dX3_spell_32 (by decide) (fun z => absurd z c11) (fun _ => ?_)
      refine gx_iload dX3_spell_35 0 rfl ?_
      refine gy_bipush dX3_spell_37 gcb_32 ?_
      refine gx_iE e (fun c12 e => ?_) (fun c12 e => ?_)
      · refine gy_icmp_ge (tgt := 54) (gi_rgS g10) (by decide) dX3_spell_39 (by decide) (fun _ => ?_) (fun z => absurd c12 z)
        refine gx_sub (ls2 := []) [] rfl ?_
        exact zb_X3_spell_54  e
      · refine gy_icmp_ge (tgt := 54) (gi_rgS g10) (by decide) dX3_spell_39 (by decide) (fun z => absurd z c12) (fun _ => ?_)
        refine gx_aload_n dX3_spell_42 rfl 1 rfl ?_
        refine gx_bE e (fun t13 ht13 e => ?_)
        refine gy_fI ht13 dX3_spell_43 gf_RX3_160_2_10 (by decide) gkN_2_10 gkR_2_10 ?_
        refine gx_iload dX3_spell_46 0 rfl ?_
        refine gx_bE e (fun q14 hq14 e => ?_)
        refine gx_callSN (n := 2) (st := []) (As := [.int (gI t13), .int (gI q9)]) dX3_spell_48 (z_X11_has hq14) rfl ⟨rfl, gw_cw_X11_has, gw_1, gp_X11_has, ⟨Nat.le_of_ble_eq_true rfl, Nat.le_of_ble_eq_true rfl⟩⟩ (host := "Grammarsmith") (by decide +kernel) gw_460 ⟨Nat.le_of_ble_eq_true rfl, Nat.le_of_ble_eq_true rfl⟩ (Nat.le_of_ble_eq_true rfl) (gy_k1 (x := .int (gI q14)) (kc2 := 0) (ks2 := 0) ⟨rfl, rfl⟩ ?_) gy_kn
        refine gx_bE e (fun _ g15 e => ?_)
        refine gx_iE e (fun c16 e => ?_) (fun c16 e => ?_)
        · refine gy_if_ne (tgt := 58) (gi_rgS g15) dX3_spell_51 (by decide) (fun z => absurd c16 z) (fun _ => ?_)
          refine gx_sub (ls2 := []) [] rfl ?_
          exact zb_X3_spell_54  e
        · refine gy_if_ne (tgt := 58) (gi_rgS g15) dX3_spell_51 (by decide) (fun _ => ?_) (fun z => absurd z c16)
          refine gx_lload_n dX3_spell_58 rfl 3 rfl ?_
          refine gy_iconst dX3_spell_59 ?_
          refine gx_aload_n dX3_spell_60 rfl 1 rfl ?_
          refine gx_bE e (fun t17 ht17 e => ?_)
          refine gy_fR ht17 dX3_spell_61 gf_RX3_21_2_8 (by decide) gkN_2_8 gkR_2_8 ?_
          refine gx_iload dX3_spell_64 0 rfl ?_
          refine gx_bE e (fun t18 ht18 e => ?_)
          refine gy_l1 ht18 dX3_spell_66 ?_
          refine gy_imul dX3_spell_67 ?_
          refine gy_lshl dX3_spell_68 ?_
          refine gx_aload_n dX3_spell_69 rfl 1 rfl ?_
          refine gx_bE e (fun t19 ht19 e => ?_)
          refine gy_fR ht19 dX3_spell_70 gf_RX3_24_2_9 (by decide) gkN_2_9 gkR_2_9 ?_
          refine gx_iload dX3_spell_73 0 rfl ?_
          refine gx_bE e (fun t20 ht20 e => ?_)
          refine gy_l2 ht20 dX3_spell_75 ?_
          refine gy_lor dX3_spell_76 ?_
          refine gx_nE e (fun t21 ht21 e => ?_)
          rw [ht21]
          refine gx_lstore_n (ls2 := [(2, .long (gL t21)), (5, .int (gI q9)), (0, .ref v0), (1, .int (gI v1)), (4, .int (gI v4))]) dX3_spell_77 rfl (Nat.le_of_ble_eq_true rfl) rfl ?_
          refine gx_nE e (fun t22 ht22 e => ?_)
          refine gy_iinc (v := t22) (ls2 := [(4, .int (gI t22)), (2, .long (gL t21)), (5, .int (gI q9)), (0, .ref v0), (1, .int (gI v1))]) dX3_spell_78 4 rfl ht22 (Nat.le_of_ble_eq_true rfl) rfl ?_
          refine gx_goto (tgt := 5) dX3_spell_81 (by decide) ?_
          refine gx_sub (ls2 := [(0, .ref v0), (1, .int (gI v1)), (2, .long (gL t21)), (4, .int (gI t22))]) [3, 4, 1, 0] rfl ?_
          exact hr5 _ _ _ _ _ e
def l_X3_spell_5 (n : Nat)  : Nat → Nat → Int → Int → Int → gi_H → Option (Int)
  | 0, _, _, _, _, _ => none
  | k + 1, v0, v1, v2, v4, h => b_X3_spell_5 n  (l_X3_spell_5 n  k) v0 v1 v2 v4 h
theorem zl_X3_spell_5 {al : Bool} {n : Nat}  {res : Int}  : ∀ (k : Nat) (v0 : Nat) (v1 : Int) (v2 : Int) (v4 : Int) (h : gi_H), l_X3_spell_5 n  k v0 v1 v2 v4 h = some res → gx_Z mX3_spell al al 0 0 5 [(0, .ref v0), (1, .int (gI v1)), (2, .long (gL v2)), (4, .int (gI v4))] [] (gi_cv h) (.inl (some (.long (gL res)))) (gi_cv h)
  | 0, _, _, _, _, _, e => gx_0E e
  | k + 1, _, _, _, _, _, e => zb_X3_spell_5 (n := n)  (zl_X3_spell_5  k) e
set_option maxRecDepth 100000 in
def f_X3_spell (n : Nat) (v0 : Nat) (v1 : Int) (h : gi_H) : Option (Int) :=
  l_X3_spell_5 n  n v0 v1 (0 : Int) (0 : Int) h
set_option maxRecDepth 100000 in
theorem z_X3_spell {al : Bool} {n : Nat} {v0 : Nat} {v1 : Int} {h : gi_H} {res : Int} (e : f_X3_spell n v0 v1 h = some res) : gx_Cw mX3_spell al [.ref v0, .int (gI v1)] (gi_cv h) (.inl (some (.long (gL res)))) (gi_cv h) := by
  refine gx_enter (by decide +kernel) rfl (Nat.le_of_ble_eq_true rfl) ?_
  show gx_Z mX3_spell al al 0 0 0 [(0, .ref v0), (1, .int (gI v1))] [] (gi_cv h) (.inl (some (.long (gL res)))) (gi_cv h)
  refine gy_lconst (v := 0) dX3_spell_0 (by decide +kernel) ?_
  refine gx_lstore_n (ls2 := [(2, .long (gL (0 : Int))), (0, .ref v0), (1, .int (gI v1))]) dX3_spell_1 rfl (Nat.le_of_ble_eq_true rfl) rfl ?_
  refine gy_iconst dX3_spell_2 ?_
  refine gx_istore (ls2 := [(4, .int (gI (0 : Int))), (2, .long (gL (0 : Int))), (0, .ref v0), (1, .int (gI v1))]) dX3_spell_3 (Nat.le_of_ble_eq_true rfl) rfl ?_
  refine gx_sub (ls2 := [(0, .ref v0), (1, .int (gI v1)), (2, .long (gL (0 : Int))), (4, .int (gI (0 : Int)))]) [2, 3, 1, 0] rfl ?_
  exact zl_X3_spell_5  n _ _ _ _ _ e
/-! X3_improveSpelling  -/
set_option maxRecDepth 100000 in
def b_X3_improveSpelling_88 (n : Nat)  (v0 : Nat) (v2 : Int) (v4 : Int)  (h : gi_H) : Option (Int × gi_H) :=
  Option.bind (gi_gR h v0 2 9) fun t26 => Option.bind (gi_s2 h t26 v2 v4) fun h27 => Option.bind (gi_gI h27 v0 2 10) fun t28 => Option.bind (gi_pI h27 v0 2 10 (gi_or t28 (gi_shl (1 : Int) v2))) fun h29 => some ((1 : Int), h29)
set_option maxRecDepth 100000 in
theorem zb_X3_improveSpelling_88 {al : Bool} {n : Nat}  {res : Int} {h1 : gi_H}  {v0 : Nat} {v2 : Int} {v4 : Int}  {h : gi_H} (e : b_X3_improveSpelling_88 n v0 v2 v4 h = some (res, h1)) : gx_Z mX3_improveSpelling al al 0 0 88 [(0, .ref v0), (2, .int (gI v2)), (4, .long (gL v4))] [] (gi_cv h) (.inl (some (.int (gI res)))) (gi_cv h1) := by
  refine gx_aload_n dX3_improveSpelling_88 rfl 0 rfl ?_
  refine gx_bE e (fun t26 ht26 e => ?_)
  refine gy_fR ht26 dX3_improveSpelling_89 gf_RX3_24_2_9 (by decide) gkN_2_9 gkR_2_9 ?_
  refine gx_iload_n dX3_improveSpelling_92 rfl 1 rfl ?_
  refine gx_lload dX3_improveSpelling_93 2 rfl ?_
  refine gx_bE e (fun h27 hh27 e => ?_)
  refine gy_t2 hh27 dX3_improveSpelling_95 ?_
  refine gx_aload_n dX3_improveSpelling_96 rfl 0 rfl ?_
  refine gx_dup dX3_improveSpelling_97 rfl ?_
  refine gx_bE e (fun t28 ht28 e => ?_)
  refine gy_fI ht28 dX3_improveSpelling_98 gf_RX3_160_2_10 (by decide) gkN_2_10 gkR_2_10 ?_
  refine gy_iconst dX3_improveSpelling_101 ?_
  refine gx_iload_n dX3_improveSpelling_102 rfl 1 rfl ?_
  refine gy_ishl dX3_improveSpelling_103 ?_
  refine gy_ior dX3_improveSpelling_104 ?_
  refine gx_bE e (fun h29 hh29 e => ?_)
  refine gy_qI hh29 dX3_improveSpelling_105 gf_RX3_160_2_10 (by decide) gkN_2_10 rfl (Or.inl rfl) ?_
  refine gy_iconst dX3_improveSpelling_108 ?_
  cases e
  exact gx_zret (by decide +kernel) dX3_improveSpelling_109 rfl ⟨Nat.le_of_ble_eq_true rfl, Nat.le_of_ble_eq_true rfl⟩ (fun z => z)
set_option maxRecDepth 100000 in
def f_X3_improveSpelling (n : Nat) (v0 : Nat) (v1 : Int) (h : gi_H) : Option (Int × gi_H) :=
  Option.bind (gi_gR h v0 2 0) fun t1 => Option.bind (gi_is h t1 3) fun _ => Option.bind (f_X4_owner t1 v1 h) fun q3 => gx_nm ((16 : Int) + q3) fun t4 => Option.bind (gi_is h v0 2) fun _ => Option.bind (f_X3_leastOfRight n v0 v1 h) fun q6 => Option.bind (gi_rg q6) fun _ => if q6 = (-1 : Int) then (some ((0 : Int), h)) else (if (20 : Int) < q6 then (some ((0 : Int), h)) else (Option.bind (gi_is h v0 2) fun _ => Option.bind (f_X3_leastOf v0 t4 h) fun q11 => Option.bind (gi_rg q11) fun _ => if q6 = q11 then (Option.bind (f_X11_isNonterminal t4 h) fun q14 => Option.bind (gi_rg q14) fun _ => if q14 = 0 then (some ((0 : Int), h)) else (Option.bind (gi_is h v0 2) fun _ => Option.bind (f_X3_spell n v0 v1 h) fun q18 => Option.bind (gi_rgL q18) fun _ => Option.bind (gi_rg (gi_cmp q18 (-1 : Int))) fun _ => if (gi_cmp q18 (-1 : Int)) = 0 then (some ((0 : Int), h)) else (Option.bind (gi_gI h v0 2 10) fun t22 => Option.bind (f_X11_has t22 t4 h) fun q23 => Option.bind (gi_rg q23) fun _ => if q23 = 0 then (b_X3_improveSpelling_88 n  v0 t4 q18 h) else (Option.bind (gi_gR h v0 2 9) fun t30 => Option.bind (gi_aL h t30 t4) fun t31 => Option.bind (gi_rgL t31) fun _ => Option.bind (gi_rg (gi_cmp q18 t31)) fun _ => if (gi_cmp q18 t31) < 0 then (b_X3_improveSpelling_88 n  v0 t4 q18 h) else (some ((0 : Int), h)))))) else (some ((0 : Int), h))))
set_option maxRecDepth 100000 in
theorem z_X3_improveSpelling {al : Bool} {n : Nat} {v0 : Nat} {v1 : Int} {h : gi_H} {res : Int} {h1 : gi_H} (e : f_X3_improveSpelling n v0 v1 h = some (res, h1)) : gx_Cw mX3_improveSpelling al [.ref v0, .int (gI v1)] (gi_cv h) (.inl (some (.int (gI res)))) (gi_cv h1) := by
  refine gx_enter (by decide +kernel) rfl (Nat.le_of_ble_eq_true rfl) ?_
  show gx_Z mX3_improveSpelling al al 0 0 0 [(0, .ref v0), (1, .int (gI v1))] [] (gi_cv h) (.inl (some (.int (gI res)))) (gi_cv h1)
  refine gy_bipush dX3_improveSpelling_0 gcb_16 ?_
  refine gx_aload_n dX3_improveSpelling_2 rfl 0 rfl ?_
  refine gx_bE e (fun t1 ht1 e => ?_)
  refine gy_fR ht1 dX3_improveSpelling_3 gf_RX3_37_2_0 (by decide) gkN_2_0 gkR_2_0 ?_
  refine gx_iload_n dX3_improveSpelling_6 rfl 1 rfl ?_
  refine gx_bE e (fun _ hu2 e => ?_)
  refine gx_bE e (fun q3 hq3 e => ?_)
  refine gx_callV (n := 1) (st := [.int (gI (16 : Int))]) (As := [.int (gI v1)]) (b := t1) dX3_improveSpelling_7 (z_X4_owner hq3) rfl ⟨rfl, gw_cw_X4_owner, gw_3, gp_X4_owner, ⟨Nat.le_of_ble_eq_true rfl, Nat.le_of_ble_eq_true rfl⟩⟩ (gi_isS hu2) (by decide) gw_402 gw_403 gw_404 rfl ⟨Nat.le_of_ble_eq_true rfl, Nat.le_of_ble_eq_true rfl⟩ (Nat.le_of_ble_eq_true rfl) (gy_k1 (x := .int (gI q3)) (kc2 := 0) (ks2 := 0) ⟨rfl, rfl⟩ ?_) gy_kn
  refine gy_iadd dX3_improveSpelling_10 ?_
  refine gx_nE e (fun t4 ht4 e => ?_)
  rw [ht4]
  refine gx_istore_n (ls2 := [(2, .int (gI t4)), (0, .ref v0), (1, .int (gI v1))]) dX3_improveSpelling_11 rfl (Nat.le_of_ble_eq_true rfl) rfl ?_
  refine gx_aload_n dX3_improveSpelling_12 rfl 1 rfl ?_
  refine gx_iload_n dX3_improveSpelling_13 rfl 2 rfl ?_
  refine gx_bE e (fun _ hu5 e => ?_)
  refine gx_bE e (fun q6 hq6 e => ?_)
  refine gx_callV (n := 1) (st := []) (As := [.int (gI v1)]) (b := v0) dX3_improveSpelling_14 (z_X3_leastOfRight hq6) rfl ⟨rfl, gw_cw_X3_leastOfRight, gw_6, gp_X3_leastOfRight, ⟨Nat.le_of_ble_eq_true rfl, Nat.le_of_ble_eq_true rfl⟩⟩ (gi_isS hu5) (by decide) gw_478 gw_480 gs_12 rfl ⟨Nat.le_of_ble_eq_true rfl, Nat.le_of_ble_eq_true rfl⟩ (Nat.le_of_ble_eq_true rfl) (gy_k1 (x := .int (gI q6)) (kc2 := 0) (ks2 := 0) ⟨rfl, rfl⟩ ?_) gy_kn
  refine gx_istore_n (ls2 := [(3, .int (gI q6)), (2, .int (gI t4)), (0, .ref v0), (1, .int (gI v1))]) dX3_improveSpelling_17 rfl (Nat.le_of_ble_eq_true rfl) rfl ?_
  refine gx_iload_n dX3_improveSpelling_18 rfl 0 rfl ?_
  refine gy_iconst dX3_improveSpelling_19 ?_
  refine gx_bE e (fun _ g7 e => ?_)
  refine gx_iE e (fun c8 e => ?_) (fun c8 e => ?_)
  · refine gy_icmp_eq (tgt := 45) (gi_rgS g7) (by decide) dX3_improveSpelling_20 (by decide) (fun _ => ?_) (fun z => absurd c8 z)
    refine gy_iconst dX3_improveSpelling_45 ?_
    cases e
    exact gx_zret (by decide +kernel) dX3_improveSpelling_46 rfl ⟨Nat.le_of_ble_eq_true rfl, Nat.le_of_ble_eq_true rfl⟩ (fun z => z)
  · refine gy_icmp_eq (tgt := 45) (gi_rgS g7) (by decide) dX3_improveSpelling_20 (by decide) (fun z => absurd z c8) (fun _ => ?_)
    refine gx_iload_n dX3_improveSpelling_23 rfl 0 rfl ?_
    refine gy_bipush dX3_improveSpelling_24 gcb_20 ?_
    refine gx_iE e (fun c9 e => ?_) (fun c9 e => ?_)
    · refine gy_icmp_gt (tgt := 45) (gi_rgS g7) (by decide) dX3_improveSpelling_26 (by decide) (fun _ => ?_) (fun z => absurd c9 z)
      refine gy_iconst dX3_improveSpelling_45 ?_
      cases e
      exact gx_zret (by decide +kernel) dX3_improveSpelling_46 rfl ⟨Nat.le_of_ble_eq_true rfl, Nat.le_of_ble_eq_true rfl⟩ (fun z => z)
    · refine gy_icmp_gt (tgt := 45) (gi_rgS g7) (by decide) dX3_improveSpelling_26 (by decide) (fun z => absurd z c9) (fun _ => ?_)
      refine gx_iload_n dX3_improveSpelling_29 rfl 0 rfl ?_
      refine gx_aload_n dX3_improveSpelling_30 rfl 2 rfl ?_
      refine gx_iload_n dX3_improveSpelling_31 rfl 1 rfl ?_
      refine gx_bE e (fun _ hu10 e => ?_)
      refine gx_bE e (fun q11 hq11 e => ?_)
      refine gx_callV (n := 1) (st := [.int (gI q6)]) (As := [.int (gI t4)]) (b := v0) dX3_improveSpelling_32 (z_X3_leastOf hq11) rfl ⟨rfl, gw_cw_X3_leastOf, gw_6, gp_X3_leastOf, ⟨Nat.le_of_ble_eq_true rfl, Nat.le_of_ble_eq_true rfl⟩⟩ (gi_isS hu10) (by decide) gw_482 gw_484 gs_13 rfl ⟨Nat.le_of_ble_eq_true rfl, Nat.le_of_ble_eq_true rfl⟩ (Nat.le_of_ble_eq_true rfl) (gy_k1 (x := .int (gI q11)) (kc2 := 0) (ks2 := 0) ⟨rfl, rfl⟩ ?_) gy_kn
      refine gx_bE e (fun _ g12 e => ?_)
      refine gx_iE e (fun c13 e => ?_) (fun c13 e => ?_)
      · refine gy_icmp_ne (tgt := 45) (gi_rgS g7) (gi_rgS g12) dX3_improveSpelling_35 (by decide) (fun z => absurd c13 z) (fun _ => ?_)
        refine gx_iload_n dX3_improveSpelling_38 rfl 1 rfl ?_
        refine gx_bE e (fun q14 hq14 e => ?_)
        refine gx_callSN (n := 1) (st := []) (As := [.int (gI t4)]) dX3_improveSpelling_39 (z_X11_isNonterminal hq14) rfl ⟨rfl, gw_cw_X11_isNonterminal, gw_1, gp_X11_isNonterminal, ⟨Nat.le_of_ble_eq_true rfl, Nat.le_of_ble_eq_true rfl⟩⟩ (host := "Grammarsmith") (by decide +kernel) gw_438 ⟨Nat.le_of_ble_eq_true rfl, Nat.le_of_ble_eq_true rfl⟩ (Nat.le_of_ble_eq_true rfl) (gy_k1 (x := .int (gI q14)) (kc2 := 0) (ks2 := 0) ⟨rfl, rfl⟩ ?_) gy_kn
        refine gx_bE e (fun _ g15 e => ?_)
        refine gx_iE e (fun c16 e => ?_) (fun c16 e => ?_)
        · refine gy_if_ne (tgt := 47) (gi_rgS g15) dX3_improveSpelling_42 (by decide) (fun z => absurd c16 z) (fun _ => ?_)
          refine gy_iconst dX3_improveSpelling_45 ?_
          cases e
          exact gx_zret (by decide +kernel) dX3_improveSpelling_46 rfl ⟨Nat.le_of_ble_eq_true rfl, Nat.le_of_ble_eq_true rfl⟩ (fun z => z)
        · refine gy_if_ne (tgt := 47) (gi_rgS g15) dX3_improveSpelling_42 (by decide) (fun _ => ?_) (fun z => absurd z c16)
          refine gx_aload_n dX3_improveSpelling_47 rfl 2 rfl ?_
          refine gx_iload_n dX3_improveSpelling_48 rfl 3 rfl ?_
          refine gx_bE e (fun _ hu17 e => ?_)
          refine gx_bE e (fun q18 hq18 e => ?_)
          refine gx_callV (n := 1) (st := []) (As := [.int (gI v1)]) (b := v0) dX3_improveSpelling_49 (z_X3_spell hq18) rfl ⟨rfl, gw_cw_X3_spell, gw_6, gp_X3_spell, ⟨Nat.le_of_ble_eq_true rfl, Nat.le_of_ble_eq_true rfl⟩⟩ (gi_isS hu17) (by decide) gw_497 gw_499 gs_16 rfl ⟨Nat.le_of_ble_eq_true rfl, Nat.le_of_ble_eq_true rfl⟩ (Nat.le_of_ble_eq_true rfl) (gy_k1 (x := .long (gL q18)) (kc2 := 0) (ks2 := 0) ⟨rfl, rfl⟩ ?_) gy_kn
          refine gx_lstore (ls2 := [(4, .long (gL q18)), (3, .int (gI q6)), (2, .int (gI t4)), (0, .ref v0), (1, .int (gI v1))]) dX3_improveSpelling_52 (Nat.le_of_ble_eq_true rfl) rfl ?_
          refine gx_lload dX3_improveSpelling_54 0 rfl ?_
          refine gy_ldc2 (n := -1) dX3_improveSpelling_56 gw_501 (by decide +kernel) ?_
          refine gx_bE e (fun _ g19 e => ?_)
          refine gy_lcmp (gi_rgLS g19) (by decide) dX3_improveSpelling_59 ?_
          refine gx_bE e (fun _ g20 e => ?_)
          refine gx_iE e (fun c21 e => ?_) (fun c21 e => ?_)
          · refine gy_if_eq (tgt := 86) (gi_rgS g20) dX3_improveSpelling_60 (by decide) (fun _ => ?_) (fun z => absurd c21 z)
            refine gy_iconst dX3_improveSpelling_86 ?_
            cases e
            exact gx_zret (by decide +kernel) dX3_improveSpelling_87 rfl ⟨Nat.le_of_ble_eq_true rfl, Nat.le_of_ble_eq_true rfl⟩ (fun z => z)
          · refine gy_if_eq (tgt := 86) (gi_rgS g20) dX3_improveSpelling_60 (by decide) (fun z => absurd z c21) (fun _ => ?_)
            refine gx_aload_n dX3_improveSpelling_63 rfl 3 rfl ?_
            refine gx_bE e (fun t22 ht22 e => ?_)
            refine gy_fI ht22 dX3_improveSpelling_64 gf_RX3_160_2_10 (by decide) gkN_2_10 gkR_2_10 ?_
            refine gx_iload_n dX3_improveSpelling_67 rfl 2 rfl ?_
            refine gx_bE e (fun q23 hq23 e => ?_)
            refine gx_callSN (n := 2) (st := []) (As := [.int (gI t22), .int (gI t4)]) dX3_improveSpelling_68 (z_X11_has hq23) rfl ⟨rfl, gw_cw_X11_has, gw_1, gp_X11_has, ⟨Nat.le_of_ble_eq_true rfl, Nat.le_of_ble_eq_true rfl⟩⟩ (host := "Grammarsmith") (by decide +kernel) gw_460 ⟨Nat.le_of_ble_eq_true rfl, Nat.le_of_ble_eq_true rfl⟩ (Nat.le_of_ble_eq_true rfl) (gy_k1 (x := .int (gI q23)) (kc2 := 0) (ks2 := 0) ⟨rfl, rfl⟩ ?_) gy_kn
            refine gx_bE e (fun _ g24 e => ?_)
            refine gx_iE e (fun c25 e => ?_) (fun c25 e => ?_)
            · refine gy_if_eq (tgt := 88) (gi_rgS g24) dX3_improveSpelling_71 (by decide) (fun _ => ?_) (fun z => absurd c25 z)
              refine gx_sub (ls2 := [(0, .ref v0), (2, .int (gI t4)), (4, .long (gL q18))]) [3, 2, 0] rfl ?_
              exact zb_X3_improveSpelling_88  e
            · refine gy_if_eq (tgt := 88) (gi_rgS g24) dX3_improveSpelling_71 (by decide) (fun z => absurd z c25) (fun _ => ?_)
              refine gx_lload dX3_improveSpelling_74 0 rfl ?_
              refine gx_aload_n dX3_improveSpelling_76 rfl 3 rfl ?_
              refine gx_bE e (fun t30 ht30 e => ?_)
              refine gy_fR ht30 dX3_improveSpelling_77 gf_RX3_24_2_9 (by decide) gkN_2_9 gkR_2_9 ?_
              refine gx_iload_n dX3_improveSpelling_80 rfl 2 rfl ?_
              refine gx_bE e (fun t31 ht31 e => ?_)
              refine gy_l2 ht31 dX3_improveSpelling_81 ?_
              refine gx_bE e (fun _ g32 e => ?_)
              refine gy_lcmp (gi_rgLS g19) (gi_rgLS g32) dX3_improveSpelling_82 ?_
              refine gx_bE e (fun _ g33 e => ?_)
              refine gx_iE e (fun c34 e => ?_) (fun c34 e => ?_)
              · refine gy_if_lt (tgt := 88) (gi_rgS g33) dX3_improveSpelling_83 (by decide) (fun _ => ?_) (fun z => absurd c34 z)
                refine gx_sub (ls2 := [(0, .ref v0), (2, .int (gI t4)), (4, .long (gL q18))]) [3, 2, 0] rfl ?_
                exact zb_X3_improveSpelling_88  e
              · refine gy_if_lt (tgt := 88) (gi_rgS g33) dX3_improveSpelling_83 (by decide) (fun z => absurd z c34) (fun _ => ?_)
                refine gy_iconst dX3_improveSpelling_86 ?_
                cases e
                exact gx_zret (by decide +kernel) dX3_improveSpelling_87 rfl ⟨Nat.le_of_ble_eq_true rfl, Nat.le_of_ble_eq_true rfl⟩ (fun z => z)
      · refine gy_icmp_ne (tgt := 45) (gi_rgS g7) (gi_rgS g12) dX3_improveSpelling_35 (by decide) (fun _ => ?_) (fun z => absurd z c13)
        refine gy_iconst dX3_improveSpelling_45 ?_
        cases e
        exact gx_zret (by decide +kernel) dX3_improveSpelling_46 rfl ⟨Nat.le_of_ble_eq_true rfl, Nat.le_of_ble_eq_true rfl⟩ (fun z => z)
/-! X3_findSpellings  -/
set_option maxRecDepth 100000 in
def b_X3_findSpellings_72 (n : Nat) (r33 : Nat → Int → Int → gi_H → Option (gi_H)) (v0 : Nat) (v1 : Int) (v2 : Int)  (h : gi_H) : Option (gi_H) :=
  gx_nm (v2 + (1 : Int)) fun t14 => r33 v0 v1 t14 h
set_option maxRecDepth 100000 in
theorem zb_X3_findSpellings_72 {al : Bool} {n : Nat} {r33 : Nat → Int → Int → gi_H → Option (gi_H)} {h1 : gi_H} (hr33 : ∀ (x0 : Nat) (x1 : Int) (x2 : Int) (hh : gi_H), r33 x0 x1 x2 hh = some h1 → gx_Z mX3_findSpellings al al 0 0 33 [(0, .ref x0), (1, .int (gI x1)), (2, .int (gI x2))] [] (gi_cv hh) (.inl none) (gi_cv h1)) {v0 : Nat} {v1 : Int} {v2 : Int}  {h : gi_H} (e : b_X3_findSpellings_72 n r33 v0 v1 v2 h = some h1) : gx_Z mX3_findSpellings al al 0 0 72 [(0, .ref v0), (1, .int (gI v1)), (2, .int (gI v2))] [] (gi_cv h) (.inl none) (gi_cv h1) := by
  refine gx_nE e (fun t14 ht14 e => ?_)
  refine gy_iinc (v := t14) (ls2 := [(2, .int (gI t14)), (0, .ref v0), (1, .int (gI v1))]) dX3_findSpellings_72 2 rfl ht14 (Nat.le_of_ble_eq_true rfl) rfl ?_
  refine gx_goto (tgt := 33) dX3_findSpellings_75 (by decide) ?_
  refine gx_sub (ls2 := [(0, .ref v0), (1, .int (gI v1)), (2, .int (gI t14))]) [1, 2, 0] rfl ?_
  exact hr33 _ _ _ _ e
set_option maxRecDepth 100000 in
def b_X3_findSpellings_47 (n : Nat) (r33 : Nat → Int → Int → gi_H → Option (gi_H)) (r47 : Nat → Int → Int → Int → gi_H → Option (gi_H)) (v0 : Nat) (v1 : Int) (v2 : Int) (v3 : Int)  (h : gi_H) : Option (gi_H) :=
  Option.bind (gi_gR h v0 2 0) fun t8 => Option.bind (gi_is h t8 3) fun _ => Option.bind (f_X4_count t8 h) fun q10 => Option.bind (gi_rg v3) fun _ => Option.bind (gi_rg q10) fun _ => if q10 ≤ v3 then (b_X3_findSpellings_72 n r33 v0 v1 v2 h) else (Option.bind (gi_is h v0 2) fun _ => Option.bind (f_X3_improveSpelling n v0 v3 h) fun q16 => gx_nm (gi_or v1 q16.1) fun t17 => gx_nm (v3 + (1 : Int)) fun t18 => r47 v0 t17 v2 t18 q16.2)
set_option maxRecDepth 100000 in
theorem zb_X3_findSpellings_47 {al : Bool} {n : Nat} {r33 : Nat → Int → Int → gi_H → Option (gi_H)} {r47 : Nat → Int → Int → Int → gi_H → Option (gi_H)} {h1 : gi_H} (hr33 : ∀ (x0 : Nat) (x1 : Int) (x2 : Int) (hh : gi_H), r33 x0 x1 x2 hh = some h1 → gx_Z mX3_findSpellings al al 0 0 33 [(0, .ref x0), (1, .int (gI x1)), (2, .int (gI x2))] [] (gi_cv hh) (.inl none) (gi_cv h1)) (hr47 : ∀ (x0 : Nat) (x1 : Int) (x2 : Int) (x3 : Int) (hh : gi_H), r47 x0 x1 x2 x3 hh = some h1 → gx_Z mX3_findSpellings al al 0 0 47 [(0, .ref x0), (1, .int (gI x1)), (2, .int (gI x2)), (3, .int (gI x3))] [] (gi_cv hh) (.inl none) (gi_cv h1)) {v0 : Nat} {v1 : Int} {v2 : Int} {v3 : Int}  {h : gi_H} (e : b_X3_findSpellings_47 n r33 r47 v0 v1 v2 v3 h = some h1) : gx_Z mX3_findSpellings al al 0 0 47 [(0, .ref v0), (1, .int (gI v1)), (2, .int (gI v2)), (3, .int (gI v3))] [] (gi_cv h) (.inl none) (gi_cv h1) := by
  refine gx_iload_n dX3_findSpellings_47 rfl 3 rfl ?_
  refine gx_aload_n dX3_findSpellings_48 rfl 0 rfl ?_
  refine gx_bE e (fun t8 ht8 e => ?_)
  refine gy_fR ht8 dX3_findSpellings_49 gf_RX3_37_2_0 (by decide) gkN_2_0 gkR_2_0 ?_
  refine gx_bE e (fun _ hu9 e => ?_)
  refine gx_bE e (fun q10 hq10 e => ?_)
  refine gx_callV (n := 0) (st := [.int (gI v3)]) (As := []) (b := t8) dX3_findSpellings_52 (z_X4_count hq10) rfl ⟨rfl, gw_cw_X4_count, gw_3, gp_X4_count, ⟨Nat.le_of_ble_eq_true rfl, Nat.le_of_ble_eq_true rfl⟩⟩ (gi_isS hu9) (by decide) gw_401 gw_384 gw_385 rfl ⟨Nat.le_of_ble_eq_true rfl, Nat.le_of_ble_eq_true rfl⟩ (Nat.le_of_ble_eq_true rfl) (gy_k1 (x := .int (gI q10)) (kc2 := 0) (ks2 := 0) ⟨rfl, rfl⟩ ?_) gy_kn
  refine gx_bE e (fun _ g11 e => ?_)
  refine gx_bE e (fun _ g12 e => ?_)
  refine gx_iE e (fun c13 e => ?_) (fun c13 e => ?_)
  · refine gy_icmp_ge (tgt := 72) (gi_rgS g11) (gi_rgS g12) dX3_findSpellings_55 (by decide) (fun _ => ?_) (fun z => absurd c13 z)
    refine gx_sub (ls2 := [(0, .ref v0), (1, .int (gI v1)), (2, .int (gI v2))]) [0, 1, 2] rfl ?_
    exact zb_X3_findSpellings_72 hr33 e
  · refine gy_icmp_ge (tgt := 72) (gi_rgS g11) (gi_rgS g12) dX3_findSpellings_55 (by decide) (fun z => absurd z c13) (fun _ => ?_)
    refine gx_iload_n dX3_findSpellings_58 rfl 1 rfl ?_
    refine gx_aload_n dX3_findSpellings_59 rfl 0 rfl ?_
    refine gx_iload_n dX3_findSpellings_60 rfl 3 rfl ?_
    refine gx_bE e (fun _ hu15 e => ?_)
    refine gx_bE e (fun q16 hq16 e => ?_)
    refine gx_callV (n := 1) (st := [.int (gI v1)]) (As := [.int (gI v3)]) (b := v0) dX3_findSpellings_61 (z_X3_improveSpelling hq16) rfl ⟨rfl, gw_cw_X3_improveSpelling, gw_6, gp_X3_improveSpelling, ⟨Nat.le_of_ble_eq_true rfl, Nat.le_of_ble_eq_true rfl⟩⟩ (gi_isS hu15) (by decide) gw_493 gw_495 gs_15 rfl ⟨Nat.le_of_ble_eq_true rfl, Nat.le_of_ble_eq_true rfl⟩ (Nat.le_of_ble_eq_true rfl) (gy_k1 (x := .int (gI q16.1)) (kc2 := 0) (ks2 := 0) ⟨rfl, rfl⟩ ?_) gy_kn
    refine gy_ior dX3_findSpellings_64 ?_
    refine gx_nE e (fun t17 ht17 e => ?_)
    rw [ht17]
    refine gx_istore_n (ls2 := [(1, .int (gI t17)), (0, .ref v0), (2, .int (gI v2)), (3, .int (gI v3))]) dX3_findSpellings_65 rfl (Nat.le_of_ble_eq_true rfl) rfl ?_
    refine gx_nE e (fun t18 ht18 e => ?_)
    refine gy_iinc (v := t18) (ls2 := [(3, .int (gI t18)), (1, .int (gI t17)), (0, .ref v0), (2, .int (gI v2))]) dX3_findSpellings_66 3 rfl ht18 (Nat.le_of_ble_eq_true rfl) rfl ?_
    refine gx_goto (tgt := 47) dX3_findSpellings_69 (by decide) ?_
    refine gx_sub (ls2 := [(0, .ref v0), (1, .int (gI t17)), (2, .int (gI v2)), (3, .int (gI t18))]) [2, 1, 3, 0] rfl ?_
    exact hr47 _ _ _ _ _ e
def l_X3_findSpellings_47 (n : Nat) (r33 : Nat → Int → Int → gi_H → Option (gi_H)) : Nat → Nat → Int → Int → Int → gi_H → Option (gi_H)
  | 0, _, _, _, _, _ => none
  | k + 1, v0, v1, v2, v3, h => b_X3_findSpellings_47 n r33 (l_X3_findSpellings_47 n r33 k) v0 v1 v2 v3 h
theorem zl_X3_findSpellings_47 {al : Bool} {n : Nat} {r33 : Nat → Int → Int → gi_H → Option (gi_H)} {h1 : gi_H} (hr33 : ∀ (x0 : Nat) (x1 : Int) (x2 : Int) (hh : gi_H), r33 x0 x1 x2 hh = some h1 → gx_Z mX3_findSpellings al al 0 0 33 [(0, .ref x0), (1, .int (gI x1)), (2, .int (gI x2))] [] (gi_cv hh) (.inl none) (gi_cv h1)) : ∀ (k : Nat) (v0 : Nat) (v1 : Int) (v2 : Int) (v3 : Int) (h : gi_H), l_X3_findSpellings_47 n r33 k v0 v1 v2 v3 h = some h1 → gx_Z mX3_findSpellings al al 0 0 47 [(0, .ref v0), (1, .int (gI v1)), (2, .int (gI v2)), (3, .int (gI v3))] [] (gi_cv h) (.inl none) (gi_cv h1)
  | 0, _, _, _, _, _, e => gx_0E e
  | k + 1, _, _, _, _, _, e => zb_X3_findSpellings_47 (n := n) hr33 (zl_X3_findSpellings_47 hr33 k) e
set_option maxRecDepth 100000 in
def b_X3_findSpellings_33 (n : Nat) (r33 : Nat → Int → Int → gi_H → Option (gi_H)) (v0 : Nat) (v1 : Int) (v2 : Int)  (h : gi_H) : Option (gi_H) :=
  Option.bind (gi_rg v2) fun _ => if (1000000 : Int) ≤ v2 then (some h) else (Option.bind (gi_rg v1) fun _ => if v1 = 0 then (some h) else (l_X3_findSpellings_47 n r33 n v0 (0 : Int) v2 (0 : Int) h))
set_option maxRecDepth 100000 in
theorem zb_X3_findSpellings_33 {al : Bool} {n : Nat} {r33 : Nat → Int → Int → gi_H → Option (gi_H)} {h1 : gi_H} (hr33 : ∀ (x0 : Nat) (x1 : Int) (x2 : Int) (hh : gi_H), r33 x0 x1 x2 hh = some h1 → gx_Z mX3_findSpellings al al 0 0 33 [(0, .ref x0), (1, .int (gI x1)), (2, .int (gI x2))] [] (gi_cv hh) (.inl none) (gi_cv h1)) {v0 : Nat} {v1 : Int} {v2 : Int}  {h : gi_H} (e : b_X3_findSpellings_33 n r33 v0 v1 v2 h = some h1) : gx_Z mX3_findSpellings al al 0 0 33 [(0, .ref v0), (1, .int (gI v1)), (2, .int (gI v2))] [] (gi_cv h) (.inl none) (gi_cv h1) := by
  refine gx_iload_n dX3_findSpellings_33 rfl 2 rfl ?_
  refine gy_ldc (n := 1000000) dX3_findSpellings_34 gw_400 (by decide +kernel) ?_
  refine gx_bE e (fun _ g4 e => ?_)
  refine gx_iE e (fun c5 e => ?_) (fun c5 e => ?_)
  · refine gy_icmp_ge (tgt := 78) (gi_rgS g4) (by decide) dX3_findSpellings_36 (by decide) (fun _ => ?_) (fun z => absurd c5 z)
    cases e
    exact gx_vret dX3_findSpellings_78 rfl ⟨Nat.le_of_ble_eq_true rfl, Nat.le_of_ble_eq_true rfl⟩ (fun z => z)
  · refine gy_icmp_ge (tgt := 78) (gi_rgS g4) (by decide) dX3_findSpellings_36 (by decide) (fun z => absurd z c5) (fun _ => ?_)
    refine gx_iload_n dX3_findSpellings_39 rfl 1 rfl ?_
    refine gx_bE e (fun _ g6 e => ?_)
    refine gx_iE e (fun c7 e => ?_) (fun c7 e => ?_)
    · refine gy_if_eq (tgt := 78) (gi_rgS g6) dX3_findSpellings_40 (by decide) (fun _ => ?_) (fun z => absurd c7 z)
      cases e
      exact gx_vret dX3_findSpellings_78 rfl ⟨Nat.le_of_ble_eq_true rfl, Nat.le_of_ble_eq_true rfl⟩ (fun z => z)
    · refine gy_if_eq (tgt := 78) (gi_rgS g6) dX3_findSpellings_40 (by decide) (fun z => absurd z c7) (fun _ => ?_)
      refine gy_iconst dX3_findSpellings_43 ?_
      refine gx_istore_n (ls2 := [(1, .int (gI (0 : Int))), (0, .ref v0), (2, .int (gI v2))]) dX3_findSpellings_44 rfl (Nat.le_of_ble_eq_true rfl) rfl ?_
      refine gy_iconst dX3_findSpellings_45 ?_
      refine gx_istore_n (ls2 := [(3, .int (gI (0 : Int))), (1, .int (gI (0 : Int))), (0, .ref v0), (2, .int (gI v2))]) dX3_findSpellings_46 rfl (Nat.le_of_ble_eq_true rfl) rfl ?_
      refine gx_sub (ls2 := [(0, .ref v0), (1, .int (gI (0 : Int))), (2, .int (gI v2)), (3, .int (gI (0 : Int)))]) [2, 1, 3, 0] rfl ?_
      exact zl_X3_findSpellings_47 hr33 n _ _ _ _ _ e
def l_X3_findSpellings_33 (n : Nat)  : Nat → Nat → Int → Int → gi_H → Option (gi_H)
  | 0, _, _, _, _ => none
  | k + 1, v0, v1, v2, h => b_X3_findSpellings_33 n  (l_X3_findSpellings_33 n  k) v0 v1 v2 h
theorem zl_X3_findSpellings_33 {al : Bool} {n : Nat}  {h1 : gi_H}  : ∀ (k : Nat) (v0 : Nat) (v1 : Int) (v2 : Int) (h : gi_H), l_X3_findSpellings_33 n  k v0 v1 v2 h = some h1 → gx_Z mX3_findSpellings al al 0 0 33 [(0, .ref v0), (1, .int (gI v1)), (2, .int (gI v2))] [] (gi_cv h) (.inl none) (gi_cv h1)
  | 0, _, _, _, _, e => gx_0E e
  | k + 1, _, _, _, _, e => zb_X3_findSpellings_33 (n := n)  (zl_X3_findSpellings_33  k) e
set_option maxRecDepth 100000 in
def b_X3_findSpellings_29 (n : Nat)  (v0 : Nat)  (h : gi_H) : Option (gi_H) :=
  l_X3_findSpellings_33 n  n v0 (1 : Int) (0 : Int) h
set_option maxRecDepth 100000 in
theorem zb_X3_findSpellings_29 {al : Bool} {n : Nat}  {h1 : gi_H}  {v0 : Nat}  {h : gi_H} (e : b_X3_findSpellings_29 n v0 h = some h1) : gx_Z mX3_findSpellings al al 0 0 29 [(0, .ref v0)] [] (gi_cv h) (.inl none) (gi_cv h1) := by
  refine gy_iconst dX3_findSpellings_29 ?_
  refine gx_istore_n (ls2 := [(1, .int (gI (1 : Int))), (0, .ref v0)]) dX3_findSpellings_30 rfl (Nat.le_of_ble_eq_true rfl) rfl ?_
  refine gy_iconst dX3_findSpellings_31 ?_
  refine gx_istore_n (ls2 := [(2, .int (gI (0 : Int))), (1, .int (gI (1 : Int))), (0, .ref v0)]) dX3_findSpellings_32 rfl (Nat.le_of_ble_eq_true rfl) rfl ?_
  refine gx_sub (ls2 := [(0, .ref v0), (1, .int (gI (1 : Int))), (2, .int (gI (0 : Int)))]) [2, 1, 0] rfl ?_
  exact zl_X3_findSpellings_33  n _ _ _ _ e
set_option maxRecDepth 100000 in
def b_X3_findSpellings_9 (n : Nat) (r9 : Nat → Int → gi_H → Option (gi_H)) (v0 : Nat) (v1 : Int)  (h : gi_H) : Option (gi_H) :=
  Option.bind (gi_rg v1) fun _ => if (8 : Int) ≤ v1 then (b_X3_findSpellings_29 n  v0 h) else (Option.bind (gi_gR h v0 2 9) fun t19 => Option.bind (gi_s2 h t19 v1 v1) fun h20 => gx_nm (v1 + (1 : Int)) fun t21 => r9 v0 t21 h20)
set_option maxRecDepth 100000 in
theorem zb_X3_findSpellings_9 {al : Bool} {n : Nat} {r9 : Nat → Int → gi_H → Option (gi_H)} {h1 : gi_H} (hr9 : ∀ (x0 : Nat) (x1 : Int) (hh : gi_H), r9 x0 x1 hh = some h1 → gx_Z mX3_findSpellings al al 0 0 9 [(0, .ref x0), (1, .int (gI x1))] [] (gi_cv hh) (.inl none) (gi_cv h1)) {v0 : Nat} {v1 : Int}  {h : gi_H} (e : b_X3_findSpellings_9 n r9 v0 v1 h = some h1) : gx_Z mX3_findSpellings al al 0 0 9 [(0, .ref v0), (1, .int (gI v1))] [] (gi_cv h) (.inl none) (gi_cv h1) := by
  refine gx_iload_n dX3_findSpellings_9 rfl 1 rfl ?_
  refine gy_bipush dX3_findSpellings_10 gcb_8 ?_
  refine gx_bE e (fun _ g2 e => ?_)
  refine gx_iE e (fun c3 e => ?_) (fun c3 e => ?_)
  · refine gy_icmp_ge (tgt := 29) (gi_rgS g2) (by decide) dX3_findSpellings_12 (by decide) (fun _ => ?_) (fun z => absurd c3 z)
    refine gx_sub (ls2 := [(0, .ref v0)]) [0] rfl ?_
    exact zb_X3_findSpellings_29  e
  · refine gy_icmp_ge (tgt := 29) (gi_rgS g2) (by decide) dX3_findSpellings_12 (by decide) (fun z => absurd z c3) (fun _ => ?_)
    refine gx_aload_n dX3_findSpellings_15 rfl 0 rfl ?_
    refine gx_bE e (fun t19 ht19 e => ?_)
    refine gy_fR ht19 dX3_findSpellings_16 gf_RX3_24_2_9 (by decide) gkN_2_9 gkR_2_9 ?_
    refine gx_iload_n dX3_findSpellings_19 rfl 1 rfl ?_
    refine gx_iload_n dX3_findSpellings_20 rfl 1 rfl ?_
    refine gy_i2l (gi_rgS g2) dX3_findSpellings_21 ?_
    refine gx_bE e (fun h20 hh20 e => ?_)
    refine gy_t2 hh20 dX3_findSpellings_22 ?_
    refine gx_nE e (fun t21 ht21 e => ?_)
    refine gy_iinc (v := t21) (ls2 := [(1, .int (gI t21)), (0, .ref v0)]) dX3_findSpellings_23 1 rfl ht21 (Nat.le_of_ble_eq_true rfl) rfl ?_
    refine gx_goto (tgt := 9) dX3_findSpellings_26 (by decide) ?_
    refine gx_sub (ls2 := [(0, .ref v0), (1, .int (gI t21))]) [1, 0] rfl ?_
    exact hr9 _ _ _ e
def l_X3_findSpellings_9 (n : Nat)  : Nat → Nat → Int → gi_H → Option (gi_H)
  | 0, _, _, _ => none
  | k + 1, v0, v1, h => b_X3_findSpellings_9 n  (l_X3_findSpellings_9 n  k) v0 v1 h
theorem zl_X3_findSpellings_9 {al : Bool} {n : Nat}  {h1 : gi_H}  : ∀ (k : Nat) (v0 : Nat) (v1 : Int) (h : gi_H), l_X3_findSpellings_9 n  k v0 v1 h = some h1 → gx_Z mX3_findSpellings al al 0 0 9 [(0, .ref v0), (1, .int (gI v1))] [] (gi_cv h) (.inl none) (gi_cv h1)
  | 0, _, _, _, e => gx_0E e
  | k + 1, _, _, _, e => zb_X3_findSpellings_9 (n := n)  (zl_X3_findSpellings_9  k) e
set_option maxRecDepth 100000 in
def f_X3_findSpellings (n : Nat) (v0 : Nat) (h : gi_H) : Option (gi_H) :=
  Option.bind (gi_pI h v0 2 10 (255 : Int)) fun h1 => l_X3_findSpellings_9 n  n v0 (0 : Int) h1
set_option maxRecDepth 100000 in
theorem z_X3_findSpellings {al : Bool} {n : Nat} {v0 : Nat} {h : gi_H} {h1 : gi_H} (e : f_X3_findSpellings n v0 h = some h1) : gx_Cw mX3_findSpellings al [.ref v0] (gi_cv h) (.inl none) (gi_cv h1) := by
  refine gx_enter (by decide +kernel) rfl (Nat.le_of_ble_eq_true rfl) ?_
  show gx_Z mX3_findSpellings al al 0 0 0 [(0, .ref v0)] [] (gi_cv h) (.inl none) (gi_cv h1)
  refine gx_aload_n dX3_findSpellings_0 rfl 0 rfl ?_
  refine gy_sipush dX3_findSpellings_1 gcs_255 ?_
  refine gx_bE e (fun h1 hh1 e => ?_)
  refine gy_qI hh1 dX3_findSpellings_4 gf_RX3_160_2_10 (by decide) gkN_2_10 rfl (Or.inl rfl) ?_
  refine gy_iconst dX3_findSpellings_7 ?_
  refine gx_istore_n (ls2 := [(1, .int (gI (0 : Int))), (0, .ref v0)]) dX3_findSpellings_8 rfl (Nat.le_of_ble_eq_true rfl) rfl ?_
  refine gx_sub (ls2 := [(0, .ref v0), (1, .int (gI (0 : Int)))]) [1, 0] rfl ?_
  exact zl_X3_findSpellings_9  n _ _ _ e
/-! X3_findPredictions  -/
set_option maxRecDepth 100000 in
def b_X3_findPredictions_2 (n : Nat) (r2 : Nat → Int → gi_H → Option (gi_H)) (v0 : Nat) (v1 : Int)  (h : gi_H) : Option (gi_H) :=
  Option.bind (gi_rg v1) fun _ => if (24 : Int) ≤ v1 then (some h) else (Option.bind (gi_gR h v0 2 0) fun t3 => Option.bind (gi_is h t3 3) fun _ => Option.bind (f_X4_owner t3 v1 h) fun q5 => Option.bind (gi_is h v0 2) fun _ => Option.bind (f_X3_behind v0 q5 h) fun q7 => Option.bind (gi_gR h v0 2 7) fun t8 => Option.bind (gi_is h v0 2) fun _ => Option.bind (f_X3_beginnings n v0 v1 (0 : Int) h) fun q10 => Option.bind (f_X11_behindOf q10 q7 h) fun q11 => Option.bind (gi_s1 h t8 v1 q11) fun h12 => gx_nm (v1 + (1 : Int)) fun t13 => r2 v0 t13 h12)
set_option maxRecDepth 100000 in
theorem zb_X3_findPredictions_2 {al : Bool} {n : Nat} {r2 : Nat → Int → gi_H → Option (gi_H)} {h1 : gi_H} (hr2 : ∀ (x0 : Nat) (x1 : Int) (hh : gi_H), r2 x0 x1 hh = some h1 → gx_Z mX3_findPredictions al al 0 0 2 [(0, .ref x0), (1, .int (gI x1))] [] (gi_cv hh) (.inl none) (gi_cv h1)) {v0 : Nat} {v1 : Int}  {h : gi_H} (e : b_X3_findPredictions_2 n r2 v0 v1 h = some h1) : gx_Z mX3_findPredictions al al 0 0 2 [(0, .ref v0), (1, .int (gI v1))] [] (gi_cv h) (.inl none) (gi_cv h1) := by
  refine gx_iload_n dX3_findPredictions_2 rfl 1 rfl ?_
  refine gy_bipush dX3_findPredictions_3 gcb_24 ?_
  refine gx_bE e (fun _ g1 e => ?_)
  refine gx_iE e (fun c2 e => ?_) (fun c2 e => ?_)
  · refine gy_icmp_ge (tgt := 43) (gi_rgS g1) (by decide) dX3_findPredictions_5 (by decide) (fun _ => ?_) (fun z => absurd c2 z)
    cases e
    exact gx_vret dX3_findPredictions_43 rfl ⟨Nat.le_of_ble_eq_true rfl, Nat.le_of_ble_eq_true rfl⟩ (fun z => z)
  · refine gy_icmp_ge (tgt := 43) (gi_rgS g1) (by decide) dX3_findPredictions_5 (by decide) (fun z => absurd z c2) (fun _ => ?_)
    refine gx_aload_n dX3_findPredictions_8 rfl 0 rfl ?_
    refine gx_aload_n dX3_findPredictions_9 rfl 0 rfl ?_
    refine gx_bE e (fun t3 ht3 e => ?_)
    refine gy_fR ht3 dX3_findPredictions_10 gf_RX3_37_2_0 (by decide) gkN_2_0 gkR_2_0 ?_
    refine gx_iload_n dX3_findPredictions_13 rfl 1 rfl ?_
    refine gx_bE e (fun _ hu4 e => ?_)
    refine gx_bE e (fun q5 hq5 e => ?_)
    refine gx_callV (n := 1) (st := [.ref v0]) (As := [.int (gI v1)]) (b := t3) dX3_findPredictions_14 (z_X4_owner hq5) rfl ⟨rfl, gw_cw_X4_owner, gw_3, gp_X4_owner, ⟨Nat.le_of_ble_eq_true rfl, Nat.le_of_ble_eq_true rfl⟩⟩ (gi_isS hu4) (by decide) gw_402 gw_403 gw_404 rfl ⟨Nat.le_of_ble_eq_true rfl, Nat.le_of_ble_eq_true rfl⟩ (Nat.le_of_ble_eq_true rfl) (gy_k1 (x := .int (gI q5)) (kc2 := 0) (ks2 := 0) ⟨rfl, rfl⟩ ?_) gy_kn
    refine gx_bE e (fun _ hu6 e => ?_)
    refine gx_bE e (fun q7 hq7 e => ?_)
    refine gx_callV (n := 1) (st := []) (As := [.int (gI q5)]) (b := v0) dX3_findPredictions_17 (z_X3_behind hq7) rfl ⟨rfl, gw_cw_X3_behind, gw_6, gp_X3_behind, ⟨Nat.le_of_ble_eq_true rfl, Nat.le_of_ble_eq_true rfl⟩⟩ (gi_isS hu6) (by decide) gw_440 gw_441 gw_442 rfl ⟨Nat.le_of_ble_eq_true rfl, Nat.le_of_ble_eq_true rfl⟩ (Nat.le_of_ble_eq_true rfl) (gy_k1 (x := .int (gI q7)) (kc2 := 0) (ks2 := 0) ⟨rfl, rfl⟩ ?_) gy_kn
    refine gx_istore_n (ls2 := [(2, .int (gI q7)), (0, .ref v0), (1, .int (gI v1))]) dX3_findPredictions_20 rfl (Nat.le_of_ble_eq_true rfl) rfl ?_
    refine gx_aload_n dX3_findPredictions_21 rfl 1 rfl ?_
    refine gx_bE e (fun t8 ht8 e => ?_)
    refine gy_fR ht8 dX3_findPredictions_22 gf_RX3_18_2_7 (by decide) gkN_2_7 gkR_2_7 ?_
    refine gx_iload_n dX3_findPredictions_25 rfl 2 rfl ?_
    refine gx_aload_n dX3_findPredictions_26 rfl 1 rfl ?_
    refine gx_iload_n dX3_findPredictions_27 rfl 2 rfl ?_
    refine gy_iconst dX3_findPredictions_28 ?_
    refine gx_bE e (fun _ hu9 e => ?_)
    refine gx_bE e (fun q10 hq10 e => ?_)
    refine gx_callV (n := 2) (st := [.int (gI v1), .ref t8]) (As := [.int (gI v1), .int (gI (0 : Int))]) (b := v0) dX3_findPredictions_29 (z_X3_beginnings hq10) rfl ⟨rfl, gw_cw_X3_beginnings, gw_6, gp_X3_beginnings, ⟨Nat.le_of_ble_eq_true rfl, Nat.le_of_ble_eq_true rfl⟩⟩ (gi_isS hu9) (by decide) gw_406 gw_408 gs_1 rfl ⟨Nat.le_of_ble_eq_true rfl, Nat.le_of_ble_eq_true rfl⟩ (Nat.le_of_ble_eq_true rfl) (gy_k1 (x := .int (gI q10)) (kc2 := 0) (ks2 := 0) ⟨rfl, rfl⟩ ?_) gy_kn
    refine gx_iload_n dX3_findPredictions_32 rfl 0 rfl ?_
    refine gx_bE e (fun q11 hq11 e => ?_)
    refine gx_callSN (n := 2) (st := [.int (gI v1), .ref t8]) (As := [.int (gI q10), .int (gI q7)]) dX3_findPredictions_33 (z_X11_behindOf hq11) rfl ⟨rfl, gw_cw_X11_behindOf, gw_1, gp_X11_behindOf, ⟨Nat.le_of_ble_eq_true rfl, Nat.le_of_ble_eq_true rfl⟩⟩ (host := "Grammarsmith") (by decide +kernel) gw_445 ⟨Nat.le_of_ble_eq_true rfl, Nat.le_of_ble_eq_true rfl⟩ (Nat.le_of_ble_eq_true rfl) (gy_k1 (x := .int (gI q11)) (kc2 := 0) (ks2 := 0) ⟨rfl, rfl⟩ ?_) gy_kn
    refine gx_bE e (fun h12 hh12 e => ?_)
    refine gy_t1 hh12 dX3_findPredictions_36 ?_
    refine gx_nE e (fun t13 ht13 e => ?_)
    refine gy_iinc (v := t13) (ls2 := [(1, .int (gI t13)), (2, .int (gI q7)), (0, .ref v0)]) dX3_findPredictions_37 2 rfl ht13 (Nat.le_of_ble_eq_true rfl) rfl ?_
    refine gx_goto (tgt := 2) dX3_findPredictions_40 (by decide) ?_
    refine gx_sub (ls2 := [(0, .ref v0), (1, .int (gI t13))]) [2, 0] rfl ?_
    exact hr2 _ _ _ e
def l_X3_findPredictions_2 (n : Nat)  : Nat → Nat → Int → gi_H → Option (gi_H)
  | 0, _, _, _ => none
  | k + 1, v0, v1, h => b_X3_findPredictions_2 n  (l_X3_findPredictions_2 n  k) v0 v1 h
theorem zl_X3_findPredictions_2 {al : Bool} {n : Nat}  {h1 : gi_H}  : ∀ (k : Nat) (v0 : Nat) (v1 : Int) (h : gi_H), l_X3_findPredictions_2 n  k v0 v1 h = some h1 → gx_Z mX3_findPredictions al al 0 0 2 [(0, .ref v0), (1, .int (gI v1))] [] (gi_cv h) (.inl none) (gi_cv h1)
  | 0, _, _, _, e => gx_0E e
  | k + 1, _, _, _, e => zb_X3_findPredictions_2 (n := n)  (zl_X3_findPredictions_2  k) e
set_option maxRecDepth 100000 in
def f_X3_findPredictions (n : Nat) (v0 : Nat) (h : gi_H) : Option (gi_H) :=
  l_X3_findPredictions_2 n  n v0 (0 : Int) h
set_option maxRecDepth 100000 in
theorem z_X3_findPredictions {al : Bool} {n : Nat} {v0 : Nat} {h : gi_H} {h1 : gi_H} (e : f_X3_findPredictions n v0 h = some h1) : gx_Cw mX3_findPredictions al [.ref v0] (gi_cv h) (.inl none) (gi_cv h1) := by
  refine gx_enter (by decide +kernel) rfl (Nat.le_of_ble_eq_true rfl) ?_
  show gx_Z mX3_findPredictions al al 0 0 0 [(0, .ref v0)] [] (gi_cv h) (.inl none) (gi_cv h1)
  refine gy_iconst dX3_findPredictions_0 ?_
  refine gx_istore_n (ls2 := [(1, .int (gI (0 : Int))), (0, .ref v0)]) dX3_findPredictions_1 rfl (Nat.le_of_ble_eq_true rfl) rfl ?_
  refine gx_sub (ls2 := [(0, .ref v0), (1, .int (gI (0 : Int)))]) [1, 0] rfl ?_
  exact zl_X3_findPredictions_2  n _ _ _ e
/-! X3_findItems  -/
set_option maxRecDepth 100000 in
def b_X3_findItems_82 (n : Nat)  (v0 : Nat)  (h : gi_H) : Option (gi_H) :=
  Option.bind (gi_gR h v0 2 12) fun t7 => Option.bind (gi_gR h v0 2 0) fun t8 => Option.bind (gi_is h t8 3) fun _ => Option.bind (f_X4_top t8 h) fun q10 => Option.bind (gi_s1 h t7 (144 : Int) ((16 : Int) + q10)) fun h11 => Option.bind (gi_gR h11 v0 2 13) fun t12 => Option.bind (gi_s1 h11 t12 (144 : Int) (512 : Int)) fun h13 => some h13
set_option maxRecDepth 100000 in
theorem zb_X3_findItems_82 {al : Bool} {n : Nat}  {h1 : gi_H}  {v0 : Nat}  {h : gi_H} (e : b_X3_findItems_82 n v0 h = some h1) : gx_Z mX3_findItems al al 0 0 82 [(0, .ref v0)] [] (gi_cv h) (.inl none) (gi_cv h1) := by
  refine gx_aload_n dX3_findItems_82 rfl 0 rfl ?_
  refine gx_bE e (fun t7 ht7 e => ?_)
  refine gy_fR ht7 dX3_findItems_83 gf_RX3_31_2_12 (by decide) gkN_2_12 gkR_2_12 ?_
  refine gy_sipush dX3_findItems_86 gcs_144 ?_
  refine gy_bipush dX3_findItems_89 gcb_16 ?_
  refine gx_aload_n dX3_findItems_91 rfl 0 rfl ?_
  refine gx_bE e (fun t8 ht8 e => ?_)
  refine gy_fR ht8 dX3_findItems_92 gf_RX3_37_2_0 (by decide) gkN_2_0 gkR_2_0 ?_
  refine gx_bE e (fun _ hu9 e => ?_)
  refine gx_bE e (fun q10 hq10 e => ?_)
  refine gx_callV (n := 0) (st := [.int (gI (16 : Int)), .int (gI (144 : Int)), .ref t7]) (As := []) (b := t8) dX3_findItems_95 (z_X4_top hq10) rfl ⟨rfl, gw_cw_X4_top, gw_3, gp_X4_top, ⟨Nat.le_of_ble_eq_true rfl, Nat.le_of_ble_eq_true rfl⟩⟩ (gi_isS hu9) (by decide) gw_429 gw_430 gw_431 rfl ⟨Nat.le_of_ble_eq_true rfl, Nat.le_of_ble_eq_true rfl⟩ (Nat.le_of_ble_eq_true rfl) (gy_k1 (x := .int (gI q10)) (kc2 := 0) (ks2 := 0) ⟨rfl, rfl⟩ ?_) gy_kn
  refine gy_iadd dX3_findItems_98 ?_
  refine gx_bE e (fun h11 hh11 e => ?_)
  refine gy_t1 hh11 dX3_findItems_99 ?_
  refine gx_aload_n dX3_findItems_100 rfl 0 rfl ?_
  refine gx_bE e (fun t12 ht12 e => ?_)
  refine gy_fR ht12 dX3_findItems_101 gf_RX3_34_2_13 (by decide) gkN_2_13 gkR_2_13 ?_
  refine gy_sipush dX3_findItems_104 gcs_144 ?_
  refine gy_sipush dX3_findItems_107 gcs_512 ?_
  refine gx_bE e (fun h13 hh13 e => ?_)
  refine gy_t1 hh13 dX3_findItems_110 ?_
  cases e
  exact gx_vret dX3_findItems_111 rfl ⟨Nat.le_of_ble_eq_true rfl, Nat.le_of_ble_eq_true rfl⟩ (fun z => z)
set_option maxRecDepth 100000 in
def b_X3_findItems_76 (n : Nat) (r18 : Nat → Int → gi_H → Option (gi_H)) (v0 : Nat) (v1 : Int)  (h : gi_H) : Option (gi_H) :=
  gx_nm (v1 + (1 : Int)) fun t16 => r18 v0 t16 h
set_option maxRecDepth 100000 in
theorem zb_X3_findItems_76 {al : Bool} {n : Nat} {r18 : Nat → Int → gi_H → Option (gi_H)} {h1 : gi_H} (hr18 : ∀ (x0 : Nat) (x1 : Int) (hh : gi_H), r18 x0 x1 hh = some h1 → gx_Z mX3_findItems al al 0 0 18 [(0, .ref x0), (1, .int (gI x1))] [] (gi_cv hh) (.inl none) (gi_cv h1)) {v0 : Nat} {v1 : Int}  {h : gi_H} (e : b_X3_findItems_76 n r18 v0 v1 h = some h1) : gx_Z mX3_findItems al al 0 0 76 [(0, .ref v0), (1, .int (gI v1))] [] (gi_cv h) (.inl none) (gi_cv h1) := by
  refine gx_nE e (fun t16 ht16 e => ?_)
  refine gy_iinc (v := t16) (ls2 := [(1, .int (gI t16)), (0, .ref v0)]) dX3_findItems_76 1 rfl ht16 (Nat.le_of_ble_eq_true rfl) rfl ?_
  refine gx_goto (tgt := 18) dX3_findItems_79 (by decide) ?_
  refine gx_sub (ls2 := [(0, .ref v0), (1, .int (gI t16))]) [1, 0] rfl ?_
  exact hr18 _ _ _ e
set_option maxRecDepth 100000 in
def b_X3_findItems_26 (n : Nat) (r18 : Nat → Int → gi_H → Option (gi_H)) (r26 : Nat → Int → Int → gi_H → Option (gi_H)) (v0 : Nat) (v1 : Int) (v2 : Int)  (h : gi_H) : Option (gi_H) :=
  Option.bind (gi_rg v2) fun _ => if (5 : Int) ≤ v2 then (b_X3_findItems_76 n r18 v0 v1 h) else (Option.bind (gi_gR h v0 2 12) fun t17 => Option.bind (gi_gR h v0 2 0) fun t18 => Option.bind (gi_is h t18 3) fun _ => Option.bind (f_X4_symbol t18 v1 v2 h) fun q20 => Option.bind (gi_s1 h t17 ((v1 * (6 : Int)) + v2) q20) fun h21 => Option.bind (gi_gR h21 v0 2 13) fun t22 => Option.bind (gi_is h21 v0 2) fun _ => Option.bind (f_X3_beginnings n v0 v1 (v2 + (1 : Int)) h21) fun q24 => Option.bind (gi_s1 h21 t22 ((v1 * (6 : Int)) + v2) q24) fun h25 => gx_nm (v2 + (1 : Int)) fun t26 => r26 v0 v1 t26 h25)
set_option maxRecDepth 100000 in
theorem zb_X3_findItems_26 {al : Bool} {n : Nat} {r18 : Nat → Int → gi_H → Option (gi_H)} {r26 : Nat → Int → Int → gi_H → Option (gi_H)} {h1 : gi_H} (hr18 : ∀ (x0 : Nat) (x1 : Int) (hh : gi_H), r18 x0 x1 hh = some h1 → gx_Z mX3_findItems al al 0 0 18 [(0, .ref x0), (1, .int (gI x1))] [] (gi_cv hh) (.inl none) (gi_cv h1)) (hr26 : ∀ (x0 : Nat) (x1 : Int) (x2 : Int) (hh : gi_H), r26 x0 x1 x2 hh = some h1 → gx_Z mX3_findItems al al 0 0 26 [(0, .ref x0), (1, .int (gI x1)), (2, .int (gI x2))] [] (gi_cv hh) (.inl none) (gi_cv h1)) {v0 : Nat} {v1 : Int} {v2 : Int}  {h : gi_H} (e : b_X3_findItems_26 n r18 r26 v0 v1 v2 h = some h1) : gx_Z mX3_findItems al al 0 0 26 [(0, .ref v0), (1, .int (gI v1)), (2, .int (gI v2))] [] (gi_cv h) (.inl none) (gi_cv h1) := by
  refine gx_iload_n dX3_findItems_26 rfl 2 rfl ?_
  refine gy_iconst dX3_findItems_27 ?_
  refine gx_bE e (fun _ g14 e => ?_)
  refine gx_iE e (fun c15 e => ?_) (fun c15 e => ?_)
  · refine gy_icmp_ge (tgt := 76) (gi_rgS g14) (by decide) dX3_findItems_28 (by decide) (fun _ => ?_) (fun z => absurd c15 z)
    refine gx_sub (ls2 := [(0, .ref v0), (1, .int (gI v1))]) [0, 1] rfl ?_
    exact zb_X3_findItems_76 hr18 e
  · refine gy_icmp_ge (tgt := 76) (gi_rgS g14) (by decide) dX3_findItems_28 (by decide) (fun z => absurd z c15) (fun _ => ?_)
    refine gx_aload_n dX3_findItems_31 rfl 0 rfl ?_
    refine gx_bE e (fun t17 ht17 e => ?_)
    refine gy_fR ht17 dX3_findItems_32 gf_RX3_31_2_12 (by decide) gkN_2_12 gkR_2_12 ?_
    refine gx_iload_n dX3_findItems_35 rfl 1 rfl ?_
    refine gy_bipush dX3_findItems_36 gcb_6 ?_
    refine gy_imul dX3_findItems_38 ?_
    refine gx_iload_n dX3_findItems_39 rfl 2 rfl ?_
    refine gy_iadd dX3_findItems_40 ?_
    refine gx_aload_n dX3_findItems_41 rfl 0 rfl ?_
    refine gx_bE e (fun t18 ht18 e => ?_)
    refine gy_fR ht18 dX3_findItems_42 gf_RX3_37_2_0 (by decide) gkN_2_0 gkR_2_0 ?_
    refine gx_iload_n dX3_findItems_45 rfl 1 rfl ?_
    refine gx_iload_n dX3_findItems_46 rfl 2 rfl ?_
    refine gx_bE e (fun _ hu19 e => ?_)
    refine gx_bE e (fun q20 hq20 e => ?_)
    refine gx_callV (n := 2) (st := [.int (gI ((v1 * (6 : Int)) + v2)), .ref t17]) (As := [.int (gI v1), .int (gI v2)]) (b := t18) dX3_findItems_47 (z_X4_symbol hq20) rfl ⟨rfl, gw_cw_X4_symbol, gw_3, gp_X4_symbol, ⟨Nat.le_of_ble_eq_true rfl, Nat.le_of_ble_eq_true rfl⟩⟩ (gi_isS hu19) (by decide) gw_414 gw_415 gw_416 rfl ⟨Nat.le_of_ble_eq_true rfl, Nat.le_of_ble_eq_true rfl⟩ (Nat.le_of_ble_eq_true rfl) (gy_k1 (x := .int (gI q20)) (kc2 := 0) (ks2 := 0) ⟨rfl, rfl⟩ ?_) gy_kn
    refine gx_bE e (fun h21 hh21 e => ?_)
    refine gy_t1 hh21 dX3_findItems_50 ?_
    refine gx_aload_n dX3_findItems_51 rfl 0 rfl ?_
    refine gx_bE e (fun t22 ht22 e => ?_)
    refine gy_fR ht22 dX3_findItems_52 gf_RX3_34_2_13 (by decide) gkN_2_13 gkR_2_13 ?_
    refine gx_iload_n dX3_findItems_55 rfl 1 rfl ?_
    refine gy_bipush dX3_findItems_56 gcb_6 ?_
    refine gy_imul dX3_findItems_58 ?_
    refine gx_iload_n dX3_findItems_59 rfl 2 rfl ?_
    refine gy_iadd dX3_findItems_60 ?_
    refine gx_aload_n dX3_findItems_61 rfl 0 rfl ?_
    refine gx_iload_n dX3_findItems_62 rfl 1 rfl ?_
    refine gx_iload_n dX3_findItems_63 rfl 2 rfl ?_
    refine gy_iconst dX3_findItems_64 ?_
    refine gy_iadd dX3_findItems_65 ?_
    refine gx_bE e (fun _ hu23 e => ?_)
    refine gx_bE e (fun q24 hq24 e => ?_)
    refine gx_callV (n := 2) (st := [.int (gI ((v1 * (6 : Int)) + v2)), .ref t22]) (As := [.int (gI v1), .int (gI (v2 + (1 : Int)))]) (b := v0) dX3_findItems_66 (z_X3_beginnings hq24) rfl ⟨rfl, gw_cw_X3_beginnings, gw_6, gp_X3_beginnings, ⟨Nat.le_of_ble_eq_true rfl, Nat.le_of_ble_eq_true rfl⟩⟩ (gi_isS hu23) (by decide) gw_406 gw_408 gs_1 rfl ⟨Nat.le_of_ble_eq_true rfl, Nat.le_of_ble_eq_true rfl⟩ (Nat.le_of_ble_eq_true rfl) (gy_k1 (x := .int (gI q24)) (kc2 := 0) (ks2 := 0) ⟨rfl, rfl⟩ ?_) gy_kn
    refine gx_bE e (fun h25 hh25 e => ?_)
    refine gy_t1 hh25 dX3_findItems_69 ?_
    refine gx_nE e (fun t26 ht26 e => ?_)
    refine gy_iinc (v := t26) (ls2 := [(2, .int (gI t26)), (0, .ref v0), (1, .int (gI v1))]) dX3_findItems_70 2 rfl ht26 (Nat.le_of_ble_eq_true rfl) rfl ?_
    refine gx_goto (tgt := 26) dX3_findItems_73 (by decide) ?_
    refine gx_sub (ls2 := [(0, .ref v0), (1, .int (gI v1)), (2, .int (gI t26))]) [1, 2, 0] rfl ?_
    exact hr26 _ _ _ _ e
def l_X3_findItems_26 (n : Nat) (r18 : Nat → Int → gi_H → Option (gi_H)) : Nat → Nat → Int → Int → gi_H → Option (gi_H)
  | 0, _, _, _, _ => none
  | k + 1, v0, v1, v2, h => b_X3_findItems_26 n r18 (l_X3_findItems_26 n r18 k) v0 v1 v2 h
theorem zl_X3_findItems_26 {al : Bool} {n : Nat} {r18 : Nat → Int → gi_H → Option (gi_H)} {h1 : gi_H} (hr18 : ∀ (x0 : Nat) (x1 : Int) (hh : gi_H), r18 x0 x1 hh = some h1 → gx_Z mX3_findItems al al 0 0 18 [(0, .ref x0), (1, .int (gI x1))] [] (gi_cv hh) (.inl none) (gi_cv h1)) : ∀ (k : Nat) (v0 : Nat) (v1 : Int) (v2 : Int) (h : gi_H), l_X3_findItems_26 n r18 k v0 v1 v2 h = some h1 → gx_Z mX3_findItems al al 0 0 26 [(0, .ref v0), (1, .int (gI v1)), (2, .int (gI v2))] [] (gi_cv h) (.inl none) (gi_cv h1)
  | 0, _, _, _, _, e => gx_0E e
  | k + 1, _, _, _, _, e => zb_X3_findItems_26 (n := n) hr18 (zl_X3_findItems_26 hr18 k) e
set_option maxRecDepth 100000 in
def b_X3_findItems_18 (n : Nat) (r18 : Nat → Int → gi_H → Option (gi_H)) (v0 : Nat) (v1 : Int)  (h : gi_H) : Option (gi_H) :=
  Option.bind (gi_rg v1) fun _ => if (24 : Int) ≤ v1 then (b_X3_findItems_82 n  v0 h) else (l_X3_findItems_26 n r18 n v0 v1 (0 : Int) h)
set_option maxRecDepth 100000 in
theorem zb_X3_findItems_18 {al : Bool} {n : Nat} {r18 : Nat → Int → gi_H → Option (gi_H)} {h1 : gi_H} (hr18 : ∀ (x0 : Nat) (x1 : Int) (hh : gi_H), r18 x0 x1 hh = some h1 → gx_Z mX3_findItems al al 0 0 18 [(0, .ref x0), (1, .int (gI x1))] [] (gi_cv hh) (.inl none) (gi_cv h1)) {v0 : Nat} {v1 : Int}  {h : gi_H} (e : b_X3_findItems_18 n r18 v0 v1 h = some h1) : gx_Z mX3_findItems al al 0 0 18 [(0, .ref v0), (1, .int (gI v1))] [] (gi_cv h) (.inl none) (gi_cv h1) := by
  refine gx_iload_n dX3_findItems_18 rfl 1 rfl ?_
  refine gy_bipush dX3_findItems_19 gcb_24 ?_
  refine gx_bE e (fun _ g5 e => ?_)
  refine gx_iE e (fun c6 e => ?_) (fun c6 e => ?_)
  · refine gy_icmp_ge (tgt := 82) (gi_rgS g5) (by decide) dX3_findItems_21 (by decide) (fun _ => ?_) (fun z => absurd c6 z)
    refine gx_sub (ls2 := [(0, .ref v0)]) [0] rfl ?_
    exact zb_X3_findItems_82  e
  · refine gy_icmp_ge (tgt := 82) (gi_rgS g5) (by decide) dX3_findItems_21 (by decide) (fun z => absurd z c6) (fun _ => ?_)
    refine gy_iconst dX3_findItems_24 ?_
    refine gx_istore_n (ls2 := [(2, .int (gI (0 : Int))), (0, .ref v0), (1, .int (gI v1))]) dX3_findItems_25 rfl (Nat.le_of_ble_eq_true rfl) rfl ?_
    refine gx_sub (ls2 := [(0, .ref v0), (1, .int (gI v1)), (2, .int (gI (0 : Int)))]) [1, 2, 0] rfl ?_
    exact zl_X3_findItems_26 hr18 n _ _ _ _ e
def l_X3_findItems_18 (n : Nat)  : Nat → Nat → Int → gi_H → Option (gi_H)
  | 0, _, _, _ => none
  | k + 1, v0, v1, h => b_X3_findItems_18 n  (l_X3_findItems_18 n  k) v0 v1 h
theorem zl_X3_findItems_18 {al : Bool} {n : Nat}  {h1 : gi_H}  : ∀ (k : Nat) (v0 : Nat) (v1 : Int) (h : gi_H), l_X3_findItems_18 n  k v0 v1 h = some h1 → gx_Z mX3_findItems al al 0 0 18 [(0, .ref v0), (1, .int (gI v1))] [] (gi_cv h) (.inl none) (gi_cv h1)
  | 0, _, _, _, e => gx_0E e
  | k + 1, _, _, _, e => zb_X3_findItems_18 (n := n)  (zl_X3_findItems_18  k) e
set_option maxRecDepth 100000 in
def f_X3_findItems (n : Nat) (v0 : Nat) (h : gi_H) : Option (gi_H) :=
  Option.bind (gi_gR h v0 2 12) fun t1 => Option.bind (f_J7_fill_53178 n t1 (-1 : Int) h) fun q2 => Option.bind (gi_gR q2 v0 2 13) fun t3 => Option.bind (f_J7_fill_53178 n t3 (0 : Int) q2) fun q4 => l_X3_findItems_18 n  n v0 (0 : Int) q4
set_option maxRecDepth 100000 in
theorem z_X3_findItems {al : Bool} {n : Nat} {v0 : Nat} {h : gi_H} {h1 : gi_H} (e : f_X3_findItems n v0 h = some h1) : gx_Cw mX3_findItems al [.ref v0] (gi_cv h) (.inl none) (gi_cv h1) := by
  refine gx_enter (by decide +kernel) rfl (Nat.le_of_ble_eq_true rfl) ?_
  show gx_Z mX3_findItems al al 0 0 0 [(0, .ref v0)] [] (gi_cv h) (.inl none) (gi_cv h1)
  refine gx_aload_n dX3_findItems_0 rfl 0 rfl ?_
  refine gx_bE e (fun t1 ht1 e => ?_)
  refine gy_fR ht1 dX3_findItems_1 gf_RX3_31_2_12 (by decide) gkN_2_12 gkR_2_12 ?_
  refine gy_iconst dX3_findItems_4 ?_
  refine gx_bE e (fun q2 hq2 e => ?_)
  refine gx_callS (n := 2) (st := []) (As := [.ref t1, .int (gI (-1 : Int))]) dX3_findItems_5 (z_J7_fill_53178 hq2) rfl ⟨rfl, gw_cw_J7_fill_53178, gw_5, gp_J7_fill_53178, ⟨Nat.le_of_ble_eq_true rfl, Nat.le_of_ble_eq_true rfl⟩⟩ gw_399 gw_98 ⟨Nat.le_of_ble_eq_true rfl, Nat.le_of_ble_eq_true rfl⟩ (Nat.le_of_ble_eq_true rfl) (gy_k0 (kc2 := 0) (ks2 := 0) ⟨rfl, rfl⟩ ?_) gy_kn
  refine gx_aload_n dX3_findItems_8 rfl 0 rfl ?_
  refine gx_bE e (fun t3 ht3 e => ?_)
  refine gy_fR ht3 dX3_findItems_9 gf_RX3_34_2_13 (by decide) gkN_2_13 gkR_2_13 ?_
  refine gy_iconst dX3_findItems_12 ?_
  refine gx_bE e (fun q4 hq4 e => ?_)
  refine gx_callS (n := 2) (st := []) (As := [.ref t3, .int (gI (0 : Int))]) dX3_findItems_13 (z_J7_fill_53178 hq4) rfl ⟨rfl, gw_cw_J7_fill_53178, gw_5, gp_J7_fill_53178, ⟨Nat.le_of_ble_eq_true rfl, Nat.le_of_ble_eq_true rfl⟩⟩ gw_399 gw_98 ⟨Nat.le_of_ble_eq_true rfl, Nat.le_of_ble_eq_true rfl⟩ (Nat.le_of_ble_eq_true rfl) (gy_k0 (kc2 := 0) (ks2 := 0) ⟨rfl, rfl⟩ ?_) gy_kn
  refine gy_iconst dX3_findItems_16 ?_
  refine gx_istore_n (ls2 := [(1, .int (gI (0 : Int))), (0, .ref v0)]) dX3_findItems_17 rfl (Nat.le_of_ble_eq_true rfl) rfl ?_
  refine gx_sub (ls2 := [(0, .ref v0), (1, .int (gI (0 : Int)))]) [1, 0] rfl ?_
  exact zl_X3_findItems_18  n _ _ _ e
/-! X3_learn  -/
set_option maxRecDepth 100000 in
def f_X3_learn (n : Nat) (v0 : Nat) (h : gi_H) : Option (gi_H) :=
  Option.bind (gi_gI h v0 2 1) fun t1 => Option.bind (gi_rg t1) fun _ => if t1 = 0 then (Option.bind (gi_is h v0 2) fun _ => Option.bind (f_X3_findBeginnings n v0 h) fun q5 => Option.bind (gi_is q5 v0 2) fun _ => Option.bind (f_X3_findBehinds n v0 q5) fun q7 => Option.bind (gi_is q7 v0 2) fun _ => Option.bind (f_X3_findReached n v0 q7) fun q9 => Option.bind (gi_is q9 v0 2) fun _ => Option.bind (f_X3_findLeftRecursive n v0 q9) fun q11 => Option.bind (gi_is q11 v0 2) fun _ => Option.bind (f_X3_findCircular n v0 q11) fun q13 => Option.bind (gi_is q13 v0 2) fun _ => Option.bind (f_X3_findLeasts n v0 q13) fun q15 => Option.bind (gi_is q15 v0 2) fun _ => Option.bind (f_X3_findSpellings n v0 q15) fun q17 => Option.bind (gi_is q17 v0 2) fun _ => Option.bind (f_X3_findPredictions n v0 q17) fun q19 => Option.bind (gi_is q19 v0 2) fun _ => Option.bind (f_X3_findItems n v0 q19) fun q21 => Option.bind (gi_pZ q21 v0 2 1 (1 : Int)) fun h22 => some h22) else (some h)
set_option maxRecDepth 100000 in
theorem z_X3_learn {al : Bool} {n : Nat} {v0 : Nat} {h : gi_H} {h1 : gi_H} (e : f_X3_learn n v0 h = some h1) : gx_Cw mX3_learn al [.ref v0] (gi_cv h) (.inl none) (gi_cv h1) := by
  refine gx_enter (by decide +kernel) rfl (Nat.le_of_ble_eq_true rfl) ?_
  show gx_Z mX3_learn al al 0 0 0 [(0, .ref v0)] [] (gi_cv h) (.inl none) (gi_cv h1)
  refine gx_aload_n dX3_learn_0 rfl 0 rfl ?_
  refine gx_bE e (fun t1 ht1 e => ?_)
  refine gy_fI ht1 dX3_learn_1 gf_RX3_41_2_1 (by decide) gkN_2_1 gkR_2_1 ?_
  refine gx_bE e (fun _ g2 e => ?_)
  refine gx_iE e (fun c3 e => ?_) (fun c3 e => ?_)
  · refine gy_if_eq (tgt := 8) (gi_rgS g2) dX3_learn_4 (by decide) (fun _ => ?_) (fun z => absurd c3 z)
    refine gx_aload_n dX3_learn_8 rfl 0 rfl ?_
    refine gx_bE e (fun _ hu4 e => ?_)
    refine gx_bE e (fun q5 hq5 e => ?_)
    refine gx_callV (n := 0) (st := []) (As := []) (b := v0) dX3_learn_9 (z_X3_findBeginnings hq5) rfl ⟨rfl, gw_cw_X3_findBeginnings, gw_6, gp_X3_findBeginnings, ⟨Nat.le_of_ble_eq_true rfl, Nat.le_of_ble_eq_true rfl⟩⟩ (gi_isS hu4) (by decide) gw_395 gw_397 gs_0 rfl ⟨Nat.le_of_ble_eq_true rfl, Nat.le_of_ble_eq_true rfl⟩ (Nat.le_of_ble_eq_true rfl) (gy_k0 (kc2 := 0) (ks2 := 0) ⟨rfl, rfl⟩ ?_) gy_kn
    refine gx_aload_n dX3_learn_12 rfl 0 rfl ?_
    refine gx_bE e (fun _ hu6 e => ?_)
    refine gx_bE e (fun q7 hq7 e => ?_)
    refine gx_callV (n := 0) (st := []) (As := []) (b := v0) dX3_learn_13 (z_X3_findBehinds hq7) rfl ⟨rfl, gw_cw_X3_findBehinds, gw_6, gp_X3_findBehinds, ⟨Nat.le_of_ble_eq_true rfl, Nat.le_of_ble_eq_true rfl⟩⟩ (gi_isS hu6) (by decide) gw_425 gw_427 gs_3 rfl ⟨Nat.le_of_ble_eq_true rfl, Nat.le_of_ble_eq_true rfl⟩ (Nat.le_of_ble_eq_true rfl) (gy_k0 (kc2 := 0) (ks2 := 0) ⟨rfl, rfl⟩ ?_) gy_kn
    refine gx_aload_n dX3_learn_16 rfl 0 rfl ?_
    refine gx_bE e (fun _ hu8 e => ?_)
    refine gx_bE e (fun q9 hq9 e => ?_)
    refine gx_callV (n := 0) (st := []) (As := []) (b := v0) dX3_learn_17 (z_X3_findReached hq9) rfl ⟨rfl, gw_cw_X3_findReached, gw_6, gp_X3_findReached, ⟨Nat.le_of_ble_eq_true rfl, Nat.le_of_ble_eq_true rfl⟩⟩ (gi_isS hu8) (by decide) gw_447 gw_449 gs_5 rfl ⟨Nat.le_of_ble_eq_true rfl, Nat.le_of_ble_eq_true rfl⟩ (Nat.le_of_ble_eq_true rfl) (gy_k0 (kc2 := 0) (ks2 := 0) ⟨rfl, rfl⟩ ?_) gy_kn
    refine gx_aload_n dX3_learn_20 rfl 0 rfl ?_
    refine gx_bE e (fun _ hu10 e => ?_)
    refine gx_bE e (fun q11 hq11 e => ?_)
    refine gx_callV (n := 0) (st := []) (As := []) (b := v0) dX3_learn_21 (z_X3_findLeftRecursive hq11) rfl ⟨rfl, gw_cw_X3_findLeftRecursive, gw_6, gp_X3_findLeftRecursive, ⟨Nat.le_of_ble_eq_true rfl, Nat.le_of_ble_eq_true rfl⟩⟩ (gi_isS hu10) (by decide) gw_462 gw_464 gs_8 rfl ⟨Nat.le_of_ble_eq_true rfl, Nat.le_of_ble_eq_true rfl⟩ (Nat.le_of_ble_eq_true rfl) (gy_k0 (kc2 := 0) (ks2 := 0) ⟨rfl, rfl⟩ ?_) gy_kn
    refine gx_aload_n dX3_learn_24 rfl 0 rfl ?_
    refine gx_bE e (fun _ hu12 e => ?_)
    refine gx_bE e (fun q13 hq13 e => ?_)
    refine gx_callV (n := 0) (st := []) (As := []) (b := v0) dX3_learn_25 (z_X3_findCircular hq13) rfl ⟨rfl, gw_cw_X3_findCircular, gw_6, gp_X3_findCircular, ⟨Nat.le_of_ble_eq_true rfl, Nat.le_of_ble_eq_true rfl⟩⟩ (gi_isS hu12) (by decide) gw_470 gw_472 gs_10 rfl ⟨Nat.le_of_ble_eq_true rfl, Nat.le_of_ble_eq_true rfl⟩ (Nat.le_of_ble_eq_true rfl) (gy_k0 (kc2 := 0) (ks2 := 0) ⟨rfl, rfl⟩ ?_) gy_kn
    refine gx_aload_n dX3_learn_28 rfl 0 rfl ?_
    refine gx_bE e (fun _ hu14 e => ?_)
    refine gx_bE e (fun q15 hq15 e => ?_)
    refine gx_callV (n := 0) (st := []) (As := []) (b := v0) dX3_learn_29 (z_X3_findLeasts hq15) rfl ⟨rfl, gw_cw_X3_findLeasts, gw_6, gp_X3_findLeasts, ⟨Nat.le_of_ble_eq_true rfl, Nat.le_of_ble_eq_true rfl⟩⟩ (gi_isS hu14) (by decide) gw_474 gw_476 gs_11 rfl ⟨Nat.le_of_ble_eq_true rfl, Nat.le_of_ble_eq_true rfl⟩ (Nat.le_of_ble_eq_true rfl) (gy_k0 (kc2 := 0) (ks2 := 0) ⟨rfl, rfl⟩ ?_) gy_kn
    refine gx_aload_n dX3_learn_32 rfl 0 rfl ?_
    refine gx_bE e (fun _ hu16 e => ?_)
    refine gx_bE e (fun q17 hq17 e => ?_)
    refine gx_callV (n := 0) (st := []) (As := []) (b := v0) dX3_learn_33 (z_X3_findSpellings hq17) rfl ⟨rfl, gw_cw_X3_findSpellings, gw_6, gp_X3_findSpellings, ⟨Nat.le_of_ble_eq_true rfl, Nat.le_of_ble_eq_true rfl⟩⟩ (gi_isS hu16) (by decide) gw_489 gw_491 gs_14 rfl ⟨Nat.le_of_ble_eq_true rfl, Nat.le_of_ble_eq_true rfl⟩ (Nat.le_of_ble_eq_true rfl) (gy_k0 (kc2 := 0) (ks2 := 0) ⟨rfl, rfl⟩ ?_) gy_kn
    refine gx_aload_n dX3_learn_36 rfl 0 rfl ?_
    refine gx_bE e (fun _ hu18 e => ?_)
    refine gx_bE e (fun q19 hq19 e => ?_)
    refine gx_callV (n := 0) (st := []) (As := []) (b := v0) dX3_learn_37 (z_X3_findPredictions hq19) rfl ⟨rfl, gw_cw_X3_findPredictions, gw_6, gp_X3_findPredictions, ⟨Nat.le_of_ble_eq_true rfl, Nat.le_of_ble_eq_true rfl⟩⟩ (gi_isS hu18) (by decide) gw_502 gw_504 gs_17 rfl ⟨Nat.le_of_ble_eq_true rfl, Nat.le_of_ble_eq_true rfl⟩ (Nat.le_of_ble_eq_true rfl) (gy_k0 (kc2 := 0) (ks2 := 0) ⟨rfl, rfl⟩ ?_) gy_kn
    refine gx_aload_n dX3_learn_40 rfl 0 rfl ?_
    refine gx_bE e (fun _ hu20 e => ?_)
    refine gx_bE e (fun q21 hq21 e => ?_)
    refine gx_callV (n := 0) (st := []) (As := []) (b := v0) dX3_learn_41 (z_X3_findItems hq21) rfl ⟨rfl, gw_cw_X3_findItems, gw_6, gp_X3_findItems, ⟨Nat.le_of_ble_eq_true rfl, Nat.le_of_ble_eq_true rfl⟩⟩ (gi_isS hu20) (by decide) gw_506 gw_508 gs_18 rfl ⟨Nat.le_of_ble_eq_true rfl, Nat.le_of_ble_eq_true rfl⟩ (Nat.le_of_ble_eq_true rfl) (gy_k0 (kc2 := 0) (ks2 := 0) ⟨rfl, rfl⟩ ?_) gy_kn
    refine gx_aload_n dX3_learn_44 rfl 0 rfl ?_
    refine gy_iconst dX3_learn_45 ?_
    refine gx_bE e (fun h22 hh22 e => ?_)
    refine gy_qZ hh22 dX3_learn_46 gf_RX3_41_2_1 (by decide) gkN_2_1 rfl (Or.inl rfl) ?_
    cases e
    exact gx_vret dX3_learn_49 rfl ⟨Nat.le_of_ble_eq_true rfl, Nat.le_of_ble_eq_true rfl⟩ (fun z => z)
  · refine gy_if_eq (tgt := 8) (gi_rgS g2) dX3_learn_4 (by decide) (fun z => absurd z c3) (fun _ => ?_)
    cases e
    exact gx_vret dX3_learn_7 rfl ⟨Nat.le_of_ble_eq_true rfl, Nat.le_of_ble_eq_true rfl⟩ (fun z => z)
/-! X3_least  -/
set_option maxRecDepth 100000 in
def f_X3_least (v0 : Nat) (v1 : Int) (h : gi_H) : Option (Int) :=
  Option.bind (gi_is h v0 2) fun _ => Option.bind (f_X3_leastOf v0 ((16 : Int) + v1) h) fun q2 => some q2
set_option maxRecDepth 100000 in
theorem z_X3_least {al : Bool} {v0 : Nat} {v1 : Int} {h : gi_H} {res : Int} (e : f_X3_least v0 v1 h = some res) : gx_Cw mX3_least al [.ref v0, .int (gI v1)] (gi_cv h) (.inl (some (.int (gI res)))) (gi_cv h) := by
  refine gx_enter (by decide +kernel) rfl (Nat.le_of_ble_eq_true rfl) ?_
  show gx_Z mX3_least al al 0 0 0 [(0, .ref v0), (1, .int (gI v1))] [] (gi_cv h) (.inl (some (.int (gI res)))) (gi_cv h)
  refine gx_aload_n dX3_least_0 rfl 0 rfl ?_
  refine gy_bipush dX3_least_1 gcb_16 ?_
  refine gx_iload_n dX3_least_3 rfl 1 rfl ?_
  refine gy_iadd dX3_least_4 ?_
  refine gx_bE e (fun _ hu1 e => ?_)
  refine gx_bE e (fun q2 hq2 e => ?_)
  refine gx_callV (n := 1) (st := []) (As := [.int (gI ((16 : Int) + v1))]) (b := v0) dX3_least_5 (z_X3_leastOf hq2) rfl ⟨rfl, gw_cw_X3_leastOf, gw_6, gp_X3_leastOf, ⟨Nat.le_of_ble_eq_true rfl, Nat.le_of_ble_eq_true rfl⟩⟩ (gi_isS hu1) (by decide) gw_482 gw_484 gs_13 rfl ⟨Nat.le_of_ble_eq_true rfl, Nat.le_of_ble_eq_true rfl⟩ (Nat.le_of_ble_eq_true rfl) (gy_k1 (x := .int (gI q2)) (kc2 := 0) (ks2 := 0) ⟨rfl, rfl⟩ ?_) gy_kn
  cases e
  exact gx_iret dX3_least_8 rfl ⟨Nat.le_of_ble_eq_true rfl, Nat.le_of_ble_eq_true rfl⟩ (fun z => z)
/-! X3_isProductive  -/
set_option maxRecDepth 100000 in
def f_X3_isProductive (v0 : Nat) (v1 : Int) (h : gi_H) : Option (Int) :=
  Option.bind (gi_is h v0 2) fun _ => Option.bind (f_X3_least v0 v1 h) fun q2 => Option.bind (gi_rg q2) fun _ => if q2 = (-1 : Int) then (some (0 : Int)) else (some (1 : Int))
set_option maxRecDepth 100000 in
theorem z_X3_isProductive {al : Bool} {v0 : Nat} {v1 : Int} {h : gi_H} {res : Int} (e : f_X3_isProductive v0 v1 h = some res) : gx_Cw mX3_isProductive al [.ref v0, .int (gI v1)] (gi_cv h) (.inl (some (.int (gI res)))) (gi_cv h) := by
  refine gx_enter (by decide +kernel) rfl (Nat.le_of_ble_eq_true rfl) ?_
  show gx_Z mX3_isProductive al al 0 0 0 [(0, .ref v0), (1, .int (gI v1))] [] (gi_cv h) (.inl (some (.int (gI res)))) (gi_cv h)
  refine gx_aload_n dX3_isProductive_0 rfl 0 rfl ?_
  refine gx_iload_n dX3_isProductive_1 rfl 1 rfl ?_
  refine gx_bE e (fun _ hu1 e => ?_)
  refine gx_bE e (fun q2 hq2 e => ?_)
  refine gx_callV (n := 1) (st := []) (As := [.int (gI v1)]) (b := v0) dX3_isProductive_2 (z_X3_least hq2) rfl ⟨rfl, gw_cw_X3_least, gw_6, gp_X3_least, ⟨Nat.le_of_ble_eq_true rfl, Nat.le_of_ble_eq_true rfl⟩⟩ (gi_isS hu1) (by decide) gw_515 gw_516 gw_517 rfl ⟨Nat.le_of_ble_eq_true rfl, Nat.le_of_ble_eq_true rfl⟩ (Nat.le_of_ble_eq_true rfl) (gy_k1 (x := .int (gI q2)) (kc2 := 0) (ks2 := 0) ⟨rfl, rfl⟩ ?_) gy_kn
  refine gy_iconst dX3_isProductive_5 ?_
  refine gx_bE e (fun _ g3 e => ?_)
  refine gx_iE e (fun c4 e => ?_) (fun c4 e => ?_)
  · refine gy_icmp_eq (tgt := 13) (gi_rgS g3) (by decide) dX3_isProductive_6 (by decide) (fun _ => ?_) (fun z => absurd c4 z)
    refine gy_iconst dX3_isProductive_13 ?_
    cases e
    exact gx_zret (by decide +kernel) dX3_isProductive_14 rfl ⟨Nat.le_of_ble_eq_true rfl, Nat.le_of_ble_eq_true rfl⟩ (fun z => z)
  · refine gy_icmp_eq (tgt := 13) (gi_rgS g3) (by decide) dX3_isProductive_6 (by decide) (fun z => absurd z c4) (fun _ => ?_)
    refine gy_iconst dX3_isProductive_9 ?_
    refine gx_goto (tgt := 14) dX3_isProductive_10 (by decide) ?_
    cases e
    exact gx_zret (by decide +kernel) dX3_isProductive_14 rfl ⟨Nat.le_of_ble_eq_true rfl, Nat.le_of_ble_eq_true rfl⟩ (fun z => z)
/-! X2_none  -/
set_option maxRecDepth 100000 in
def f_X2_none (v0 : Nat) (h : gi_H) : Option (Int) :=
  some (0 : Int)
set_option maxRecDepth 100000 in
theorem z_X2_none {al : Bool} {v0 : Nat} {h : gi_H} {res : Int} (e : f_X2_none v0 h = some res) : gx_Cw mX2_none al [.ref v0] (gi_cv h) (.inl (some (.int (gI res)))) (gi_cv h) := by
  refine gx_enter (by decide +kernel) rfl (Nat.le_of_ble_eq_true rfl) ?_
  show gx_Z mX2_none al al 0 0 0 [(0, .ref v0)] [] (gi_cv h) (.inl (some (.int (gI res)))) (gi_cv h)
  refine gy_iconst dX2_none_0 ?_
  cases e
  exact gx_iret dX2_none_1 rfl ⟨Nat.le_of_ble_eq_true rfl, Nat.le_of_ble_eq_true rfl⟩ (fun z => z)
/-! X1_cell 1 -/
set_option maxRecDepth 100000 in
def f_X1_cell_1 (v0 : Int) (v1 : Int) (v2 : Int) (h : gi_H) : Option (Int) :=
  some (((v0 * (169 : Int)) + (v1 * (13 : Int))) + v2)
set_option maxRecDepth 100000 in
theorem z_X1_cell_1 {al : Bool} {v0 : Int} {v1 : Int} {v2 : Int} {h : gi_H} {res : Int} (e : f_X1_cell_1 v0 v1 v2 h = some res) : gx_Cw mX1_cell al [.int (gI v0), .int (gI v1), .int (gI v2)] (gi_cv h) (.inl (some (.int (gI res)))) (gi_cv h) := by
  refine gx_enter (by decide +kernel) rfl (Nat.le_of_ble_eq_true rfl) ?_
  show gx_Z mX1_cell al al 0 0 0 [(0, .int (gI v0)), (1, .int (gI v1)), (2, .int (gI v2))] [] (gi_cv h) (.inl (some (.int (gI res)))) (gi_cv h)
  refine gx_iload_n dX1_cell_0 rfl 0 rfl ?_
  refine gy_sipush dX1_cell_1 gcs_169 ?_
  refine gy_imul dX1_cell_4 ?_
  refine gx_iload_n dX1_cell_5 rfl 1 rfl ?_
  refine gy_bipush dX1_cell_6 gcb_13 ?_
  refine gy_imul dX1_cell_8 ?_
  refine gy_iadd dX1_cell_9 ?_
  refine gx_iload_n dX1_cell_10 rfl 2 rfl ?_
  refine gy_iadd dX1_cell_11 ?_
  cases e
  exact gx_iret dX1_cell_12 rfl ⟨Nat.le_of_ble_eq_true rfl, Nat.le_of_ble_eq_true rfl⟩ (fun z => z)
/-! X1_setWhole 1 -/
set_option maxRecDepth 100000 in
def f_X1_setWhole_1 (v0 : Nat) (v1 : Int) (v2 : Int) (v3 : Int) (v4 : Int) (h : gi_H) : Option (gi_H) :=
  Option.bind (f_X1_cell_1 v1 v2 v3 h) fun q1 => Option.bind (gi_rg q1) fun _ => if q1 < 0 then (some h) else (Option.bind (gi_gR h v0 1 2) fun t4 => Option.bind (gi_ln h t4) fun t5 => Option.bind (gi_rg t5) fun _ => if t5 ≤ q1 then (some h) else (Option.bind (gi_gR h v0 1 2) fun t8 => Option.bind (gi_s1 h t8 q1 v4) fun h9 => some h9))
set_option maxRecDepth 100000 in
theorem z_X1_setWhole_1 {al : Bool} {v0 : Nat} {v1 : Int} {v2 : Int} {v3 : Int} {v4 : Int} {h : gi_H} {h1 : gi_H} (e : f_X1_setWhole_1 v0 v1 v2 v3 v4 h = some h1) : gx_Cw mX1_setWhole al [.ref v0, .int (gI v1), .int (gI v2), .int (gI v3), .int (gI v4)] (gi_cv h) (.inl none) (gi_cv h1) := by
  refine gx_enter (by decide +kernel) rfl (Nat.le_of_ble_eq_true rfl) ?_
  show gx_Z mX1_setWhole al al 0 0 0 [(0, .ref v0), (1, .int (gI v1)), (2, .int (gI v2)), (3, .int (gI v3)), (4, .int (gI v4))] [] (gi_cv h) (.inl none) (gi_cv h1)
  refine gx_iload_n dX1_setWhole_0 rfl 1 rfl ?_
  refine gx_iload_n dX1_setWhole_1 rfl 2 rfl ?_
  refine gx_iload_n dX1_setWhole_2 rfl 3 rfl ?_
  refine gx_bE e (fun q1 hq1 e => ?_)
  refine gx_callS (n := 3) (st := []) (As := [.int (gI v1), .int (gI v2), .int (gI v3)]) dX1_setWhole_3 (z_X1_cell_1 hq1) rfl ⟨rfl, gw_cw_X1_cell, gw_11, gp_X1_cell, ⟨Nat.le_of_ble_eq_true rfl, Nat.le_of_ble_eq_true rfl⟩⟩ gw_543 gw_544 ⟨Nat.le_of_ble_eq_true rfl, Nat.le_of_ble_eq_true rfl⟩ (Nat.le_of_ble_eq_true rfl) (gy_k1 (x := .int (gI q1)) (kc2 := 0) (ks2 := 0) ⟨rfl, rfl⟩ ?_) gy_kn
  refine gx_istore (ls2 := [(5, .int (gI q1)), (0, .ref v0), (1, .int (gI v1)), (2, .int (gI v2)), (3, .int (gI v3)), (4, .int (gI v4))]) dX1_setWhole_6 (Nat.le_of_ble_eq_true rfl) rfl ?_
  refine gx_iload dX1_setWhole_8 0 rfl ?_
  refine gx_bE e (fun _ g2 e => ?_)
  refine gx_iE e (fun c3 e => ?_) (fun c3 e => ?_)
  · refine gy_if_lt (tgt := 32) (gi_rgS g2) dX1_setWhole_10 (by decide) (fun _ => ?_) (fun z => absurd c3 z)
    cases e
    exact gx_vret dX1_setWhole_32 rfl ⟨Nat.le_of_ble_eq_true rfl, Nat.le_of_ble_eq_true rfl⟩ (fun z => z)
  · refine gy_if_lt (tgt := 32) (gi_rgS g2) dX1_setWhole_10 (by decide) (fun z => absurd z c3) (fun _ => ?_)
    refine gx_iload dX1_setWhole_13 0 rfl ?_
    refine gx_aload_n dX1_setWhole_15 rfl 1 rfl ?_
    refine gx_bE e (fun t4 ht4 e => ?_)
    refine gy_fR ht4 dX1_setWhole_16 gf_RX1_22_1_2 (by decide) gkN_1_2 gkR_1_2 ?_
    refine gx_bE e (fun t5 ht5 e => ?_)
    refine gy_al0 ht5 dX1_setWhole_19 ?_
    refine gx_bE e (fun _ g6 e => ?_)
    refine gx_iE e (fun c7 e => ?_) (fun c7 e => ?_)
    · refine gy_icmp_ge (tgt := 32) (gi_rgS g2) (gi_rgS g6) dX1_setWhole_20 (by decide) (fun _ => ?_) (fun z => absurd c7 z)
      cases e
      exact gx_vret dX1_setWhole_32 rfl ⟨Nat.le_of_ble_eq_true rfl, Nat.le_of_ble_eq_true rfl⟩ (fun z => z)
    · refine gy_icmp_ge (tgt := 32) (gi_rgS g2) (gi_rgS g6) dX1_setWhole_20 (by decide) (fun z => absurd z c7) (fun _ => ?_)
      refine gx_aload_n dX1_setWhole_23 rfl 1 rfl ?_
      refine gx_bE e (fun t8 ht8 e => ?_)
      refine gy_fR ht8 dX1_setWhole_24 gf_RX1_22_1_2 (by decide) gkN_1_2 gkR_1_2 ?_
      refine gx_iload dX1_setWhole_27 0 rfl ?_
      refine gx_iload dX1_setWhole_29 5 rfl ?_
      refine gx_bE e (fun h9 hh9 e => ?_)
      refine gy_t1 hh9 dX1_setWhole_31 ?_
      cases e
      exact gx_vret dX1_setWhole_32 rfl ⟨Nat.le_of_ble_eq_true rfl, Nat.le_of_ble_eq_true rfl⟩ (fun z => z)
/-! X3_grammar  -/
set_option maxRecDepth 100000 in
def f_X3_grammar (v0 : Nat) (h : gi_H) : Option (Nat) :=
  Option.bind (gi_gR h v0 2 0) fun t1 => some t1
set_option maxRecDepth 100000 in
theorem z_X3_grammar {al : Bool} {v0 : Nat} {h : gi_H} {res : Nat} (e : f_X3_grammar v0 h = some res) : gx_Cw mX3_grammar al [.ref v0] (gi_cv h) (.inl (some (.ref res))) (gi_cv h) := by
  refine gx_enter (by decide +kernel) rfl (Nat.le_of_ble_eq_true rfl) ?_
  show gx_Z mX3_grammar al al 0 0 0 [(0, .ref v0)] [] (gi_cv h) (.inl (some (.ref res))) (gi_cv h)
  refine gx_aload_n dX3_grammar_0 rfl 0 rfl ?_
  refine gx_bE e (fun t1 ht1 e => ?_)
  refine gy_fR ht1 dX3_grammar_1 gf_RX3_37_2_0 (by decide) gkN_2_0 gkR_2_0 ?_
  cases e
  exact gx_aret dX3_grammar_4 rfl ⟨Nat.le_of_ble_eq_true rfl, Nat.le_of_ble_eq_true rfl⟩ (fun z => z)
/-! X2_blank  -/
set_option maxRecDepth 100000 in
def f_X2_blank (v0 : Nat) (v1 : Int) (v2 : Int) (h : gi_H) : Option (Int) :=
  Option.bind (gi_rg v1) fun _ => Option.bind (gi_rg v2) fun _ => if v1 = v2 then (some (1 : Int)) else (some (0 : Int))
set_option maxRecDepth 100000 in
theorem z_X2_blank {al : Bool} {v0 : Nat} {v1 : Int} {v2 : Int} {h : gi_H} {res : Int} (e : f_X2_blank v0 v1 v2 h = some res) : gx_Cw mX2_blank al [.ref v0, .int (gI v1), .int (gI v2)] (gi_cv h) (.inl (some (.int (gI res)))) (gi_cv h) := by
  refine gx_enter (by decide +kernel) rfl (Nat.le_of_ble_eq_true rfl) ?_
  show gx_Z mX2_blank al al 0 0 0 [(0, .ref v0), (1, .int (gI v1)), (2, .int (gI v2))] [] (gi_cv h) (.inl (some (.int (gI res)))) (gi_cv h)
  refine gx_iload_n dX2_blank_0 rfl 1 rfl ?_
  refine gx_iload_n dX2_blank_1 rfl 2 rfl ?_
  refine gx_bE e (fun _ g1 e => ?_)
  refine gx_bE e (fun _ g2 e => ?_)
  refine gx_iE e (fun c3 e => ?_) (fun c3 e => ?_)
  · refine gy_icmp_ne (tgt := 9) (gi_rgS g1) (gi_rgS g2) dX2_blank_2 (by decide) (fun z => absurd c3 z) (fun _ => ?_)
    refine gy_iconst dX2_blank_5 ?_
    refine gx_goto (tgt := 10) dX2_blank_6 (by decide) ?_
    cases e
    exact gx_iret dX2_blank_10 rfl ⟨Nat.le_of_ble_eq_true rfl, Nat.le_of_ble_eq_true rfl⟩ (fun z => z)
  · refine gy_icmp_ne (tgt := 9) (gi_rgS g1) (gi_rgS g2) dX2_blank_2 (by decide) (fun _ => ?_) (fun z => absurd z c3)
    refine gy_iconst dX2_blank_9 ?_
    cases e
    exact gx_iret dX2_blank_10 rfl ⟨Nat.le_of_ble_eq_true rfl, Nat.le_of_ble_eq_true rfl⟩ (fun z => z)
/-! X1_setPart 1 -/
set_option maxRecDepth 100000 in
def f_X1_setPart_1 (v0 : Nat) (v1 : Int) (v2 : Int) (v3 : Int) (v4 : Int) (h : gi_H) : Option (gi_H) :=
  Option.bind (f_X1_cell_1 v1 v2 v3 h) fun q1 => Option.bind (gi_rg q1) fun _ => if q1 < 0 then (some h) else (Option.bind (gi_gR h v0 1 3) fun t4 => Option.bind (gi_ln h t4) fun t5 => Option.bind (gi_rg t5) fun _ => if t5 ≤ q1 then (some h) else (Option.bind (gi_gR h v0 1 3) fun t8 => Option.bind (gi_s1 h t8 q1 v4) fun h9 => some h9))
set_option maxRecDepth 100000 in
theorem z_X1_setPart_1 {al : Bool} {v0 : Nat} {v1 : Int} {v2 : Int} {v3 : Int} {v4 : Int} {h : gi_H} {h1 : gi_H} (e : f_X1_setPart_1 v0 v1 v2 v3 v4 h = some h1) : gx_Cw mX1_setPart al [.ref v0, .int (gI v1), .int (gI v2), .int (gI v3), .int (gI v4)] (gi_cv h) (.inl none) (gi_cv h1) := by
  refine gx_enter (by decide +kernel) rfl (Nat.le_of_ble_eq_true rfl) ?_
  show gx_Z mX1_setPart al al 0 0 0 [(0, .ref v0), (1, .int (gI v1)), (2, .int (gI v2)), (3, .int (gI v3)), (4, .int (gI v4))] [] (gi_cv h) (.inl none) (gi_cv h1)
  refine gx_iload_n dX1_setPart_0 rfl 1 rfl ?_
  refine gx_iload_n dX1_setPart_1 rfl 2 rfl ?_
  refine gx_iload_n dX1_setPart_2 rfl 3 rfl ?_
  refine gx_bE e (fun q1 hq1 e => ?_)
  refine gx_callS (n := 3) (st := []) (As := [.int (gI v1), .int (gI v2), .int (gI v3)]) dX1_setPart_3 (z_X1_cell_1 hq1) rfl ⟨rfl, gw_cw_X1_cell, gw_11, gp_X1_cell, ⟨Nat.le_of_ble_eq_true rfl, Nat.le_of_ble_eq_true rfl⟩⟩ gw_543 gw_544 ⟨Nat.le_of_ble_eq_true rfl, Nat.le_of_ble_eq_true rfl⟩ (Nat.le_of_ble_eq_true rfl) (gy_k1 (x := .int (gI q1)) (kc2 := 0) (ks2 := 0) ⟨rfl, rfl⟩ ?_) gy_kn
  refine gx_istore (ls2 := [(5, .int (gI q1)), (0, .ref v0), (1, .int (gI v1)), (2, .int (gI v2)), (3, .int (gI v3)), (4, .int (gI v4))]) dX1_setPart_6 (Nat.le_of_ble_eq_true rfl) rfl ?_
  refine gx_iload dX1_setPart_8 0 rfl ?_
  refine gx_bE e (fun _ g2 e => ?_)
  refine gx_iE e (fun c3 e => ?_) (fun c3 e => ?_)
  · refine gy_if_lt (tgt := 32) (gi_rgS g2) dX1_setPart_10 (by decide) (fun _ => ?_) (fun z => absurd c3 z)
    cases e
    exact gx_vret dX1_setPart_32 rfl ⟨Nat.le_of_ble_eq_true rfl, Nat.le_of_ble_eq_true rfl⟩ (fun z => z)
  · refine gy_if_lt (tgt := 32) (gi_rgS g2) dX1_setPart_10 (by decide) (fun z => absurd z c3) (fun _ => ?_)
    refine gx_iload dX1_setPart_13 0 rfl ?_
    refine gx_aload_n dX1_setPart_15 rfl 1 rfl ?_
    refine gx_bE e (fun t4 ht4 e => ?_)
    refine gy_fR ht4 dX1_setPart_16 gf_RX1_25_1_3 (by decide) gkN_1_3 gkR_1_3 ?_
    refine gx_bE e (fun t5 ht5 e => ?_)
    refine gy_al0 ht5 dX1_setPart_19 ?_
    refine gx_bE e (fun _ g6 e => ?_)
    refine gx_iE e (fun c7 e => ?_) (fun c7 e => ?_)
    · refine gy_icmp_ge (tgt := 32) (gi_rgS g2) (gi_rgS g6) dX1_setPart_20 (by decide) (fun _ => ?_) (fun z => absurd c7 z)
      cases e
      exact gx_vret dX1_setPart_32 rfl ⟨Nat.le_of_ble_eq_true rfl, Nat.le_of_ble_eq_true rfl⟩ (fun z => z)
    · refine gy_icmp_ge (tgt := 32) (gi_rgS g2) (gi_rgS g6) dX1_setPart_20 (by decide) (fun z => absurd z c7) (fun _ => ?_)
      refine gx_aload_n dX1_setPart_23 rfl 1 rfl ?_
      refine gx_bE e (fun t8 ht8 e => ?_)
      refine gy_fR ht8 dX1_setPart_24 gf_RX1_25_1_3 (by decide) gkN_1_3 gkR_1_3 ?_
      refine gx_iload dX1_setPart_27 0 rfl ?_
      refine gx_iload dX1_setPart_29 5 rfl ?_
      refine gx_bE e (fun h9 hh9 e => ?_)
      refine gy_t1 hh9 dX1_setPart_31 ?_
      cases e
      exact gx_vret dX1_setPart_32 rfl ⟨Nat.le_of_ble_eq_true rfl, Nat.le_of_ble_eq_true rfl⟩ (fun z => z)
/-! X1_part 1 -/
set_option maxRecDepth 100000 in
def b_X1_part_1_33  (v0 : Nat)  (h : gi_H) : Option (Int) :=
  Option.bind (gi_is h v0 1) fun _ => Option.bind (f_X2_none v0 h) fun q5 => some q5
set_option maxRecDepth 100000 in
theorem zb_X1_part_1_33 {al : Bool}  {res : Int}  {v0 : Nat}  {h : gi_H} (e : b_X1_part_1_33 v0 h = some res) : gx_Z mX1_part al al 0 0 33 [(0, .ref v0)] [] (gi_cv h) (.inl (some (.int (gI res)))) (gi_cv h) := by
  refine gx_aload_n dX1_part_33 rfl 0 rfl ?_
  refine gx_bE e (fun _ hu4 e => ?_)
  refine gx_bE e (fun q5 hq5 e => ?_)
  refine gx_callA (n := 0) (st := []) (As := []) (b := v0) dX1_part_34 (z_X2_none hq5) rfl ⟨rfl, gw_cw_X2_none, gw_12, gp_X2_none, ⟨Nat.le_of_ble_eq_true rfl, Nat.le_of_ble_eq_true rfl⟩⟩ (gi_isS hu4) (by decide) (x := ⟨"Grammarsmith$Chart", "none", "()I"⟩) (owner := "Grammarsmith$Chart") gw_530 gw_532 gw_533 gw_534 (by decide +kernel) (by decide +kernel) ⟨Nat.le_of_ble_eq_true rfl, Nat.le_of_ble_eq_true rfl⟩ (Nat.le_of_ble_eq_true rfl) (gy_k1 (x := .int (gI q5)) (kc2 := 0) (ks2 := 0) ⟨rfl, rfl⟩ ?_) gy_kn
  cases e
  exact gx_iret dX1_part_37 rfl ⟨Nat.le_of_ble_eq_true rfl, Nat.le_of_ble_eq_true rfl⟩ (fun z => z)
set_option maxRecDepth 100000 in
def f_X1_part_1 (v0 : Nat) (v1 : Int) (v2 : Int) (v3 : Int) (h : gi_H) : Option (Int) :=
  Option.bind (f_X1_cell_1 v1 v2 v3 h) fun q1 => Option.bind (gi_rg q1) fun _ => if q1 < 0 then (b_X1_part_1_33  v0 h) else (Option.bind (gi_gR h v0 1 3) fun t6 => Option.bind (gi_ln h t6) fun t7 => Option.bind (gi_rg t7) fun _ => if t7 ≤ q1 then (b_X1_part_1_33  v0 h) else (Option.bind (gi_gR h v0 1 3) fun t10 => Option.bind (gi_aI h 1 t10 q1) fun t11 => some t11))
set_option maxRecDepth 100000 in
theorem z_X1_part_1 {al : Bool} {v0 : Nat} {v1 : Int} {v2 : Int} {v3 : Int} {h : gi_H} {res : Int} (e : f_X1_part_1 v0 v1 v2 v3 h = some res) : gx_Cw mX1_part al [.ref v0, .int (gI v1), .int (gI v2), .int (gI v3)] (gi_cv h) (.inl (some (.int (gI res)))) (gi_cv h) := by
  refine gx_enter (by decide +kernel) rfl (Nat.le_of_ble_eq_true rfl) ?_
  show gx_Z mX1_part al al 0 0 0 [(0, .ref v0), (1, .int (gI v1)), (2, .int (gI v2)), (3, .int (gI v3))] [] (gi_cv h) (.inl (some (.int (gI res)))) (gi_cv h)
  refine gx_iload_n dX1_part_0 rfl 1 rfl ?_
  refine gx_iload_n dX1_part_1 rfl 2 rfl ?_
  refine gx_iload_n dX1_part_2 rfl 3 rfl ?_
  refine gx_bE e (fun q1 hq1 e => ?_)
  refine gx_callS (n := 3) (st := []) (As := [.int (gI v1), .int (gI v2), .int (gI v3)]) dX1_part_3 (z_X1_cell_1 hq1) rfl ⟨rfl, gw_cw_X1_cell, gw_11, gp_X1_cell, ⟨Nat.le_of_ble_eq_true rfl, Nat.le_of_ble_eq_true rfl⟩⟩ gw_543 gw_544 ⟨Nat.le_of_ble_eq_true rfl, Nat.le_of_ble_eq_true rfl⟩ (Nat.le_of_ble_eq_true rfl) (gy_k1 (x := .int (gI q1)) (kc2 := 0) (ks2 := 0) ⟨rfl, rfl⟩ ?_) gy_kn
  refine gx_istore (ls2 := [(4, .int (gI q1)), (0, .ref v0), (1, .int (gI v1)), (2, .int (gI v2)), (3, .int (gI v3))]) dX1_part_6 (Nat.le_of_ble_eq_true rfl) rfl ?_
  refine gx_iload dX1_part_8 0 rfl ?_
  refine gx_bE e (fun _ g2 e => ?_)
  refine gx_iE e (fun c3 e => ?_) (fun c3 e => ?_)
  · refine gy_if_lt (tgt := 33) (gi_rgS g2) dX1_part_10 (by decide) (fun _ => ?_) (fun z => absurd c3 z)
    refine gx_sub (ls2 := [(0, .ref v0)]) [1] rfl ?_
    exact zb_X1_part_1_33  e
  · refine gy_if_lt (tgt := 33) (gi_rgS g2) dX1_part_10 (by decide) (fun z => absurd z c3) (fun _ => ?_)
    refine gx_iload dX1_part_13 0 rfl ?_
    refine gx_aload_n dX1_part_15 rfl 1 rfl ?_
    refine gx_bE e (fun t6 ht6 e => ?_)
    refine gy_fR ht6 dX1_part_16 gf_RX1_25_1_3 (by decide) gkN_1_3 gkR_1_3 ?_
    refine gx_bE e (fun t7 ht7 e => ?_)
    refine gy_al0 ht7 dX1_part_19 ?_
    refine gx_bE e (fun _ g8 e => ?_)
    refine gx_iE e (fun c9 e => ?_) (fun c9 e => ?_)
    · refine gy_icmp_ge (tgt := 33) (gi_rgS g2) (gi_rgS g8) dX1_part_20 (by decide) (fun _ => ?_) (fun z => absurd c9 z)
      refine gx_sub (ls2 := [(0, .ref v0)]) [1] rfl ?_
      exact zb_X1_part_1_33  e
    · refine gy_icmp_ge (tgt := 33) (gi_rgS g2) (gi_rgS g8) dX1_part_20 (by decide) (fun z => absurd z c9) (fun _ => ?_)
      refine gx_aload_n dX1_part_23 rfl 1 rfl ?_
      refine gx_bE e (fun t10 ht10 e => ?_)
      refine gy_fR ht10 dX1_part_24 gf_RX1_25_1_3 (by decide) gkN_1_3 gkR_1_3 ?_
      refine gx_iload dX1_part_27 0 rfl ?_
      refine gx_bE e (fun t11 ht11 e => ?_)
      refine gy_l1 ht11 dX1_part_29 ?_
      refine gx_goto (tgt := 37) dX1_part_30 (by decide) ?_
      cases e
      exact gx_iret dX1_part_37 rfl ⟨Nat.le_of_ble_eq_true rfl, Nat.le_of_ble_eq_true rfl⟩ (fun z => z)
/-! X1_look 1 -/
set_option maxRecDepth 100000 in
def b_X1_look_1_22    (h : gi_H) : Option (Int) :=
  some (8 : Int)
set_option maxRecDepth 100000 in
theorem zb_X1_look_1_22 {al : Bool}  {res : Int}    {h : gi_H} (e : b_X1_look_1_22  h = some res) : gx_Z mX1_look al al 0 0 22 [] [] (gi_cv h) (.inl (some (.int (gI res)))) (gi_cv h) := by
  refine gy_bipush dX1_look_22 gcb_8 ?_
  cases e
  exact gx_iret dX1_look_24 rfl ⟨Nat.le_of_ble_eq_true rfl, Nat.le_of_ble_eq_true rfl⟩ (fun z => z)
set_option maxRecDepth 100000 in
def f_X1_look_1 (v0 : Nat) (v1 : Int) (h : gi_H) : Option (Int) :=
  Option.bind (gi_rg v1) fun _ => if v1 < 0 then (b_X1_look_1_22   h) else (Option.bind (gi_gR h v0 1 1) fun t3 => Option.bind (gi_ln h t3) fun t4 => Option.bind (gi_rg t4) fun _ => if t4 ≤ v1 then (b_X1_look_1_22   h) else (Option.bind (gi_gR h v0 1 1) fun t7 => Option.bind (gi_aI h 1 t7 v1) fun t8 => some t8))
set_option maxRecDepth 100000 in
theorem z_X1_look_1 {al : Bool} {v0 : Nat} {v1 : Int} {h : gi_H} {res : Int} (e : f_X1_look_1 v0 v1 h = some res) : gx_Cw mX1_look al [.ref v0, .int (gI v1)] (gi_cv h) (.inl (some (.int (gI res)))) (gi_cv h) := by
  refine gx_enter (by decide +kernel) rfl (Nat.le_of_ble_eq_true rfl) ?_
  show gx_Z mX1_look al al 0 0 0 [(0, .ref v0), (1, .int (gI v1))] [] (gi_cv h) (.inl (some (.int (gI res)))) (gi_cv h)
  refine gx_iload_n dX1_look_0 rfl 1 rfl ?_
  refine gx_bE e (fun _ g1 e => ?_)
  refine gx_iE e (fun c2 e => ?_) (fun c2 e => ?_)
  · refine gy_if_lt (tgt := 22) (gi_rgS g1) dX1_look_1 (by decide) (fun _ => ?_) (fun z => absurd c2 z)
    refine gx_sub (ls2 := []) [] rfl ?_
    exact zb_X1_look_1_22  e
  · refine gy_if_lt (tgt := 22) (gi_rgS g1) dX1_look_1 (by decide) (fun z => absurd z c2) (fun _ => ?_)
    refine gx_iload_n dX1_look_4 rfl 1 rfl ?_
    refine gx_aload_n dX1_look_5 rfl 0 rfl ?_
    refine gx_bE e (fun t3 ht3 e => ?_)
    refine gy_fR ht3 dX1_look_6 gf_RX1_19_1_1 (by decide) gkN_1_1 gkR_1_1 ?_
    refine gx_bE e (fun t4 ht4 e => ?_)
    refine gy_al0 ht4 dX1_look_9 ?_
    refine gx_bE e (fun _ g5 e => ?_)
    refine gx_iE e (fun c6 e => ?_) (fun c6 e => ?_)
    · refine gy_icmp_ge (tgt := 22) (gi_rgS g1) (gi_rgS g5) dX1_look_10 (by decide) (fun _ => ?_) (fun z => absurd c6 z)
      refine gx_sub (ls2 := []) [] rfl ?_
      exact zb_X1_look_1_22  e
    · refine gy_icmp_ge (tgt := 22) (gi_rgS g1) (gi_rgS g5) dX1_look_10 (by decide) (fun z => absurd z c6) (fun _ => ?_)
      refine gx_aload_n dX1_look_13 rfl 0 rfl ?_
      refine gx_bE e (fun t7 ht7 e => ?_)
      refine gy_fR ht7 dX1_look_14 gf_RX1_19_1_1 (by decide) gkN_1_1 gkR_1_1 ?_
      refine gx_iload_n dX1_look_17 rfl 1 rfl ?_
      refine gx_bE e (fun t8 ht8 e => ?_)
      refine gy_l1 ht8 dX1_look_18 ?_
      refine gx_goto (tgt := 24) dX1_look_19 (by decide) ?_
      cases e
      exact gx_iret dX1_look_24 rfl ⟨Nat.le_of_ble_eq_true rfl, Nat.le_of_ble_eq_true rfl⟩ (fun z => z)
/-! X2_ofTerminal  -/
set_option maxRecDepth 100000 in
def b_X2_ofTerminal_20    (h : gi_H) : Option (Int) :=
  some (0 : Int)
set_option maxRecDepth 100000 in
theorem zb_X2_ofTerminal_20 {al : Bool}  {res : Int}    {h : gi_H} (e : b_X2_ofTerminal_20  h = some res) : gx_Z mX2_ofTerminal al al 0 0 20 [] [] (gi_cv h) (.inl (some (.int (gI res)))) (gi_cv h) := by
  refine gy_iconst dX2_ofTerminal_20 ?_
  cases e
  exact gx_iret dX2_ofTerminal_21 rfl ⟨Nat.le_of_ble_eq_true rfl, Nat.le_of_ble_eq_true rfl⟩ (fun z => z)
set_option maxRecDepth 100000 in
def f_X2_ofTerminal (v0 : Nat) (v1 : Int) (v2 : Int) (v3 : Int) (h : gi_H) : Option (Int) :=
  Option.bind (gi_rg (v3 - v2)) fun _ => if (v3 - v2) = (1 : Int) then (Option.bind (gi_is h v0 1) fun _ => Option.bind (f_X1_look_1 v0 v2 h) fun q4 => Option.bind (gi_rg q4) fun _ => Option.bind (gi_rg v1) fun _ => if q4 = v1 then (some (1 : Int)) else (b_X2_ofTerminal_20   h)) else (b_X2_ofTerminal_20   h)
set_option maxRecDepth 100000 in
theorem z_X2_ofTerminal {al : Bool} {v0 : Nat} {v1 : Int} {v2 : Int} {v3 : Int} {h : gi_H} {res : Int} (e : f_X2_ofTerminal v0 v1 v2 v3 h = some res) : gx_Cw mX2_ofTerminal al [.ref v0, .int (gI v1), .int (gI v2), .int (gI v3)] (gi_cv h) (.inl (some (.int (gI res)))) (gi_cv h) := by
  refine gx_enter (by decide +kernel) rfl (Nat.le_of_ble_eq_true rfl) ?_
  show gx_Z mX2_ofTerminal al al 0 0 0 [(0, .ref v0), (1, .int (gI v1)), (2, .int (gI v2)), (3, .int (gI v3))] [] (gi_cv h) (.inl (some (.int (gI res)))) (gi_cv h)
  refine gx_iload_n dX2_ofTerminal_0 rfl 3 rfl ?_
  refine gx_iload_n dX2_ofTerminal_1 rfl 2 rfl ?_
  refine gy_isub dX2_ofTerminal_2 ?_
  refine gy_iconst dX2_ofTerminal_3 ?_
  refine gx_bE e (fun _ g1 e => ?_)
  refine gx_iE e (fun c2 e => ?_) (fun c2 e => ?_)
  · refine gy_icmp_ne (tgt := 20) (gi_rgS g1) (by decide) dX2_ofTerminal_4 (by decide) (fun z => absurd c2 z) (fun _ => ?_)
    refine gx_aload_n dX2_ofTerminal_7 rfl 0 rfl ?_
    refine gx_iload_n dX2_ofTerminal_8 rfl 2 rfl ?_
    refine gx_bE e (fun _ hu3 e => ?_)
    refine gx_bE e (fun q4 hq4 e => ?_)
    refine gx_callU (n := 1) (st := []) (As := [.int (gI v2)]) (b := v0) dX2_ofTerminal_9 (z_X1_look_1 hq4) rfl ⟨rfl, gw_cw_X1_look, gw_11, gp_X1_look, ⟨Nat.le_of_ble_eq_true rfl, Nat.le_of_ble_eq_true rfl⟩⟩ (gi_isS hu3) (by decide) (x := ⟨"Grammarsmith$CountingChart", "look", "(I)I"⟩) (owner := "Grammarsmith$Chart") gw_590 gw_591 gw_593 gw_594 rfl (by decide +kernel) ⟨Nat.le_of_ble_eq_true rfl, Nat.le_of_ble_eq_true rfl⟩ (Nat.le_of_ble_eq_true rfl) (gy_k1 (x := .int (gI q4)) (kc2 := 0) (ks2 := 0) ⟨rfl, rfl⟩ ?_) gy_kn
    refine gx_iload_n dX2_ofTerminal_12 rfl 1 rfl ?_
    refine gx_bE e (fun _ g5 e => ?_)
    refine gx_bE e (fun _ g6 e => ?_)
    refine gx_iE e (fun c7 e => ?_) (fun c7 e => ?_)
    · refine gy_icmp_ne (tgt := 20) (gi_rgS g5) (gi_rgS g6) dX2_ofTerminal_13 (by decide) (fun z => absurd c7 z) (fun _ => ?_)
      refine gy_iconst dX2_ofTerminal_16 ?_
      refine gx_goto (tgt := 21) dX2_ofTerminal_17 (by decide) ?_
      cases e
      exact gx_iret dX2_ofTerminal_21 rfl ⟨Nat.le_of_ble_eq_true rfl, Nat.le_of_ble_eq_true rfl⟩ (fun z => z)
    · refine gy_icmp_ne (tgt := 20) (gi_rgS g5) (gi_rgS g6) dX2_ofTerminal_13 (by decide) (fun _ => ?_) (fun z => absurd z c7)
      refine gx_sub (ls2 := []) [] rfl ?_
      exact zb_X2_ofTerminal_20  e
  · refine gy_icmp_ne (tgt := 20) (gi_rgS g1) (by decide) dX2_ofTerminal_4 (by decide) (fun _ => ?_) (fun z => absurd z c2)
    refine gx_sub (ls2 := []) [] rfl ?_
    exact zb_X2_ofTerminal_20  e
