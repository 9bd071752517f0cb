/-! X5_run  -/
set_option maxRecDepth 100000 in
def b_X5_run_60 (n : Nat)  (v0 : Nat)  (h : gi_H) : Option (Int × gi_H) :=
  Option.bind (gi_is h v0 4) fun _ => Option.bind (f_X5_worthOfTree n v0 h) fun q20 => Option.bind (gi_is q20.2 v0 4) fun _ => Option.bind (f_X10_keepWorth_4 v0 q20.1 q20.2) fun q22 => some ((-1 : Int), q22)
set_option maxRecDepth 100000 in
theorem zb_X5_run_60 {al : Bool} {n : Nat}  {res : Int} {h1 : gi_H}  {v0 : Nat}  {h : gi_H} (e : b_X5_run_60 n v0 h = some (res, h1)) : gx_Z mX5_run al al 0 0 60 [(0, .ref v0)] [] (gi_cv h) (.inl (some (.int (gI res)))) (gi_cv h1) := by
  refine gx_aload_n dX5_run_60 rfl 0 rfl ?_
  refine gx_aload_n dX5_run_61 rfl 0 rfl ?_
  refine gx_bE e (fun _ hu19 e => ?_)
  refine gx_bE e (fun q20 hq20 e => ?_)
  refine gx_callV (n := 0) (st := [.ref v0]) (As := []) (b := v0) dX5_run_62 (z_X5_worthOfTree hq20) rfl ⟨rfl, gw_cw_X5_worthOfTree, gw_9, gp_X5_worthOfTree, ⟨Nat.le_of_ble_eq_true rfl, Nat.le_of_ble_eq_true rfl⟩⟩ (gi_isS hu19) (by decide) gw_1245 gw_1247 gs_47 rfl ⟨Nat.le_of_ble_eq_true rfl, Nat.le_of_ble_eq_true rfl⟩ (Nat.le_of_ble_eq_true rfl) (gy_k1 (x := .int (gI q20.1)) (kc2 := 0) (ks2 := 0) ⟨rfl, rfl⟩ ?_) gy_kn
  refine gx_bE e (fun _ hu21 e => ?_)
  refine gx_bE e (fun q22 hq22 e => ?_)
  refine gx_callU (n := 1) (st := []) (As := [.int (gI q20.1)]) (b := v0) dX5_run_65 (z_X10_keepWorth_4 hq22) rfl ⟨rfl, gw_cw_X10_keepWorth, gw_8, gp_X10_keepWorth, ⟨Nat.le_of_ble_eq_true rfl, Nat.le_of_ble_eq_true rfl⟩⟩ (gi_isS hu21) (by decide) (x := ⟨"Grammarsmith$PredictiveTable", "keepWorth", "(I)V"⟩) (owner := "Grammarsmith$Table") gw_1261 gw_1262 gw_1264 gw_1265 rfl (by decide +kernel) ⟨Nat.le_of_ble_eq_true rfl, Nat.le_of_ble_eq_true rfl⟩ (Nat.le_of_ble_eq_true rfl) (gy_k0 (kc2 := 0) (ks2 := 0) ⟨rfl, rfl⟩ ?_) gy_kn
  refine gy_iconst dX5_run_68 ?_
  cases e
  exact gx_iret dX5_run_69 rfl ⟨Nat.le_of_ble_eq_true rfl, Nat.le_of_ble_eq_true rfl⟩ (fun z => z)
set_option maxRecDepth 100000 in
def b_X5_run_165 (n : Nat) (r31 : Nat → Int → Int → gi_H → Option (Int × gi_H)) (v0 : Nat) (v1 : Int) (v2 : Int)  (h : gi_H) : Option (Int × gi_H) :=
  gx_nm (v2 + (1 : Int)) fun t37 => r31 v0 v1 t37 h
set_option maxRecDepth 100000 in
theorem zb_X5_run_165 {al : Bool} {n : Nat} {r31 : Nat → Int → Int → gi_H → Option (Int × gi_H)} {res : Int} {h1 : gi_H} (hr31 : ∀ (x0 : Nat) (x1 : Int) (x2 : Int) (hh : gi_H), r31 x0 x1 x2 hh = some (res, h1) → gx_Z mX5_run al al 0 0 31 [(0, .ref x0), (1, .int (gI x1)), (2, .int (gI x2))] [] (gi_cv hh) (.inl (some (.int (gI res)))) (gi_cv h1)) {v0 : Nat} {v1 : Int} {v2 : Int}  {h : gi_H} (e : b_X5_run_165 n r31 v0 v1 v2 h = some (res, h1)) : gx_Z mX5_run al al 0 0 165 [(0, .ref v0), (1, .int (gI v1)), (2, .int (gI v2))] [] (gi_cv h) (.inl (some (.int (gI res)))) (gi_cv h1) := by
  refine gx_nE e (fun t37 ht37 e => ?_)
  refine gy_iinc (v := t37) (ls2 := [(2, .int (gI t37)), (0, .ref v0), (1, .int (gI v1))]) dX5_run_165 2 rfl ht37 (Nat.le_of_ble_eq_true rfl) rfl ?_
  refine gx_goto (tgt := 31) dX5_run_168 (by decide) ?_
  refine gx_sub (ls2 := [(0, .ref v0), (1, .int (gI v1)), (2, .int (gI t37))]) [1, 2, 0] rfl ?_
  exact hr31 _ _ _ _ e
set_option maxRecDepth 100000 in
def b_X5_run_163 (n : Nat) (r31 : Nat → Int → Int → gi_H → Option (Int × gi_H)) (v0 : Nat) (v2 : Int) (s0 : Int) (s1 : Int) (h : gi_H) : Option (Int × gi_H) :=
  gx_nm (s0 + s1) fun t44 => b_X5_run_165 n r31 v0 t44 v2 h
set_option maxRecDepth 100000 in
theorem zb_X5_run_163 {al : Bool} {n : Nat} {r31 : Nat → Int → Int → gi_H → Option (Int × gi_H)} {res : Int} {h1 : gi_H} (hr31 : ∀ (x0 : Nat) (x1 : Int) (x2 : Int) (hh : gi_H), r31 x0 x1 x2 hh = some (res, h1) → gx_Z mX5_run al al 0 0 31 [(0, .ref x0), (1, .int (gI x1)), (2, .int (gI x2))] [] (gi_cv hh) (.inl (some (.int (gI res)))) (gi_cv h1)) {v0 : Nat} {v2 : Int} {s0 : Int} {s1 : Int} {h : gi_H} (e : b_X5_run_163 n r31 v0 v2 s0 s1 h = some (res, h1)) : gx_Z mX5_run al al 0 0 163 [(0, .ref v0), (2, .int (gI v2))] [.int (gI s1), .int (gI s0)] (gi_cv h) (.inl (some (.int (gI res)))) (gi_cv h1) := by
  refine gy_iadd dX5_run_163 ?_
  refine gx_nE e (fun t44 ht44 e => ?_)
  rw [ht44]
  refine gx_istore_n (ls2 := [(1, .int (gI t44)), (0, .ref v0), (2, .int (gI v2))]) dX5_run_164 rfl (Nat.le_of_ble_eq_true rfl) rfl ?_
  refine gx_sub (ls2 := [(0, .ref v0), (1, .int (gI t44)), (2, .int (gI v2))]) [1, 0, 2] rfl ?_
  exact zb_X5_run_165 hr31 e
set_option maxRecDepth 100000 in
def b_X5_run_134 (n : Nat) (r31 : Nat → Int → Int → gi_H → Option (Int × gi_H)) (v0 : Nat) (v1 : Int) (v2 : Int) (v5 : Int) (v6 : Int)  (h : gi_H) : Option (Int × gi_H) :=
  Option.bind (gi_rg v2) fun _ => if (300 : Int) ≤ v2 then (b_X5_run_165 n r31 v0 v1 v2 h) else (Option.bind (gi_is h v0 4) fun _ => Option.bind (f_X5_pop v0 h) fun q39 => Option.bind (gi_is q39.2 v0 4) fun _ => Option.bind (f_X5_apply n v0 v5 q39.2) fun q41 => Option.bind (gi_rg v6) fun _ => if v6 = 0 then (b_X5_run_163 n r31 v0 v2 v1 (0 : Int) q41) else (b_X5_run_163 n r31 v0 v2 v1 (1 : Int) q41))
set_option maxRecDepth 100000 in
theorem zb_X5_run_134 {al : Bool} {n : Nat} {r31 : Nat → Int → Int → gi_H → Option (Int × gi_H)} {res : Int} {h1 : gi_H} (hr31 : ∀ (x0 : Nat) (x1 : Int) (x2 : Int) (hh : gi_H), r31 x0 x1 x2 hh = some (res, h1) → gx_Z mX5_run al al 0 0 31 [(0, .ref x0), (1, .int (gI x1)), (2, .int (gI x2))] [] (gi_cv hh) (.inl (some (.int (gI res)))) (gi_cv h1)) {v0 : Nat} {v1 : Int} {v2 : Int} {v5 : Int} {v6 : Int}  {h : gi_H} (e : b_X5_run_134 n r31 v0 v1 v2 v5 v6 h = some (res, h1)) : gx_Z mX5_run al al 0 0 134 [(0, .ref v0), (1, .int (gI v1)), (2, .int (gI v2)), (5, .int (gI v5)), (6, .int (gI v6))] [] (gi_cv h) (.inl (some (.int (gI res)))) (gi_cv h1) := by
  refine gx_iload_n dX5_run_134 rfl 2 rfl ?_
  refine gy_sipush dX5_run_135 gcs_300 ?_
  refine gx_bE e (fun _ g35 e => ?_)
  refine gx_iE e (fun c36 e => ?_) (fun c36 e => ?_)
  · refine gy_icmp_ge (tgt := 165) (gi_rgS g35) (by decide) dX5_run_138 (by decide) (fun _ => ?_) (fun z => absurd c36 z)
    refine gx_sub (ls2 := [(0, .ref v0), (1, .int (gI v1)), (2, .int (gI v2))]) [0, 1, 2] rfl ?_
    exact zb_X5_run_165 hr31 e
  · refine gy_icmp_ge (tgt := 165) (gi_rgS g35) (by decide) dX5_run_138 (by decide) (fun z => absurd z c36) (fun _ => ?_)
    refine gx_aload_n dX5_run_141 rfl 0 rfl ?_
    refine gx_bE e (fun _ hu38 e => ?_)
    refine gx_bE e (fun q39 hq39 e => ?_)
    refine gx_callV (n := 0) (st := []) (As := []) (b := v0) dX5_run_142 (z_X5_pop hq39) rfl ⟨rfl, gw_cw_X5_pop, gw_9, gp_X5_pop, ⟨Nat.le_of_ble_eq_true rfl, Nat.le_of_ble_eq_true rfl⟩⟩ (gi_isS hu38) (by decide) gw_1253 gw_1255 gs_48 rfl ⟨Nat.le_of_ble_eq_true rfl, Nat.le_of_ble_eq_true rfl⟩ (Nat.le_of_ble_eq_true rfl) (gy_k1 (x := .int (gI q39.1)) (kc2 := 0) (ks2 := 0) ⟨rfl, rfl⟩ ?_) gy_kn
    refine gx_pop dX5_run_145 rfl ?_
    refine gx_aload_n dX5_run_146 rfl 0 rfl ?_
    refine gx_iload dX5_run_147 3 rfl ?_
    refine gx_bE e (fun _ hu40 e => ?_)
    refine gx_bE e (fun q41 hq41 e => ?_)
    refine gx_callV (n := 1) (st := []) (As := [.int (gI v5)]) (b := v0) dX5_run_149 (z_X5_apply hq41) rfl ⟨rfl, gw_cw_X5_apply, gw_9, gp_X5_apply, ⟨Nat.le_of_ble_eq_true rfl, Nat.le_of_ble_eq_true rfl⟩⟩ (gi_isS hu40) (by decide) gw_1272 gw_1274 gs_51 rfl ⟨Nat.le_of_ble_eq_true rfl, Nat.le_of_ble_eq_true rfl⟩ (Nat.le_of_ble_eq_true rfl) (gy_k0 (kc2 := 0) (ks2 := 0) ⟨rfl, rfl⟩ ?_) gy_kn
    refine gx_iload_n dX5_run_152 rfl 1 rfl ?_
    refine gx_iload dX5_run_153 4 rfl ?_
    refine gx_bE e (fun _ g42 e => ?_)
    refine gx_iE e (fun c43 e => ?_) (fun c43 e => ?_)
    · refine gy_if_eq (tgt := 162) (gi_rgS g42) dX5_run_155 (by decide) (fun _ => ?_) (fun z => absurd c43 z)
      refine gy_iconst dX5_run_162 ?_
      refine gx_sub (ls2 := [(0, .ref v0), (2, .int (gI v2))]) [0, 2] rfl ?_
      exact zb_X5_run_163 hr31 e
    · refine gy_if_eq (tgt := 162) (gi_rgS g42) dX5_run_155 (by decide) (fun z => absurd z c43) (fun _ => ?_)
      refine gy_iconst dX5_run_158 ?_
      refine gx_goto (tgt := 163) dX5_run_159 (by decide) ?_
      refine gx_sub (ls2 := [(0, .ref v0), (2, .int (gI v2))]) [0, 2] rfl ?_
      exact zb_X5_run_163 hr31 e
set_option maxRecDepth 100000 in
def b_X5_run_119 (n : Nat) (r31 : Nat → Int → Int → gi_H → Option (Int × gi_H)) (v0 : Nat) (v1 : Int) (v2 : Int) (v5 : Int) (s0 : Int) (h : gi_H) : Option (Int × gi_H) :=
  Option.bind (gi_rg s0) fun _ => if s0 = 0 then (Option.bind (gi_rg v5) fun _ => if v5 = (-1 : Int) then (some (v1, h)) else (b_X5_run_134 n r31 v0 v1 v2 v5 s0 h)) else (b_X5_run_134 n r31 v0 v1 v2 v5 s0 h)
set_option maxRecDepth 100000 in
theorem zb_X5_run_119 {al : Bool} {n : Nat} {r31 : Nat → Int → Int → gi_H → Option (Int × gi_H)} {res : Int} {h1 : gi_H} (hr31 : ∀ (x0 : Nat) (x1 : Int) (x2 : Int) (hh : gi_H), r31 x0 x1 x2 hh = some (res, h1) → gx_Z mX5_run al al 0 0 31 [(0, .ref x0), (1, .int (gI x1)), (2, .int (gI x2))] [] (gi_cv hh) (.inl (some (.int (gI res)))) (gi_cv h1)) {v0 : Nat} {v1 : Int} {v2 : Int} {v5 : Int} {s0 : Int} {h : gi_H} (e : b_X5_run_119 n r31 v0 v1 v2 v5 s0 h = some (res, h1)) : gx_Z mX5_run al al 0 0 119 [(0, .ref v0), (1, .int (gI v1)), (2, .int (gI v2)), (5, .int (gI v5))] [.int (gI s0)] (gi_cv h) (.inl (some (.int (gI res)))) (gi_cv h1) := by
  refine gx_istore (ls2 := [(6, .int (gI s0)), (0, .ref v0), (1, .int (gI v1)), (2, .int (gI v2)), (5, .int (gI v5))]) dX5_run_119 (Nat.le_of_ble_eq_true rfl) rfl ?_
  refine gx_iload dX5_run_121 0 rfl ?_
  refine gx_bE e (fun _ g31 e => ?_)
  refine gx_iE e (fun c32 e => ?_) (fun c32 e => ?_)
  · refine gy_if_ne (tgt := 134) (gi_rgS g31) dX5_run_123 (by decide) (fun z => absurd c32 z) (fun _ => ?_)
    refine gx_iload dX5_run_126 4 rfl ?_
    refine gy_iconst dX5_run_128 ?_
    refine gx_bE e (fun _ g33 e => ?_)
    refine gx_iE e (fun c34 e => ?_) (fun c34 e => ?_)
    · refine gy_icmp_ne (tgt := 134) (gi_rgS g33) (by decide) dX5_run_129 (by decide) (fun z => absurd c34 z) (fun _ => ?_)
      refine gx_iload_n dX5_run_132 rfl 2 rfl ?_
      cases e
      exact gx_iret dX5_run_133 rfl ⟨Nat.le_of_ble_eq_true rfl, Nat.le_of_ble_eq_true rfl⟩ (fun z => z)
    · refine gy_icmp_ne (tgt := 134) (gi_rgS g33) (by decide) dX5_run_129 (by decide) (fun _ => ?_) (fun z => absurd z c34)
      refine gx_sub (ls2 := [(0, .ref v0), (1, .int (gI v1)), (2, .int (gI v2)), (5, .int (gI v5)), (6, .int (gI s0))]) [1, 2, 3, 4, 0] rfl ?_
      exact zb_X5_run_134 hr31 e
  · refine gy_if_ne (tgt := 134) (gi_rgS g31) dX5_run_123 (by decide) (fun _ => ?_) (fun z => absurd z c32)
    refine gx_sub (ls2 := [(0, .ref v0), (1, .int (gI v1)), (2, .int (gI v2)), (5, .int (gI v5)), (6, .int (gI s0))]) [1, 2, 3, 4, 0] rfl ?_
    exact zb_X5_run_134 hr31 e
set_option maxRecDepth 100000 in
def b_X5_run_118 (n : Nat) (r31 : Nat → Int → Int → gi_H → Option (Int × gi_H)) (v0 : Nat) (v1 : Int) (v2 : Int) (v5 : Int)  (h : gi_H) : Option (Int × gi_H) :=
  b_X5_run_119 n r31 v0 v1 v2 v5 (0 : Int) h
set_option maxRecDepth 100000 in
theorem zb_X5_run_118 {al : Bool} {n : Nat} {r31 : Nat → Int → Int → gi_H → Option (Int × gi_H)} {res : Int} {h1 : gi_H} (hr31 : ∀ (x0 : Nat) (x1 : Int) (x2 : Int) (hh : gi_H), r31 x0 x1 x2 hh = some (res, h1) → gx_Z mX5_run al al 0 0 31 [(0, .ref x0), (1, .int (gI x1)), (2, .int (gI x2))] [] (gi_cv hh) (.inl (some (.int (gI res)))) (gi_cv h1)) {v0 : Nat} {v1 : Int} {v2 : Int} {v5 : Int}  {h : gi_H} (e : b_X5_run_118 n r31 v0 v1 v2 v5 h = some (res, h1)) : gx_Z mX5_run al al 0 0 118 [(0, .ref v0), (1, .int (gI v1)), (2, .int (gI v2)), (5, .int (gI v5))] [] (gi_cv h) (.inl (some (.int (gI res)))) (gi_cv h1) := by
  refine gy_iconst dX5_run_118 ?_
  exact zb_X5_run_119 hr31 e
set_option maxRecDepth 100000 in
def b_X5_run_98 (n : Nat) (r31 : Nat → Int → Int → gi_H → Option (Int × gi_H)) (v0 : Nat) (v1 : Int) (v2 : Int) (v3 : Int) (v4 : Int) (s0 : Int) (h : gi_H) : Option (Int × gi_H) :=
  Option.bind (f_X11_isTerminal v4 h) fun q28 => Option.bind (gi_rg q28) fun _ => if q28 = 0 then (b_X5_run_118 n r31 v0 v1 v2 s0 h) else (Option.bind (gi_rg v4) fun _ => Option.bind (gi_rg v3) fun _ => if v4 = v3 then (b_X5_run_119 n r31 v0 v1 v2 s0 (1 : Int) h) else (b_X5_run_118 n r31 v0 v1 v2 s0 h))
set_option maxRecDepth 100000 in
theorem zb_X5_run_98 {al : Bool} {n : Nat} {r31 : Nat → Int → Int → gi_H → Option (Int × gi_H)} {res : Int} {h1 : gi_H} (hr31 : ∀ (x0 : Nat) (x1 : Int) (x2 : Int) (hh : gi_H), r31 x0 x1 x2 hh = some (res, h1) → gx_Z mX5_run al al 0 0 31 [(0, .ref x0), (1, .int (gI x1)), (2, .int (gI x2))] [] (gi_cv hh) (.inl (some (.int (gI res)))) (gi_cv h1)) {v0 : Nat} {v1 : Int} {v2 : Int} {v3 : Int} {v4 : Int} {s0 : Int} {h : gi_H} (e : b_X5_run_98 n r31 v0 v1 v2 v3 v4 s0 h = some (res, h1)) : gx_Z mX5_run al al 0 0 98 [(0, .ref v0), (1, .int (gI v1)), (2, .int (gI v2)), (3, .int (gI v3)), (4, .int (gI v4))] [.int (gI s0)] (gi_cv h) (.inl (some (.int (gI res)))) (gi_cv h1) := by
  refine gx_istore (ls2 := [(5, .int (gI s0)), (0, .ref v0), (1, .int (gI v1)), (2, .int (gI v2)), (3, .int (gI v3)), (4, .int (gI v4))]) dX5_run_98 (Nat.le_of_ble_eq_true rfl) rfl ?_
  refine gx_iload dX5_run_100 5 rfl ?_
  refine gx_bE e (fun q28 hq28 e => ?_)
  refine gx_callSN (n := 1) (st := []) (As := [.int (gI v4)]) dX5_run_102 (z_X11_isTerminal hq28) rfl ⟨rfl, gw_cw_X11_isTerminal, gw_1, gp_X11_isTerminal, ⟨Nat.le_of_ble_eq_true rfl, Nat.le_of_ble_eq_true rfl⟩⟩ (host := "Grammarsmith") (by decide +kernel) gw_646 ⟨Nat.le_of_ble_eq_true rfl, Nat.le_of_ble_eq_true rfl⟩ (Nat.le_of_ble_eq_true rfl) (gy_k1 (x := .int (gI q28)) (kc2 := 0) (ks2 := 0) ⟨rfl, rfl⟩ ?_) gy_kn
  refine gx_bE e (fun _ g29 e => ?_)
  refine gx_iE e (fun c30 e => ?_) (fun c30 e => ?_)
  · refine gy_if_eq (tgt := 118) (gi_rgS g29) dX5_run_105 (by decide) (fun _ => ?_) (fun z => absurd c30 z)
    refine gx_sub (ls2 := [(0, .ref v0), (1, .int (gI v1)), (2, .int (gI v2)), (5, .int (gI s0))]) [1, 2, 3, 0] rfl ?_
    exact zb_X5_run_118 hr31 e
  · refine gy_if_eq (tgt := 118) (gi_rgS g29) dX5_run_105 (by decide) (fun z => absurd z c30) (fun _ => ?_)
    refine gx_iload dX5_run_108 5 rfl ?_
    refine gx_iload_n dX5_run_110 rfl 4 rfl ?_
    refine gx_bE e (fun _ g45 e => ?_)
    refine gx_bE e (fun _ g46 e => ?_)
    refine gx_iE e (fun c47 e => ?_) (fun c47 e => ?_)
    · refine gy_icmp_ne (tgt := 118) (gi_rgS g45) (gi_rgS g46) dX5_run_111 (by decide) (fun z => absurd c47 z) (fun _ => ?_)
      refine gy_iconst dX5_run_114 ?_
      refine gx_goto (tgt := 119) dX5_run_115 (by decide) ?_
      refine gx_sub (ls2 := [(0, .ref v0), (1, .int (gI v1)), (2, .int (gI v2)), (5, .int (gI s0))]) [1, 2, 3, 0] rfl ?_
      exact zb_X5_run_119 hr31 e
    · refine gy_icmp_ne (tgt := 118) (gi_rgS g45) (gi_rgS g46) dX5_run_111 (by decide) (fun _ => ?_) (fun z => absurd z c47)
      refine gx_sub (ls2 := [(0, .ref v0), (1, .int (gI v1)), (2, .int (gI v2)), (5, .int (gI s0))]) [1, 2, 3, 0] rfl ?_
      exact zb_X5_run_118 hr31 e
set_option maxRecDepth 100000 in
def b_X5_run_70 (n : Nat) (r31 : Nat → Int → Int → gi_H → Option (Int × gi_H)) (v0 : Nat) (v1 : Int) (v2 : Int) (v3 : Int)  (h : gi_H) : Option (Int × gi_H) :=
  Option.bind (gi_is h v0 4) fun _ => Option.bind (f_X5_next v0 h) fun q24 => Option.bind (f_X11_isNonterminal q24 h) fun q25 => Option.bind (gi_rg q25) fun _ => if q25 = 0 then (b_X5_run_98 n r31 v0 v1 v2 v3 q24 (-1 : Int) h) else (Option.bind (gi_is h v0 4) fun _ => Option.bind (f_X5_lowestIn n v0 (q24 - (16 : Int)) v3 h) fun q49 => b_X5_run_98 n r31 v0 v1 v2 v3 q24 q49 h)
set_option maxRecDepth 100000 in
theorem zb_X5_run_70 {al : Bool} {n : Nat} {r31 : Nat → Int → Int → gi_H → Option (Int × gi_H)} {res : Int} {h1 : gi_H} (hr31 : ∀ (x0 : Nat) (x1 : Int) (x2 : Int) (hh : gi_H), r31 x0 x1 x2 hh = some (res, h1) → gx_Z mX5_run al al 0 0 31 [(0, .ref x0), (1, .int (gI x1)), (2, .int (gI x2))] [] (gi_cv hh) (.inl (some (.int (gI res)))) (gi_cv h1)) {v0 : Nat} {v1 : Int} {v2 : Int} {v3 : Int}  {h : gi_H} (e : b_X5_run_70 n r31 v0 v1 v2 v3 h = some (res, h1)) : gx_Z mX5_run al al 0 0 70 [(0, .ref v0), (1, .int (gI v1)), (2, .int (gI v2)), (3, .int (gI v3))] [] (gi_cv h) (.inl (some (.int (gI res)))) (gi_cv h1) := by
  refine gx_aload_n dX5_run_70 rfl 0 rfl ?_
  refine gx_bE e (fun _ hu23 e => ?_)
  refine gx_bE e (fun q24 hq24 e => ?_)
  refine gx_callV (n := 0) (st := []) (As := []) (b := v0) dX5_run_71 (z_X5_next hq24) rfl ⟨rfl, gw_cw_X5_next, gw_9, gp_X5_next, ⟨Nat.le_of_ble_eq_true rfl, Nat.le_of_ble_eq_true rfl⟩⟩ (gi_isS hu23) (by decide) gw_1257 gw_1259 gs_49 rfl ⟨Nat.le_of_ble_eq_true rfl, Nat.le_of_ble_eq_true rfl⟩ (Nat.le_of_ble_eq_true rfl) (gy_k1 (x := .int (gI q24)) (kc2 := 0) (ks2 := 0) ⟨rfl, rfl⟩ ?_) gy_kn
  refine gx_istore (ls2 := [(4, .int (gI q24)), (0, .ref v0), (1, .int (gI v1)), (2, .int (gI v2)), (3, .int (gI v3))]) dX5_run_74 (Nat.le_of_ble_eq_true rfl) rfl ?_
  refine gx_iload dX5_run_76 0 rfl ?_
  refine gx_bE e (fun q25 hq25 e => ?_)
  refine gx_callSN (n := 1) (st := []) (As := [.int (gI q24)]) dX5_run_78 (z_X11_isNonterminal hq25) rfl ⟨rfl, gw_cw_X11_isNonterminal, gw_1, gp_X11_isNonterminal, ⟨Nat.le_of_ble_eq_true rfl, Nat.le_of_ble_eq_true rfl⟩⟩ (host := "Grammarsmith") (by decide +kernel) gw_451 ⟨Nat.le_of_ble_eq_true rfl, Nat.le_of_ble_eq_true rfl⟩ (Nat.le_of_ble_eq_true rfl) (gy_k1 (x := .int (gI q25)) (kc2 := 0) (ks2 := 0) ⟨rfl, rfl⟩ ?_) gy_kn
  refine gx_bE e (fun _ g26 e => ?_)
  refine gx_iE e (fun c27 e => ?_) (fun c27 e => ?_)
  · refine gy_if_eq (tgt := 97) (gi_rgS g26) dX5_run_81 (by decide) (fun _ => ?_) (fun z => absurd c27 z)
    refine gy_iconst dX5_run_97 ?_
    refine gx_sub (ls2 := [(0, .ref v0), (1, .int (gI v1)), (2, .int (gI v2)), (3, .int (gI v3)), (4, .int (gI q24))]) [1, 2, 3, 4, 0] rfl ?_
    exact zb_X5_run_98 hr31 e
  · refine gy_if_eq (tgt := 97) (gi_rgS g26) dX5_run_81 (by decide) (fun z => absurd z c27) (fun _ => ?_)
    refine gx_aload_n dX5_run_84 rfl 1 rfl ?_
    refine gx_iload dX5_run_85 0 rfl ?_
    refine gy_bipush dX5_run_87 gcb_16 ?_
    refine gy_isub dX5_run_89 ?_
    refine gx_iload_n dX5_run_90 rfl 4 rfl ?_
    refine gx_bE e (fun _ hu48 e => ?_)
    refine gx_bE e (fun q49 hq49 e => ?_)
    refine gx_callV (n := 2) (st := []) (As := [.int (gI (q24 - (16 : Int))), .int (gI v3)]) (b := v0) dX5_run_91 (z_X5_lowestIn hq49) rfl ⟨rfl, gw_cw_X5_lowestIn, gw_9, gp_X5_lowestIn, ⟨Nat.le_of_ble_eq_true rfl, Nat.le_of_ble_eq_true rfl⟩⟩ (gi_isS hu48) (by decide) gw_1268 gw_1270 gs_50 rfl ⟨Nat.le_of_ble_eq_true rfl, Nat.le_of_ble_eq_true rfl⟩ (Nat.le_of_ble_eq_true rfl) (gy_k1 (x := .int (gI q49)) (kc2 := 0) (ks2 := 0) ⟨rfl, rfl⟩ ?_) gy_kn
    refine gx_goto (tgt := 98) dX5_run_94 (by decide) ?_
    refine gx_sub (ls2 := [(0, .ref v0), (1, .int (gI v1)), (2, .int (gI v2)), (3, .int (gI v3)), (4, .int (gI q24))]) [1, 2, 3, 4, 0] rfl ?_
    exact zb_X5_run_98 hr31 e
set_option maxRecDepth 100000 in
def b_X5_run_31 (n : Nat) (r31 : Nat → Int → Int → gi_H → Option (Int × gi_H)) (v0 : Nat) (v1 : Int) (v2 : Int)  (h : gi_H) : Option (Int × gi_H) :=
  Option.bind (gi_rg v2) fun _ => if (300 : Int) < v2 then (some ((-3 : Int), h)) else (Option.bind (gi_gR h v0 4 2) fun t12 => Option.bind (f_X11_lookAt t12 v1 h) fun q13 => Option.bind (gi_gI h v0 4 4) fun t14 => Option.bind (gi_rg t14) fun _ => if t14 = 0 then (Option.bind (gi_rg q13) fun _ => if q13 = (8 : Int) then (b_X5_run_60 n  v0 h) else (b_X5_run_70 n r31 v0 v1 v2 q13 h)) else (b_X5_run_70 n r31 v0 v1 v2 q13 h))
set_option maxRecDepth 100000 in
theorem zb_X5_run_31 {al : Bool} {n : Nat} {r31 : Nat → Int → Int → gi_H → Option (Int × gi_H)} {res : Int} {h1 : gi_H} (hr31 : ∀ (x0 : Nat) (x1 : Int) (x2 : Int) (hh : gi_H), r31 x0 x1 x2 hh = some (res, h1) → gx_Z mX5_run al al 0 0 31 [(0, .ref x0), (1, .int (gI x1)), (2, .int (gI x2))] [] (gi_cv hh) (.inl (some (.int (gI res)))) (gi_cv h1)) {v0 : Nat} {v1 : Int} {v2 : Int}  {h : gi_H} (e : b_X5_run_31 n r31 v0 v1 v2 h = some (res, h1)) : gx_Z mX5_run al al 0 0 31 [(0, .ref v0), (1, .int (gI v1)), (2, .int (gI v2))] [] (gi_cv h) (.inl (some (.int (gI res)))) (gi_cv h1) := by
  refine gx_iload_n dX5_run_31 rfl 2 rfl ?_
  refine gy_sipush dX5_run_32 gcs_300 ?_
  refine gx_bE e (fun _ g10 e => ?_)
  refine gx_iE e (fun c11 e => ?_) (fun c11 e => ?_)
  · refine gy_icmp_gt (tgt := 171) (gi_rgS g10) (by decide) dX5_run_35 (by decide) (fun _ => ?_) (fun z => absurd c11 z)
    refine gy_bipush dX5_run_171 gcb_m3 ?_
    cases e
    exact gx_iret dX5_run_173 rfl ⟨Nat.le_of_ble_eq_true rfl, Nat.le_of_ble_eq_true rfl⟩ (fun z => z)
  · refine gy_icmp_gt (tgt := 171) (gi_rgS g10) (by decide) dX5_run_35 (by decide) (fun z => absurd z c11) (fun _ => ?_)
    refine gx_aload_n dX5_run_38 rfl 0 rfl ?_
    refine gx_bE e (fun t12 ht12 e => ?_)
    refine gy_fR ht12 dX5_run_39 gf_RX5_22_4_2 (by decide) gkN_4_2 gkR_4_2 ?_
    refine gx_iload_n dX5_run_42 rfl 1 rfl ?_
    refine gx_bE e (fun q13 hq13 e => ?_)
    refine gx_callSN (n := 2) (st := []) (As := [.ref t12, .int (gI v1)]) dX5_run_43 (z_X11_lookAt hq13) rfl ⟨rfl, gw_cw_X11_lookAt, gw_1, gp_X11_lookAt, ⟨Nat.le_of_ble_eq_true rfl, Nat.le_of_ble_eq_true rfl⟩⟩ (host := "Grammarsmith") (by decide +kernel) gw_1243 ⟨Nat.le_of_ble_eq_true rfl, Nat.le_of_ble_eq_true rfl⟩ (Nat.le_of_ble_eq_true rfl) (gy_k1 (x := .int (gI q13)) (kc2 := 0) (ks2 := 0) ⟨rfl, rfl⟩ ?_) gy_kn
    refine gx_istore_n (ls2 := [(3, .int (gI q13)), (0, .ref v0), (1, .int (gI v1)), (2, .int (gI v2))]) dX5_run_46 rfl (Nat.le_of_ble_eq_true rfl) rfl ?_
    refine gx_aload_n dX5_run_47 rfl 1 rfl ?_
    refine gx_bE e (fun t14 ht14 e => ?_)
    refine gy_fI ht14 dX5_run_48 gf_RX5_29_4_4 (by decide) gkN_4_4 gkR_4_4 ?_
    refine gx_bE e (fun _ g15 e => ?_)
    refine gx_iE e (fun c16 e => ?_) (fun c16 e => ?_)
    · refine gy_if_ne (tgt := 70) (gi_rgS g15) dX5_run_51 (by decide) (fun z => absurd c16 z) (fun _ => ?_)
      refine gx_iload_n dX5_run_54 rfl 0 rfl ?_
      refine gy_bipush dX5_run_55 gcb_8 ?_
      refine gx_bE e (fun _ g17 e => ?_)
      refine gx_iE e (fun c18 e => ?_) (fun c18 e => ?_)
      · refine gy_icmp_ne (tgt := 70) (gi_rgS g17) (by decide) dX5_run_57 (by decide) (fun z => absurd c18 z) (fun _ => ?_)
        refine gx_sub (ls2 := [(0, .ref v0)]) [1] rfl ?_
        exact zb_X5_run_60  e
      · refine gy_icmp_ne (tgt := 70) (gi_rgS g17) (by decide) dX5_run_57 (by decide) (fun _ => ?_) (fun z => absurd z c18)
        refine gx_sub (ls2 := [(0, .ref v0), (1, .int (gI v1)), (2, .int (gI v2)), (3, .int (gI q13))]) [1, 2, 3, 0] rfl ?_
        exact zb_X5_run_70 hr31 e
    · refine gy_if_ne (tgt := 70) (gi_rgS g15) dX5_run_51 (by decide) (fun _ => ?_) (fun z => absurd z c16)
      refine gx_sub (ls2 := [(0, .ref v0), (1, .int (gI v1)), (2, .int (gI v2)), (3, .int (gI q13))]) [1, 2, 3, 0] rfl ?_
      exact zb_X5_run_70 hr31 e
def l_X5_run_31 (n : Nat)  : Nat → Nat → Int → Int → gi_H → Option (Int × gi_H)
  | 0, _, _, _, _ => none
  | k + 1, v0, v1, v2, h => b_X5_run_31 n  (l_X5_run_31 n  k) v0 v1 v2 h
theorem zl_X5_run_31 {al : Bool} {n : Nat}  {res : Int} {h1 : gi_H}  : ∀ (k : Nat) (v0 : Nat) (v1 : Int) (v2 : Int) (h : gi_H), l_X5_run_31 n  k v0 v1 v2 h = some (res, h1) → gx_Z mX5_run al al 0 0 31 [(0, .ref v0), (1, .int (gI v1)), (2, .int (gI v2))] [] (gi_cv h) (.inl (some (.int (gI res)))) (gi_cv h1)
  | 0, _, _, _, _, e => gx_0E e
  | k + 1, _, _, _, _, e => zb_X5_run_31 (n := n)  (zl_X5_run_31  k) e
set_option maxRecDepth 100000 in
def f_X5_run (n : Nat) (v0 : Nat) (h : gi_H) : Option (Int × gi_H) :=
  Option.bind (gi_pI h v0 4 4 (0 : Int)) fun h1 => Option.bind (gi_pI h1 v0 4 6 (0 : Int)) fun h2 => Option.bind (gi_gR h2 v0 4 1) fun t3 => Option.bind (gi_is h2 t3 2) fun _ => Option.bind (f_X3_grammar t3 h2) fun q5 => Option.bind (gi_is h2 q5 3) fun _ => Option.bind (f_X4_top q5 h2) fun q7 => Option.bind (gi_is h2 v0 4) fun _ => Option.bind (f_X5_push v0 ((16 : Int) + q7) h2) fun q9 => l_X5_run_31 n  n v0 (0 : Int) (0 : Int) q9
set_option maxRecDepth 100000 in
theorem z_X5_run {al : Bool} {n : Nat} {v0 : Nat} {h : gi_H} {res : Int} {h1 : gi_H} (e : f_X5_run n v0 h = some (res, h1)) : gx_Cw mX5_run al [.ref v0] (gi_cv h) (.inl (some (.int (gI res)))) (gi_cv h1) := by
  refine gx_enter (by decide +kernel) rfl (Nat.le_of_ble_eq_true rfl) ?_
  show gx_Z mX5_run al al 0 0 0 [(0, .ref v0)] [] (gi_cv h) (.inl (some (.int (gI res)))) (gi_cv h1)
  refine gx_aload_n dX5_run_0 rfl 0 rfl ?_
  refine gy_iconst dX5_run_1 ?_
  refine gx_bE e (fun h1 hh1 e => ?_)
  refine gy_qI hh1 dX5_run_2 gf_RX5_29_4_4 (by decide) gkN_4_4 rfl (Or.inl rfl) ?_
  refine gx_aload_n dX5_run_5 rfl 0 rfl ?_
  refine gy_iconst dX5_run_6 ?_
  refine gx_bE e (fun h2 hh2 e => ?_)
  refine gy_qI hh2 dX5_run_7 gf_RX5_33_4_6 (by decide) gkN_4_6 rfl (Or.inl rfl) ?_
  refine gx_aload_n dX5_run_10 rfl 0 rfl ?_
  refine gy_bipush dX5_run_11 gcb_16 ?_
  refine gx_aload_n dX5_run_13 rfl 0 rfl ?_
  refine gx_bE e (fun t3 ht3 e => ?_)
  refine gy_fR ht3 dX5_run_14 gf_RX5_18_4_1 (by decide) gkN_4_1 gkR_4_1 ?_
  refine gx_bE e (fun _ hu4 e => ?_)
  refine gx_bE e (fun q5 hq5 e => ?_)
  refine gx_callV (n := 0) (st := [.int (gI (16 : Int)), .ref v0]) (As := []) (b := t3) dX5_run_17 (z_X3_grammar hq5) rfl ⟨rfl, gw_cw_X3_grammar, gw_6, gp_X3_grammar, ⟨Nat.le_of_ble_eq_true rfl, Nat.le_of_ble_eq_true rfl⟩⟩ (gi_isS hu4) (by decide) gw_604 gw_556 gw_557 rfl ⟨Nat.le_of_ble_eq_true rfl, Nat.le_of_ble_eq_true rfl⟩ (Nat.le_of_ble_eq_true rfl) (gy_k1 (x := .ref q5) (kc2 := 0) (ks2 := 0) ⟨rfl, rfl⟩ ?_) gy_kn
  refine gx_bE e (fun _ hu6 e => ?_)
  refine gx_bE e (fun q7 hq7 e => ?_)
  refine gx_callV (n := 0) (st := [.int (gI (16 : Int)), .ref v0]) (As := []) (b := q5) dX5_run_20 (z_X4_top hq7) rfl ⟨rfl, gw_cw_X4_top, gw_3, gp_X4_top, ⟨Nat.le_of_ble_eq_true rfl, Nat.le_of_ble_eq_true rfl⟩⟩ (gi_isS hu6) (by decide) gw_1237 gw_443 gw_444 rfl ⟨Nat.le_of_ble_eq_true rfl, Nat.le_of_ble_eq_true rfl⟩ (Nat.le_of_ble_eq_true rfl) (gy_k1 (x := .int (gI q7)) (kc2 := 0) (ks2 := 0) ⟨rfl, rfl⟩ ?_) gy_kn
  refine gy_iadd dX5_run_23 ?_
  refine gx_bE e (fun _ hu8 e => ?_)
  refine gx_bE e (fun q9 hq9 e => ?_)
  refine gx_callV (n := 1) (st := []) (As := [.int (gI ((16 : Int) + q7))]) (b := v0) dX5_run_24 (z_X5_push hq9) rfl ⟨rfl, gw_cw_X5_push, gw_9, gp_X5_push, ⟨Nat.le_of_ble_eq_true rfl, Nat.le_of_ble_eq_true rfl⟩⟩ (gi_isS hu8) (by decide) gw_1238 gw_1240 gs_46 rfl ⟨Nat.le_of_ble_eq_true rfl, Nat.le_of_ble_eq_true rfl⟩ (Nat.le_of_ble_eq_true rfl) (gy_k0 (kc2 := 0) (ks2 := 0) ⟨rfl, rfl⟩ ?_) gy_kn
  refine gy_iconst dX5_run_27 ?_
  refine gx_istore_n (ls2 := [(1, .int (gI (0 : Int))), (0, .ref v0)]) dX5_run_28 rfl (Nat.le_of_ble_eq_true rfl) rfl ?_
  refine gy_iconst dX5_run_29 ?_
  refine gx_istore_n (ls2 := [(2, .int (gI (0 : Int))), (1, .int (gI (0 : Int))), (0, .ref v0)]) dX5_run_30 rfl (Nat.le_of_ble_eq_true rfl) rfl ?_
  refine gx_sub (ls2 := [(0, .ref v0), (1, .int (gI (0 : Int))), (2, .int (gI (0 : Int)))]) [2, 1, 0] rfl ?_
  exact zl_X5_run_31  n _ _ _ _ e
/-! X9_push  -/
set_option maxRecDepth 100000 in
def f_X9_push (v0 : Nat) (v1 : Int) (v2 : Int) (h : gi_H) : Option (gi_H) :=
  Option.bind (gi_gI h v0 8 12) fun t1 => Option.bind (gi_rg t1) fun _ => if t1 < 0 then (some h) else (Option.bind (gi_gI h v0 8 12) fun t4 => Option.bind (gi_gR h v0 8 10) fun t5 => Option.bind (gi_ln h t5) fun t6 => Option.bind (gi_rg t4) fun _ => Option.bind (gi_rg t6) fun _ => if t6 ≤ t4 then (some h) else (Option.bind (gi_gI h v0 8 12) fun t10 => Option.bind (gi_gR h v0 8 11) fun t11 => Option.bind (gi_ln h t11) fun t12 => Option.bind (gi_rg t10) fun _ => Option.bind (gi_rg t12) fun _ => if t12 ≤ t10 then (some h) else (Option.bind (gi_gR h v0 8 10) fun t16 => Option.bind (gi_gI h v0 8 12) fun t17 => Option.bind (gi_s1 h t16 t17 v1) fun h18 => Option.bind (gi_gR h18 v0 8 11) fun t19 => Option.bind (gi_gI h18 v0 8 12) fun t20 => Option.bind (gi_s1 h18 t19 t20 v2) fun h21 => Option.bind (gi_gI h21 v0 8 12) fun t22 => Option.bind (gi_pI h21 v0 8 12 (t22 + (1 : Int))) fun h23 => some h23)))
set_option maxRecDepth 100000 in
theorem z_X9_push {al : Bool} {v0 : Nat} {v1 : Int} {v2 : Int} {h : gi_H} {h1 : gi_H} (e : f_X9_push v0 v1 v2 h = some h1) : gx_Cw mX9_push al [.ref v0, .int (gI v1), .int (gI v2)] (gi_cv h) (.inl none) (gi_cv h1) := by
  refine gx_enter (by decide +kernel) rfl (Nat.le_of_ble_eq_true rfl) ?_
  show gx_Z mX9_push al al 0 0 0 [(0, .ref v0), (1, .int (gI v1)), (2, .int (gI v2))] [] (gi_cv h) (.inl none) (gi_cv h1)
  refine gx_aload_n dX9_push_0 rfl 0 rfl ?_
  refine gx_bE e (fun t1 ht1 e => ?_)
  refine gy_fI ht1 dX9_push_1 gf_RX9_45_8_12 (by decide) gkN_8_12 gkR_8_12 ?_
  refine gx_bE e (fun _ g2 e => ?_)
  refine gx_iE e (fun c3 e => ?_) (fun c3 e => ?_)
  · refine gy_if_lt (tgt := 61) (gi_rgS g2) dX9_push_4 (by decide) (fun _ => ?_) (fun z => absurd c3 z)
    cases e
    exact gx_vret dX9_push_61 rfl ⟨Nat.le_of_ble_eq_true rfl, Nat.le_of_ble_eq_true rfl⟩ (fun z => z)
  · refine gy_if_lt (tgt := 61) (gi_rgS g2) dX9_push_4 (by decide) (fun z => absurd z c3) (fun _ => ?_)
    refine gx_aload_n dX9_push_7 rfl 0 rfl ?_
    refine gx_bE e (fun t4 ht4 e => ?_)
    refine gy_fI ht4 dX9_push_8 gf_RX9_45_8_12 (by decide) gkN_8_12 gkR_8_12 ?_
    refine gx_aload_n dX9_push_11 rfl 0 rfl ?_
    refine gx_bE e (fun t5 ht5 e => ?_)
    refine gy_fR ht5 dX9_push_12 gf_RX9_9_8_10 (by decide) gkN_8_10 gkR_8_10 ?_
    refine gx_bE e (fun t6 ht6 e => ?_)
    refine gy_al0 ht6 dX9_push_15 ?_
    refine gx_bE e (fun _ g7 e => ?_)
    refine gx_bE e (fun _ g8 e => ?_)
    refine gx_iE e (fun c9 e => ?_) (fun c9 e => ?_)
    · refine gy_icmp_ge (tgt := 61) (gi_rgS g7) (gi_rgS g8) dX9_push_16 (by decide) (fun _ => ?_) (fun z => absurd c9 z)
      cases e
      exact gx_vret dX9_push_61 rfl ⟨Nat.le_of_ble_eq_true rfl, Nat.le_of_ble_eq_true rfl⟩ (fun z => z)
    · refine gy_icmp_ge (tgt := 61) (gi_rgS g7) (gi_rgS g8) dX9_push_16 (by decide) (fun z => absurd z c9) (fun _ => ?_)
      refine gx_aload_n dX9_push_19 rfl 0 rfl ?_
      refine gx_bE e (fun t10 ht10 e => ?_)
      refine gy_fI ht10 dX9_push_20 gf_RX9_45_8_12 (by decide) gkN_8_12 gkR_8_12 ?_
      refine gx_aload_n dX9_push_23 rfl 0 rfl ?_
      refine gx_bE e (fun t11 ht11 e => ?_)
      refine gy_fR ht11 dX9_push_24 gf_RX9_15_8_11 (by decide) gkN_8_11 gkR_8_11 ?_
      refine gx_bE e (fun t12 ht12 e => ?_)
      refine gy_al0 ht12 dX9_push_27 ?_
      refine gx_bE e (fun _ g13 e => ?_)
      refine gx_bE e (fun _ g14 e => ?_)
      refine gx_iE e (fun c15 e => ?_) (fun c15 e => ?_)
      · refine gy_icmp_ge (tgt := 61) (gi_rgS g13) (gi_rgS g14) dX9_push_28 (by decide) (fun _ => ?_) (fun z => absurd c15 z)
        cases e
        exact gx_vret dX9_push_61 rfl ⟨Nat.le_of_ble_eq_true rfl, Nat.le_of_ble_eq_true rfl⟩ (fun z => z)
      · refine gy_icmp_ge (tgt := 61) (gi_rgS g13) (gi_rgS g14) dX9_push_28 (by decide) (fun z => absurd z c15) (fun _ => ?_)
        refine gx_aload_n dX9_push_31 rfl 0 rfl ?_
        refine gx_bE e (fun t16 ht16 e => ?_)
        refine gy_fR ht16 dX9_push_32 gf_RX9_9_8_10 (by decide) gkN_8_10 gkR_8_10 ?_
        refine gx_aload_n dX9_push_35 rfl 0 rfl ?_
        refine gx_bE e (fun t17 ht17 e => ?_)
        refine gy_fI ht17 dX9_push_36 gf_RX9_45_8_12 (by decide) gkN_8_12 gkR_8_12 ?_
        refine gx_iload_n dX9_push_39 rfl 1 rfl ?_
        refine gx_bE e (fun h18 hh18 e => ?_)
        refine gy_t1 hh18 dX9_push_40 ?_
        refine gx_aload_n dX9_push_41 rfl 0 rfl ?_
        refine gx_bE e (fun t19 ht19 e => ?_)
        refine gy_fR ht19 dX9_push_42 gf_RX9_15_8_11 (by decide) gkN_8_11 gkR_8_11 ?_
        refine gx_aload_n dX9_push_45 rfl 0 rfl ?_
        refine gx_bE e (fun t20 ht20 e => ?_)
        refine gy_fI ht20 dX9_push_46 gf_RX9_45_8_12 (by decide) gkN_8_12 gkR_8_12 ?_
        refine gx_iload_n dX9_push_49 rfl 2 rfl ?_
        refine gx_bE e (fun h21 hh21 e => ?_)
        refine gy_t1 hh21 dX9_push_50 ?_
        refine gx_aload_n dX9_push_51 rfl 0 rfl ?_
        refine gx_dup dX9_push_52 rfl ?_
        refine gx_bE e (fun t22 ht22 e => ?_)
        refine gy_fI ht22 dX9_push_53 gf_RX9_45_8_12 (by decide) gkN_8_12 gkR_8_12 ?_
        refine gy_iconst dX9_push_56 ?_
        refine gy_iadd dX9_push_57 ?_
        refine gx_bE e (fun h23 hh23 e => ?_)
        refine gy_qI hh23 dX9_push_58 gf_RX9_45_8_12 (by decide) gkN_8_12 rfl (Or.inl rfl) ?_
        cases e
        exact gx_vret dX9_push_61 rfl ⟨Nat.le_of_ble_eq_true rfl, Nat.le_of_ble_eq_true rfl⟩ (fun z => z)
/-! X9_state  -/
set_option maxRecDepth 100000 in
def b_X9_state_33    (h : gi_H) : Option (Int) :=
  some (-1 : Int)
set_option maxRecDepth 100000 in
theorem zb_X9_state_33 {al : Bool}  {res : Int}    {h : gi_H} (e : b_X9_state_33  h = some res) : gx_Z mX9_state al al 0 0 33 [] [] (gi_cv h) (.inl (some (.int (gI res)))) (gi_cv h) := by
  refine gy_iconst dX9_state_33 ?_
  cases e
  exact gx_iret dX9_state_34 rfl ⟨Nat.le_of_ble_eq_true rfl, Nat.le_of_ble_eq_true rfl⟩ (fun z => z)
set_option maxRecDepth 100000 in
def f_X9_state (v0 : Nat) (h : gi_H) : Option (Int) :=
  Option.bind (gi_gI h v0 8 12) fun t1 => Option.bind (gi_rg t1) fun _ => if t1 ≤ 0 then (b_X9_state_33   h) else (Option.bind (gi_gI h v0 8 12) fun t4 => Option.bind (gi_gR h v0 8 10) fun t5 => Option.bind (gi_ln h t5) fun t6 => Option.bind (gi_rg t4) fun _ => Option.bind (gi_rg t6) fun _ => if t6 < t4 then (b_X9_state_33   h) else (Option.bind (gi_gR h v0 8 10) fun t10 => Option.bind (gi_gI h v0 8 12) fun t11 => Option.bind (gi_aI h 1 t10 (t11 - (1 : Int))) fun t12 => some t12))
set_option maxRecDepth 100000 in
theorem z_X9_state {al : Bool} {v0 : Nat} {h : gi_H} {res : Int} (e : f_X9_state v0 h = some res) : gx_Cw mX9_state al [.ref v0] (gi_cv h) (.inl (some (.int (gI res)))) (gi_cv h) := by
  refine gx_enter (by decide +kernel) rfl (Nat.le_of_ble_eq_true rfl) ?_
  show gx_Z mX9_state al al 0 0 0 [(0, .ref v0)] [] (gi_cv h) (.inl (some (.int (gI res)))) (gi_cv h)
  refine gx_aload_n dX9_state_0 rfl 0 rfl ?_
  refine gx_bE e (fun t1 ht1 e => ?_)
  refine gy_fI ht1 dX9_state_1 gf_RX9_45_8_12 (by decide) gkN_8_12 gkR_8_12 ?_
  refine gx_bE e (fun _ g2 e => ?_)
  refine gx_iE e (fun c3 e => ?_) (fun c3 e => ?_)
  · refine gy_if_le (tgt := 33) (gi_rgS g2) dX9_state_4 (by decide) (fun _ => ?_) (fun z => absurd c3 z)
    refine gx_sub (ls2 := []) [] rfl ?_
    exact zb_X9_state_33  e
  · refine gy_if_le (tgt := 33) (gi_rgS g2) dX9_state_4 (by decide) (fun z => absurd z c3) (fun _ => ?_)
    refine gx_aload_n dX9_state_7 rfl 0 rfl ?_
    refine gx_bE e (fun t4 ht4 e => ?_)
    refine gy_fI ht4 dX9_state_8 gf_RX9_45_8_12 (by decide) gkN_8_12 gkR_8_12 ?_
    refine gx_aload_n dX9_state_11 rfl 0 rfl ?_
    refine gx_bE e (fun t5 ht5 e => ?_)
    refine gy_fR ht5 dX9_state_12 gf_RX9_9_8_10 (by decide) gkN_8_10 gkR_8_10 ?_
    refine gx_bE e (fun t6 ht6 e => ?_)
    refine gy_al0 ht6 dX9_state_15 ?_
    refine gx_bE e (fun _ g7 e => ?_)
    refine gx_bE e (fun _ g8 e => ?_)
    refine gx_iE e (fun c9 e => ?_) (fun c9 e => ?_)
    · refine gy_icmp_gt (tgt := 33) (gi_rgS g7) (gi_rgS g8) dX9_state_16 (by decide) (fun _ => ?_) (fun z => absurd c9 z)
      refine gx_sub (ls2 := []) [] rfl ?_
      exact zb_X9_state_33  e
    · refine gy_icmp_gt (tgt := 33) (gi_rgS g7) (gi_rgS g8) dX9_state_16 (by decide) (fun z => absurd z c9) (fun _ => ?_)
      refine gx_aload_n dX9_state_19 rfl 0 rfl ?_
      refine gx_bE e (fun t10 ht10 e => ?_)
      refine gy_fR ht10 dX9_state_20 gf_RX9_9_8_10 (by decide) gkN_8_10 gkR_8_10 ?_
      refine gx_aload_n dX9_state_23 rfl 0 rfl ?_
      refine gx_bE e (fun t11 ht11 e => ?_)
      refine gy_fI ht11 dX9_state_24 gf_RX9_45_8_12 (by decide) gkN_8_12 gkR_8_12 ?_
      refine gy_iconst dX9_state_27 ?_
      refine gy_isub dX9_state_28 ?_
      refine gx_bE e (fun t12 ht12 e => ?_)
      refine gy_l1 ht12 dX9_state_29 ?_
      refine gx_goto (tgt := 34) dX9_state_30 (by decide) ?_
      cases e
      exact gx_iret dX9_state_34 rfl ⟨Nat.le_of_ble_eq_true rfl, Nat.le_of_ble_eq_true rfl⟩ (fun z => z)
/-! X9_settledAction  -/
set_option maxRecDepth 100000 in
def b_X9_settledAction_52 (n : Nat)  (v0 : Nat) (s0 : Int) (h : gi_H) : Option (Int) :=
  Option.bind (gi_rg s0) fun _ => if s0 = (2 : Int) then (some (-1 : Int)) else (if s0 = 0 then (Option.bind (gi_gI h v0 8 9) fun t13 => some t13) else (some (24 : Int)))
set_option maxRecDepth 100000 in
theorem zb_X9_settledAction_52 {al : Bool} {n : Nat}  {res : Int}  {v0 : Nat} {s0 : Int} {h : gi_H} (e : b_X9_settledAction_52 n v0 s0 h = some res) : gx_Z mX9_settledAction al al 0 0 52 [(0, .ref v0)] [.int (gI s0)] (gi_cv h) (.inl (some (.int (gI res)))) (gi_cv h) := by
  refine gx_istore_n (ls2 := [(3, .int (gI s0)), (0, .ref v0)]) dX9_settledAction_52 rfl (Nat.le_of_ble_eq_true rfl) rfl ?_
  refine gx_iload_n dX9_settledAction_53 rfl 0 rfl ?_
  refine gy_iconst dX9_settledAction_54 ?_
  refine gx_bE e (fun _ g10 e => ?_)
  refine gx_iE e (fun c11 e => ?_) (fun c11 e => ?_)
  · refine gy_icmp_ne (tgt := 60) (gi_rgS g10) (by decide) dX9_settledAction_55 (by decide) (fun z => absurd c11 z) (fun _ => ?_)
    refine gy_iconst dX9_settledAction_58 ?_
    cases e
    exact gx_iret dX9_settledAction_59 rfl ⟨Nat.le_of_ble_eq_true rfl, Nat.le_of_ble_eq_true rfl⟩ (fun z => z)
  · refine gy_icmp_ne (tgt := 60) (gi_rgS g10) (by decide) dX9_settledAction_55 (by decide) (fun _ => ?_) (fun z => absurd z c11)
    refine gx_iload_n dX9_settledAction_60 rfl 0 rfl ?_
    refine gx_iE e (fun c12 e => ?_) (fun c12 e => ?_)
    · refine gy_if_ne (tgt := 71) (gi_rgS g10) dX9_settledAction_61 (by decide) (fun z => absurd c12 z) (fun _ => ?_)
      refine gx_aload_n dX9_settledAction_64 rfl 1 rfl ?_
      refine gx_bE e (fun t13 ht13 e => ?_)
      refine gy_fI ht13 dX9_settledAction_65 gf_RX9_117_8_9 (by decide) gkN_8_9 gkR_8_9 ?_
      refine gx_goto (tgt := 73) dX9_settledAction_68 (by decide) ?_
      cases e
      exact gx_iret dX9_settledAction_73 rfl ⟨Nat.le_of_ble_eq_true rfl, Nat.le_of_ble_eq_true rfl⟩ (fun z => z)
    · refine gy_if_ne (tgt := 71) (gi_rgS g10) dX9_settledAction_61 (by decide) (fun _ => ?_) (fun z => absurd z c12)
      refine gy_bipush dX9_settledAction_71 gcb_24 ?_
      cases e
      exact gx_iret dX9_settledAction_73 rfl ⟨Nat.le_of_ble_eq_true rfl, Nat.le_of_ble_eq_true rfl⟩ (fun z => z)
set_option maxRecDepth 100000 in
def b_X9_settledAction_51 (n : Nat)  (v0 : Nat)  (h : gi_H) : Option (Int) :=
  b_X9_settledAction_52 n  v0 (2 : Int) h
set_option maxRecDepth 100000 in
theorem zb_X9_settledAction_51 {al : Bool} {n : Nat}  {res : Int}  {v0 : Nat}  {h : gi_H} (e : b_X9_settledAction_51 n v0 h = some res) : gx_Z mX9_settledAction al al 0 0 51 [(0, .ref v0)] [] (gi_cv h) (.inl (some (.int (gI res)))) (gi_cv h) := by
  refine gy_iconst dX9_settledAction_51 ?_
  exact zb_X9_settledAction_52  e
set_option maxRecDepth 100000 in
def f_X9_settledAction (n : Nat) (v0 : Nat) (v1 : Int) (h : gi_H) : Option (Int) :=
  Option.bind (gi_is h v0 8) fun _ => Option.bind (f_X9_levelOfLowest n v0 h) fun q2 => Option.bind (gi_is h v0 8) fun _ => Option.bind (f_X9_levelOf v0 v1 h) fun q4 => gx_nm (q2 - q4) fun t5 => Option.bind (gi_rg t5) fun _ => if t5 = 0 then (Option.bind (gi_rg v1) fun _ => if v1 < 0 then (b_X9_settledAction_51 n  v0 h) else (Option.bind (gi_gR h v0 8 4) fun t14 => Option.bind (gi_ln h t14) fun t15 => Option.bind (gi_rg t15) fun _ => if t15 ≤ v1 then (b_X9_settledAction_51 n  v0 h) else (Option.bind (gi_gR h v0 8 4) fun t18 => Option.bind (gi_aI h 1 t18 v1) fun t19 => b_X9_settledAction_52 n  v0 t19 h))) else (if t5 ≤ 0 then (some (24 : Int)) else (Option.bind (gi_gI h v0 8 9) fun t21 => some t21))
set_option maxRecDepth 100000 in
theorem z_X9_settledAction {al : Bool} {n : Nat} {v0 : Nat} {v1 : Int} {h : gi_H} {res : Int} (e : f_X9_settledAction n v0 v1 h = some res) : gx_Cw mX9_settledAction al [.ref v0, .int (gI v1)] (gi_cv h) (.inl (some (.int (gI res)))) (gi_cv h) := by
  refine gx_enter (by decide +kernel) rfl (Nat.le_of_ble_eq_true rfl) ?_
  show gx_Z mX9_settledAction al al 0 0 0 [(0, .ref v0), (1, .int (gI v1))] [] (gi_cv h) (.inl (some (.int (gI res)))) (gi_cv h)
  refine gx_aload_n dX9_settledAction_0 rfl 0 rfl ?_
  refine gx_bE e (fun _ hu1 e => ?_)
  refine gx_bE e (fun q2 hq2 e => ?_)
  refine gx_callV (n := 0) (st := []) (As := []) (b := v0) dX9_settledAction_1 (z_X9_levelOfLowest hq2) rfl ⟨rfl, gw_cw_X9_levelOfLowest, gw_10, gp_X9_levelOfLowest, ⟨Nat.le_of_ble_eq_true rfl, Nat.le_of_ble_eq_true rfl⟩⟩ (gi_isS hu1) (by decide) gw_674 gw_676 gs_39 rfl ⟨Nat.le_of_ble_eq_true rfl, Nat.le_of_ble_eq_true rfl⟩ (Nat.le_of_ble_eq_true rfl) (gy_k1 (x := .int (gI q2)) (kc2 := 0) (ks2 := 0) ⟨rfl, rfl⟩ ?_) gy_kn
  refine gx_aload_n dX9_settledAction_4 rfl 0 rfl ?_
  refine gx_iload_n dX9_settledAction_5 rfl 1 rfl ?_
  refine gx_bE e (fun _ hu3 e => ?_)
  refine gx_bE e (fun q4 hq4 e => ?_)
  refine gx_callV (n := 1) (st := [.int (gI q2)]) (As := [.int (gI v1)]) (b := v0) dX9_settledAction_6 (z_X9_levelOf hq4) rfl ⟨rfl, gw_cw_X9_levelOf, gw_10, gp_X9_levelOf, ⟨Nat.le_of_ble_eq_true rfl, Nat.le_of_ble_eq_true rfl⟩⟩ (gi_isS hu3) (by decide) gw_670 gw_672 gs_38 rfl ⟨Nat.le_of_ble_eq_true rfl, Nat.le_of_ble_eq_true rfl⟩ (Nat.le_of_ble_eq_true rfl) (gy_k1 (x := .int (gI q4)) (kc2 := 0) (ks2 := 0) ⟨rfl, rfl⟩ ?_) gy_kn
  refine gy_isub dX9_settledAction_9 ?_
  refine gx_nE e (fun t5 ht5 e => ?_)
  rw [ht5]
  refine gx_istore_n (ls2 := [(2, .int (gI t5)), (0, .ref v0), (1, .int (gI v1))]) dX9_settledAction_10 rfl (Nat.le_of_ble_eq_true rfl) rfl ?_
  refine gx_iload_n dX9_settledAction_11 rfl 0 rfl ?_
  refine gx_bE e (fun _ g6 e => ?_)
  refine gx_iE e (fun c7 e => ?_) (fun c7 e => ?_)
  · refine gy_if_eq (tgt := 29) (gi_rgS g6) dX9_settledAction_12 (by decide) (fun _ => ?_) (fun z => absurd c7 z)
    refine gx_iload_n dX9_settledAction_29 rfl 2 rfl ?_
    refine gx_bE e (fun _ g8 e => ?_)
    refine gx_iE e (fun c9 e => ?_) (fun c9 e => ?_)
    · refine gy_if_lt (tgt := 51) (gi_rgS g8) dX9_settledAction_30 (by decide) (fun _ => ?_) (fun z => absurd c9 z)
      refine gx_sub (ls2 := [(0, .ref v0)]) [1] rfl ?_
      exact zb_X9_settledAction_51  e
    · refine gy_if_lt (tgt := 51) (gi_rgS g8) dX9_settledAction_30 (by decide) (fun z => absurd z c9) (fun _ => ?_)
      refine gx_iload_n dX9_settledAction_33 rfl 2 rfl ?_
      refine gx_aload_n dX9_settledAction_34 rfl 1 rfl ?_
      refine gx_bE e (fun t14 ht14 e => ?_)
      refine gy_fR ht14 dX9_settledAction_35 gf_RX9_29_8_4 (by decide) gkN_8_4 gkR_8_4 ?_
      refine gx_bE e (fun t15 ht15 e => ?_)
      refine gy_al0 ht15 dX9_settledAction_38 ?_
      refine gx_bE e (fun _ g16 e => ?_)
      refine gx_iE e (fun c17 e => ?_) (fun c17 e => ?_)
      · refine gy_icmp_ge (tgt := 51) (gi_rgS g8) (gi_rgS g16) dX9_settledAction_39 (by decide) (fun _ => ?_) (fun z => absurd c17 z)
        refine gx_sub (ls2 := [(0, .ref v0)]) [1] rfl ?_
        exact zb_X9_settledAction_51  e
      · refine gy_icmp_ge (tgt := 51) (gi_rgS g8) (gi_rgS g16) dX9_settledAction_39 (by decide) (fun z => absurd z c17) (fun _ => ?_)
        refine gx_aload_n dX9_settledAction_42 rfl 1 rfl ?_
        refine gx_bE e (fun t18 ht18 e => ?_)
        refine gy_fR ht18 dX9_settledAction_43 gf_RX9_29_8_4 (by decide) gkN_8_4 gkR_8_4 ?_
        refine gx_iload_n dX9_settledAction_46 rfl 2 rfl ?_
        refine gx_bE e (fun t19 ht19 e => ?_)
        refine gy_l1 ht19 dX9_settledAction_47 ?_
        refine gx_goto (tgt := 52) dX9_settledAction_48 (by decide) ?_
        refine gx_sub (ls2 := [(0, .ref v0)]) [1] rfl ?_
        exact zb_X9_settledAction_52  e
  · refine gy_if_eq (tgt := 29) (gi_rgS g6) dX9_settledAction_12 (by decide) (fun z => absurd z c7) (fun _ => ?_)
    refine gx_iload_n dX9_settledAction_15 rfl 0 rfl ?_
    refine gx_iE e (fun c20 e => ?_) (fun c20 e => ?_)
    · refine gy_if_le (tgt := 26) (gi_rgS g6) dX9_settledAction_16 (by decide) (fun _ => ?_) (fun z => absurd c20 z)
      refine gy_bipush dX9_settledAction_26 gcb_24 ?_
      cases e
      exact gx_iret dX9_settledAction_28 rfl ⟨Nat.le_of_ble_eq_true rfl, Nat.le_of_ble_eq_true rfl⟩ (fun z => z)
    · refine gy_if_le (tgt := 26) (gi_rgS g6) dX9_settledAction_16 (by decide) (fun z => absurd z c20) (fun _ => ?_)
      refine gx_aload_n dX9_settledAction_19 rfl 1 rfl ?_
      refine gx_bE e (fun t21 ht21 e => ?_)
      refine gy_fI ht21 dX9_settledAction_20 gf_RX9_117_8_9 (by decide) gkN_8_9 gkR_8_9 ?_
      refine gx_goto (tgt := 28) dX9_settledAction_23 (by decide) ?_
      cases e
      exact gx_iret dX9_settledAction_28 rfl ⟨Nat.le_of_ble_eq_true rfl, Nat.le_of_ble_eq_true rfl⟩ (fun z => z)
/-! X9_action  -/
set_option maxRecDepth 100000 in
def f_X9_action (n : Nat) (v0 : Nat) (v1 : Int) (v2 : Int) (h : gi_H) : Option (Int × gi_H) :=
  Option.bind (gi_is h v0 8) fun _ => Option.bind (f_X9_readCell n v0 v1 v2 h) fun q2 => Option.bind (gi_is q2 v0 8) fun _ => Option.bind (f_X9_isSettled n v0 v2 q2) fun q4 => Option.bind (gi_rg q4) fun _ => if q4 = 0 then (Option.bind (gi_gI q2 v0 8 7) fun t7 => Option.bind (gi_rg t7) fun _ => if t7 = 0 then (Option.bind (gi_gI q2 v0 8 6) fun t10 => Option.bind (gi_rg t10) fun _ => if t10 = 0 then (Option.bind (gi_gI q2 v0 8 9) fun t13 => some (t13, q2)) else (some ((24 : Int), q2))) else (some ((25 : Int), q2))) else (Option.bind (gi_is q2 v0 8) fun _ => Option.bind (f_X9_settledAction n v0 v2 q2) fun q15 => some (q15, q2))
set_option maxRecDepth 100000 in
theorem z_X9_action {al : Bool} {n : Nat} {v0 : Nat} {v1 : Int} {v2 : Int} {h : gi_H} {res : Int} {h1 : gi_H} (e : f_X9_action n v0 v1 v2 h = some (res, h1)) : gx_Cw mX9_action al [.ref v0, .int (gI v1), .int (gI v2)] (gi_cv h) (.inl (some (.int (gI res)))) (gi_cv h1) := by
  refine gx_enter (by decide +kernel) rfl (Nat.le_of_ble_eq_true rfl) ?_
  show gx_Z mX9_action al al 0 0 0 [(0, .ref v0), (1, .int (gI v1)), (2, .int (gI v2))] [] (gi_cv h) (.inl (some (.int (gI res)))) (gi_cv h1)
  refine gx_aload_n dX9_action_0 rfl 0 rfl ?_
  refine gx_iload_n dX9_action_1 rfl 1 rfl ?_
  refine gx_iload_n dX9_action_2 rfl 2 rfl ?_
  refine gx_bE e (fun _ hu1 e => ?_)
  refine gx_bE e (fun q2 hq2 e => ?_)
  refine gx_callV (n := 2) (st := []) (As := [.int (gI v1), .int (gI v2)]) (b := v0) dX9_action_3 (z_X9_readCell hq2) rfl ⟨rfl, gw_cw_X9_readCell, gw_10, gp_X9_readCell, ⟨Nat.le_of_ble_eq_true rfl, Nat.le_of_ble_eq_true rfl⟩⟩ (gi_isS hu1) (by decide) gw_636 gw_638 gs_34 rfl ⟨Nat.le_of_ble_eq_true rfl, Nat.le_of_ble_eq_true rfl⟩ (Nat.le_of_ble_eq_true rfl) (gy_k0 (kc2 := 0) (ks2 := 0) ⟨rfl, rfl⟩ ?_) gy_kn
  refine gx_aload_n dX9_action_6 rfl 0 rfl ?_
  refine gx_iload_n dX9_action_7 rfl 2 rfl ?_
  refine gx_bE e (fun _ hu3 e => ?_)
  refine gx_bE e (fun q4 hq4 e => ?_)
  refine gx_callV (n := 1) (st := []) (As := [.int (gI v2)]) (b := v0) dX9_action_8 (z_X9_isSettled hq4) rfl ⟨rfl, gw_cw_X9_isSettled, gw_10, gp_X9_isSettled, ⟨Nat.le_of_ble_eq_true rfl, Nat.le_of_ble_eq_true rfl⟩⟩ (gi_isS hu3) (by decide) gw_666 gw_668 gs_37 rfl ⟨Nat.le_of_ble_eq_true rfl, Nat.le_of_ble_eq_true rfl⟩ (Nat.le_of_ble_eq_true rfl) (gy_k1 (x := .int (gI q4)) (kc2 := 0) (ks2 := 0) ⟨rfl, rfl⟩ ?_) gy_kn
  refine gx_bE e (fun _ g5 e => ?_)
  refine gx_iE e (fun c6 e => ?_) (fun c6 e => ?_)
  · refine gy_if_eq (tgt := 20) (gi_rgS g5) dX9_action_11 (by decide) (fun _ => ?_) (fun z => absurd c6 z)
    refine gx_aload_n dX9_action_20 rfl 0 rfl ?_
    refine gx_bE e (fun t7 ht7 e => ?_)
    refine gy_fI ht7 dX9_action_21 gf_RX9_111_8_7 (by decide) gkN_8_7 gkR_8_7 ?_
    refine gx_bE e (fun _ g8 e => ?_)
    refine gx_iE e (fun c9 e => ?_) (fun c9 e => ?_)
    · refine gy_if_eq (tgt := 30) (gi_rgS g8) dX9_action_24 (by decide) (fun _ => ?_) (fun z => absurd c9 z)
      refine gx_aload_n dX9_action_30 rfl 0 rfl ?_
      refine gx_bE e (fun t10 ht10 e => ?_)
      refine gy_fI ht10 dX9_action_31 gf_RX9_101_8_6 (by decide) gkN_8_6 gkR_8_6 ?_
      refine gx_bE e (fun _ g11 e => ?_)
      refine gx_iE e (fun c12 e => ?_) (fun c12 e => ?_)
      · refine gy_if_eq (tgt := 42) (gi_rgS g11) dX9_action_34 (by decide) (fun _ => ?_) (fun z => absurd c12 z)
        refine gx_aload_n dX9_action_42 rfl 0 rfl ?_
        refine gx_bE e (fun t13 ht13 e => ?_)
        refine gy_fI ht13 dX9_action_43 gf_RX9_117_8_9 (by decide) gkN_8_9 gkR_8_9 ?_
        cases e
        exact gx_iret dX9_action_46 rfl ⟨Nat.le_of_ble_eq_true rfl, Nat.le_of_ble_eq_true rfl⟩ (fun z => z)
      · refine gy_if_eq (tgt := 42) (gi_rgS g11) dX9_action_34 (by decide) (fun z => absurd z c12) (fun _ => ?_)
        refine gy_bipush dX9_action_37 gcb_24 ?_
        refine gx_goto (tgt := 46) dX9_action_39 (by decide) ?_
        cases e
        exact gx_iret dX9_action_46 rfl ⟨Nat.le_of_ble_eq_true rfl, Nat.le_of_ble_eq_true rfl⟩ (fun z => z)
    · refine gy_if_eq (tgt := 30) (gi_rgS g8) dX9_action_24 (by decide) (fun z => absurd z c9) (fun _ => ?_)
      refine gy_bipush dX9_action_27 gcb_25 ?_
      cases e
      exact gx_iret dX9_action_29 rfl ⟨Nat.le_of_ble_eq_true rfl, Nat.le_of_ble_eq_true rfl⟩ (fun z => z)
  · refine gy_if_eq (tgt := 20) (gi_rgS g5) dX9_action_11 (by decide) (fun z => absurd z c6) (fun _ => ?_)
    refine gx_aload_n dX9_action_14 rfl 0 rfl ?_
    refine gx_iload_n dX9_action_15 rfl 2 rfl ?_
    refine gx_bE e (fun _ hu14 e => ?_)
    refine gx_bE e (fun q15 hq15 e => ?_)
    refine gx_callV (n := 1) (st := []) (As := [.int (gI v2)]) (b := v0) dX9_action_16 (z_X9_settledAction hq15) rfl ⟨rfl, gw_cw_X9_settledAction, gw_10, gp_X9_settledAction, ⟨Nat.le_of_ble_eq_true rfl, Nat.le_of_ble_eq_true rfl⟩⟩ (gi_isS hu14) (by decide) gw_1292 gw_1294 gs_55 rfl ⟨Nat.le_of_ble_eq_true rfl, Nat.le_of_ble_eq_true rfl⟩ (Nat.le_of_ble_eq_true rfl) (gy_k1 (x := .int (gI q15)) (kc2 := 0) (ks2 := 0) ⟨rfl, rfl⟩ ?_) gy_kn
    cases e
    exact gx_iret dX9_action_19 rfl ⟨Nat.le_of_ble_eq_true rfl, Nat.le_of_ble_eq_true rfl⟩ (fun z => z)
/-! X9_worthOfTop  -/
set_option maxRecDepth 100000 in
def b_X9_worthOfTop_33    (h : gi_H) : Option (Int) :=
  some (0 : Int)
set_option maxRecDepth 100000 in
theorem zb_X9_worthOfTop_33 {al : Bool}  {res : Int}    {h : gi_H} (e : b_X9_worthOfTop_33  h = some res) : gx_Z mX9_worthOfTop al al 0 0 33 [] [] (gi_cv h) (.inl (some (.int (gI res)))) (gi_cv h) := by
  refine gy_iconst dX9_worthOfTop_33 ?_
  cases e
  exact gx_iret dX9_worthOfTop_34 rfl ⟨Nat.le_of_ble_eq_true rfl, Nat.le_of_ble_eq_true rfl⟩ (fun z => z)
set_option maxRecDepth 100000 in
def f_X9_worthOfTop (v0 : Nat) (h : gi_H) : Option (Int) :=
  Option.bind (gi_gI h v0 8 12) fun t1 => Option.bind (gi_rg t1) fun _ => if t1 ≤ 0 then (b_X9_worthOfTop_33   h) else (Option.bind (gi_gI h v0 8 12) fun t4 => Option.bind (gi_gR h v0 8 11) fun t5 => Option.bind (gi_ln h t5) fun t6 => Option.bind (gi_rg t4) fun _ => Option.bind (gi_rg t6) fun _ => if t6 < t4 then (b_X9_worthOfTop_33   h) else (Option.bind (gi_gR h v0 8 11) fun t10 => Option.bind (gi_gI h v0 8 12) fun t11 => Option.bind (gi_aI h 1 t10 (t11 - (1 : Int))) fun t12 => some t12))
set_option maxRecDepth 100000 in
theorem z_X9_worthOfTop {al : Bool} {v0 : Nat} {h : gi_H} {res : Int} (e : f_X9_worthOfTop v0 h = some res) : gx_Cw mX9_worthOfTop al [.ref v0] (gi_cv h) (.inl (some (.int (gI res)))) (gi_cv h) := by
  refine gx_enter (by decide +kernel) rfl (Nat.le_of_ble_eq_true rfl) ?_
  show gx_Z mX9_worthOfTop al al 0 0 0 [(0, .ref v0)] [] (gi_cv h) (.inl (some (.int (gI res)))) (gi_cv h)
  refine gx_aload_n dX9_worthOfTop_0 rfl 0 rfl ?_
  refine gx_bE e (fun t1 ht1 e => ?_)
  refine gy_fI ht1 dX9_worthOfTop_1 gf_RX9_45_8_12 (by decide) gkN_8_12 gkR_8_12 ?_
  refine gx_bE e (fun _ g2 e => ?_)
  refine gx_iE e (fun c3 e => ?_) (fun c3 e => ?_)
  · refine gy_if_le (tgt := 33) (gi_rgS g2) dX9_worthOfTop_4 (by decide) (fun _ => ?_) (fun z => absurd c3 z)
    refine gx_sub (ls2 := []) [] rfl ?_
    exact zb_X9_worthOfTop_33  e
  · refine gy_if_le (tgt := 33) (gi_rgS g2) dX9_worthOfTop_4 (by decide) (fun z => absurd z c3) (fun _ => ?_)
    refine gx_aload_n dX9_worthOfTop_7 rfl 0 rfl ?_
    refine gx_bE e (fun t4 ht4 e => ?_)
    refine gy_fI ht4 dX9_worthOfTop_8 gf_RX9_45_8_12 (by decide) gkN_8_12 gkR_8_12 ?_
    refine gx_aload_n dX9_worthOfTop_11 rfl 0 rfl ?_
    refine gx_bE e (fun t5 ht5 e => ?_)
    refine gy_fR ht5 dX9_worthOfTop_12 gf_RX9_15_8_11 (by decide) gkN_8_11 gkR_8_11 ?_
    refine gx_bE e (fun t6 ht6 e => ?_)
    refine gy_al0 ht6 dX9_worthOfTop_15 ?_
    refine gx_bE e (fun _ g7 e => ?_)
    refine gx_bE e (fun _ g8 e => ?_)
    refine gx_iE e (fun c9 e => ?_) (fun c9 e => ?_)
    · refine gy_icmp_gt (tgt := 33) (gi_rgS g7) (gi_rgS g8) dX9_worthOfTop_16 (by decide) (fun _ => ?_) (fun z => absurd c9 z)
      refine gx_sub (ls2 := []) [] rfl ?_
      exact zb_X9_worthOfTop_33  e
    · refine gy_icmp_gt (tgt := 33) (gi_rgS g7) (gi_rgS g8) dX9_worthOfTop_16 (by decide) (fun z => absurd z c9) (fun _ => ?_)
      refine gx_aload_n dX9_worthOfTop_19 rfl 0 rfl ?_
      refine gx_bE e (fun t10 ht10 e => ?_)
      refine gy_fR ht10 dX9_worthOfTop_20 gf_RX9_15_8_11 (by decide) gkN_8_11 gkR_8_11 ?_
      refine gx_aload_n dX9_worthOfTop_23 rfl 0 rfl ?_
      refine gx_bE e (fun t11 ht11 e => ?_)
      refine gy_fI ht11 dX9_worthOfTop_24 gf_RX9_45_8_12 (by decide) gkN_8_12 gkR_8_12 ?_
      refine gy_iconst dX9_worthOfTop_27 ?_
      refine gy_isub dX9_worthOfTop_28 ?_
      refine gx_bE e (fun t12 ht12 e => ?_)
      refine gy_l1 ht12 dX9_worthOfTop_29 ?_
      refine gx_goto (tgt := 34) dX9_worthOfTop_30 (by decide) ?_
      cases e
      exact gx_iret dX9_worthOfTop_34 rfl ⟨Nat.le_of_ble_eq_true rfl, Nat.le_of_ble_eq_true rfl⟩ (fun z => z)
/-! X10_keepWorth 8 -/
set_option maxRecDepth 100000 in
def f_X10_keepWorth_8 (v0 : Nat) (v1 : Int) (h : gi_H) : Option (gi_H) :=
  Option.bind (gi_pI h v0 8 0 v1) fun h1 => some h1
set_option maxRecDepth 100000 in
theorem z_X10_keepWorth_8 {al : Bool} {v0 : Nat} {v1 : Int} {h : gi_H} {h1 : gi_H} (e : f_X10_keepWorth_8 v0 v1 h = some h1) : gx_Cw mX10_keepWorth al [.ref v0, .int (gI v1)] (gi_cv h) (.inl none) (gi_cv h1) := by
  refine gx_enter (by decide +kernel) rfl (Nat.le_of_ble_eq_true rfl) ?_
  show gx_Z mX10_keepWorth al al 0 0 0 [(0, .ref v0), (1, .int (gI v1))] [] (gi_cv h) (.inl none) (gi_cv h1)
  refine gx_aload_n dX10_keepWorth_0 rfl 0 rfl ?_
  refine gx_iload_n dX10_keepWorth_1 rfl 1 rfl ?_
  refine gx_bE e (fun h1 hh1 e => ?_)
  refine gy_qI hh1 dX10_keepWorth_2 gf_RX10_7_8_0 (by decide) gkN_8_0 rfl (Or.inl rfl) ?_
  cases e
  exact gx_vret dX10_keepWorth_5 rfl ⟨Nat.le_of_ble_eq_true rfl, Nat.le_of_ble_eq_true rfl⟩ (fun z => z)
/-! X9_reduce  -/
set_option maxRecDepth 100000 in
def b_X9_reduce_57 (n : Nat)  (v0 : Nat) (v1 : Int) (v2 : Nat) (v3 : Int)  (h : gi_H) : Option (gi_H) :=
  Option.bind (gi_gR h v0 8 1) fun t12 => Option.bind (gi_is h v0 8) fun _ => Option.bind (f_X9_state v0 h) fun q14 => Option.bind (gi_is h v2 3) fun _ => Option.bind (f_X4_owner v2 v1 h) fun q16 => Option.bind (gi_is h t12 0) fun _ => Option.bind (f_X0_move t12 q14 ((16 : Int) + q16) h) fun q18 => Option.bind (gi_dg v3 (1009 : Int)) fun _ => Option.bind (gi_is h v0 8) fun _ => Option.bind (f_X9_push v0 q18 (v3 % (1009 : Int)) h) fun q21 => some q21
set_option maxRecDepth 100000 in
theorem zb_X9_reduce_57 {al : Bool} {n : Nat}  {h1 : gi_H}  {v0 : Nat} {v1 : Int} {v2 : Nat} {v3 : Int}  {h : gi_H} (e : b_X9_reduce_57 n v0 v1 v2 v3 h = some h1) : gx_Z mX9_reduce al al 0 0 57 [(0, .ref v0), (1, .int (gI v1)), (2, .ref v2), (3, .int (gI v3))] [] (gi_cv h) (.inl none) (gi_cv h1) := by
  refine gx_aload_n dX9_reduce_57 rfl 0 rfl ?_
  refine gx_aload_n dX9_reduce_58 rfl 0 rfl ?_
  refine gx_bE e (fun t12 ht12 e => ?_)
  refine gy_fR ht12 dX9_reduce_59 gf_RX9_18_8_1 (by decide) gkN_8_1 gkR_8_1 ?_
  refine gx_aload_n dX9_reduce_62 rfl 0 rfl ?_
  refine gx_bE e (fun _ hu13 e => ?_)
  refine gx_bE e (fun q14 hq14 e => ?_)
  refine gx_callV (n := 0) (st := [.ref t12, .ref v0]) (As := []) (b := v0) dX9_reduce_63 (z_X9_state hq14) rfl ⟨rfl, gw_cw_X9_state, gw_10, gp_X9_state, ⟨Nat.le_of_ble_eq_true rfl, Nat.le_of_ble_eq_true rfl⟩⟩ (gi_isS hu13) (by decide) gw_1284 gw_1286 gs_53 rfl ⟨Nat.le_of_ble_eq_true rfl, Nat.le_of_ble_eq_true rfl⟩ (Nat.le_of_ble_eq_true rfl) (gy_k1 (x := .int (gI q14)) (kc2 := 0) (ks2 := 0) ⟨rfl, rfl⟩ ?_) gy_kn
  refine gy_bipush dX9_reduce_66 gcb_16 ?_
  refine gx_aload_n dX9_reduce_68 rfl 2 rfl ?_
  refine gx_iload_n dX9_reduce_69 rfl 1 rfl ?_
  refine gx_bE e (fun _ hu15 e => ?_)
  refine gx_bE e (fun q16 hq16 e => ?_)
  refine gx_callV (n := 1) (st := [.int (gI (16 : Int)), .int (gI q14), .ref t12, .ref v0]) (As := [.int (gI v1)]) (b := v2) dX9_reduce_70 (z_X4_owner hq16) rfl ⟨rfl, gw_cw_X4_owner, gw_3, gp_X4_owner, ⟨Nat.le_of_ble_eq_true rfl, Nat.le_of_ble_eq_true rfl⟩⟩ (gi_isS hu15) (by decide) gw_660 gw_416 gw_417 rfl ⟨Nat.le_of_ble_eq_true rfl, Nat.le_of_ble_eq_true rfl⟩ (Nat.le_of_ble_eq_true rfl) (gy_k1 (x := .int (gI q16)) (kc2 := 0) (ks2 := 0) ⟨rfl, rfl⟩ ?_) gy_kn
  refine gy_iadd dX9_reduce_73 ?_
  refine gx_bE e (fun _ hu17 e => ?_)
  refine gx_bE e (fun q18 hq18 e => ?_)
  refine gx_callV (n := 2) (st := [.ref v0]) (As := [.int (gI q14), .int (gI ((16 : Int) + q16))]) (b := t12) dX9_reduce_74 (z_X0_move hq18) rfl ⟨rfl, gw_cw_X0_move, gw_7, gp_X0_move, ⟨Nat.le_of_ble_eq_true rfl, Nat.le_of_ble_eq_true rfl⟩⟩ (gi_isS hu17) (by decide) gw_648 gw_649 gw_650 rfl ⟨Nat.le_of_ble_eq_true rfl, Nat.le_of_ble_eq_true rfl⟩ (Nat.le_of_ble_eq_true rfl) (gy_k1 (x := .int (gI q18)) (kc2 := 0) (ks2 := 0) ⟨rfl, rfl⟩ ?_) gy_kn
  refine gx_iload_n dX9_reduce_77 rfl 3 rfl ?_
  refine gy_sipush dX9_reduce_78 gcs_1009 ?_
  refine gx_bE e (fun _ hu19 e => ?_)
  refine gy_irem hu19 dX9_reduce_81 ?_
  refine gx_bE e (fun _ hu20 e => ?_)
  refine gx_bE e (fun q21 hq21 e => ?_)
  refine gx_callV (n := 2) (st := []) (As := [.int (gI q18), .int (gI (v3 % (1009 : Int)))]) (b := v0) dX9_reduce_82 (z_X9_push hq21) rfl ⟨rfl, gw_cw_X9_push, gw_10, gp_X9_push, ⟨Nat.le_of_ble_eq_true rfl, Nat.le_of_ble_eq_true rfl⟩⟩ (gi_isS hu20) (by decide) gw_1279 gw_1281 gs_52 rfl ⟨Nat.le_of_ble_eq_true rfl, Nat.le_of_ble_eq_true rfl⟩ (Nat.le_of_ble_eq_true rfl) (gy_k0 (kc2 := 0) (ks2 := 0) ⟨rfl, rfl⟩ ?_) gy_kn
  cases e
  exact gx_vret dX9_reduce_85 rfl ⟨Nat.le_of_ble_eq_true rfl, Nat.le_of_ble_eq_true rfl⟩ (fun z => z)
set_option maxRecDepth 100000 in
def b_X9_reduce_24 (n : Nat) (r24 : Nat → Int → Nat → Int → Int → gi_H → Option (gi_H)) (v0 : Nat) (v1 : Int) (v2 : Nat) (v3 : Int) (v4 : Int)  (h : gi_H) : Option (gi_H) :=
  Option.bind (gi_rg v4) fun _ => if v4 < 0 then (b_X9_reduce_57 n  v0 v1 v2 v3 h) else (Option.bind (gi_is h v0 8) fun _ => Option.bind (f_X9_worthOfTop v0 h) fun q23 => gx_nm (v3 + ((v4 + (1 : Int)) * q23)) fun t24 => Option.bind (gi_gI h v0 8 12) fun t25 => Option.bind (gi_pI h v0 8 12 (t25 - (1 : Int))) fun h26 => gx_nm (v4 + (-1 : Int)) fun t27 => r24 v0 v1 v2 t24 t27 h26)
set_option maxRecDepth 100000 in
theorem zb_X9_reduce_24 {al : Bool} {n : Nat} {r24 : Nat → Int → Nat → Int → Int → gi_H → Option (gi_H)} {h1 : gi_H} (hr24 : ∀ (x0 : Nat) (x1 : Int) (x2 : Nat) (x3 : Int) (x4 : Int) (hh : gi_H), r24 x0 x1 x2 x3 x4 hh = some h1 → gx_Z mX9_reduce al al 0 0 24 [(0, .ref x0), (1, .int (gI x1)), (2, .ref x2), (3, .int (gI x3)), (4, .int (gI x4))] [] (gi_cv hh) (.inl none) (gi_cv h1)) {v0 : Nat} {v1 : Int} {v2 : Nat} {v3 : Int} {v4 : Int}  {h : gi_H} (e : b_X9_reduce_24 n r24 v0 v1 v2 v3 v4 h = some h1) : gx_Z mX9_reduce al al 0 0 24 [(0, .ref v0), (1, .int (gI v1)), (2, .ref v2), (3, .int (gI v3)), (4, .int (gI v4))] [] (gi_cv h) (.inl none) (gi_cv h1) := by
  refine gx_iload dX9_reduce_24 4 rfl ?_
  refine gx_bE e (fun _ g10 e => ?_)
  refine gx_iE e (fun c11 e => ?_) (fun c11 e => ?_)
  · refine gy_if_lt (tgt := 57) (gi_rgS g10) dX9_reduce_26 (by decide) (fun _ => ?_) (fun z => absurd c11 z)
    refine gx_sub (ls2 := [(0, .ref v0), (1, .int (gI v1)), (2, .ref v2), (3, .int (gI v3))]) [0, 1, 2, 3] rfl ?_
    exact zb_X9_reduce_57  e
  · refine gy_if_lt (tgt := 57) (gi_rgS g10) dX9_reduce_26 (by decide) (fun z => absurd z c11) (fun _ => ?_)
    refine gx_iload_n dX9_reduce_29 rfl 3 rfl ?_
    refine gx_iload dX9_reduce_30 4 rfl ?_
    refine gy_iconst dX9_reduce_32 ?_
    refine gy_iadd dX9_reduce_33 ?_
    refine gx_aload_n dX9_reduce_34 rfl 0 rfl ?_
    refine gx_bE e (fun _ hu22 e => ?_)
    refine gx_bE e (fun q23 hq23 e => ?_)
    refine gx_callV (n := 0) (st := [.int (gI (v4 + (1 : Int))), .int (gI v3)]) (As := []) (b := v0) dX9_reduce_35 (z_X9_worthOfTop hq23) rfl ⟨rfl, gw_cw_X9_worthOfTop, gw_10, gp_X9_worthOfTop, ⟨Nat.le_of_ble_eq_true rfl, Nat.le_of_ble_eq_true rfl⟩⟩ (gi_isS hu22) (by decide) gw_1296 gw_1298 gs_56 rfl ⟨Nat.le_of_ble_eq_true rfl, Nat.le_of_ble_eq_true rfl⟩ (Nat.le_of_ble_eq_true rfl) (gy_k1 (x := .int (gI q23)) (kc2 := 0) (ks2 := 0) ⟨rfl, rfl⟩ ?_) gy_kn
    refine gy_imul dX9_reduce_38 ?_
    refine gy_iadd dX9_reduce_39 ?_
    refine gx_nE e (fun t24 ht24 e => ?_)
    rw [ht24]
    refine gx_istore_n (ls2 := [(3, .int (gI t24)), (0, .ref v0), (1, .int (gI v1)), (2, .ref v2), (4, .int (gI v4))]) dX9_reduce_40 rfl (Nat.le_of_ble_eq_true rfl) rfl ?_
    refine gx_aload_n dX9_reduce_41 rfl 1 rfl ?_
    refine gx_dup dX9_reduce_42 rfl ?_
    refine gx_bE e (fun t25 ht25 e => ?_)
    refine gy_fI ht25 dX9_reduce_43 gf_RX9_45_8_12 (by decide) gkN_8_12 gkR_8_12 ?_
    refine gy_iconst dX9_reduce_46 ?_
    refine gy_isub dX9_reduce_47 ?_
    refine gx_bE e (fun h26 hh26 e => ?_)
    refine gy_qI hh26 dX9_reduce_48 gf_RX9_45_8_12 (by decide) gkN_8_12 rfl (Or.inl rfl) ?_
    refine gx_nE e (fun t27 ht27 e => ?_)
    refine gy_iinc (v := t27) (ls2 := [(4, .int (gI t27)), (3, .int (gI t24)), (0, .ref v0), (1, .int (gI v1)), (2, .ref v2)]) dX9_reduce_51 4 rfl ht27 (Nat.le_of_ble_eq_true rfl) rfl ?_
    refine gx_goto (tgt := 24) dX9_reduce_54 (by decide) ?_
    refine gx_sub (ls2 := [(0, .ref v0), (1, .int (gI v1)), (2, .ref v2), (3, .int (gI t24)), (4, .int (gI t27))]) [2, 3, 4, 1, 0] rfl ?_
    exact hr24 _ _ _ _ _ _ e
def l_X9_reduce_24 (n : Nat)  : Nat → Nat → Int → Nat → Int → Int → gi_H → Option (gi_H)
  | 0, _, _, _, _, _, _ => none
  | k + 1, v0, v1, v2, v3, v4, h => b_X9_reduce_24 n  (l_X9_reduce_24 n  k) v0 v1 v2 v3 v4 h
theorem zl_X9_reduce_24 {al : Bool} {n : Nat}  {h1 : gi_H}  : ∀ (k : Nat) (v0 : Nat) (v1 : Int) (v2 : Nat) (v3 : Int) (v4 : Int) (h : gi_H), l_X9_reduce_24 n  k v0 v1 v2 v3 v4 h = some h1 → gx_Z mX9_reduce al al 0 0 24 [(0, .ref v0), (1, .int (gI v1)), (2, .ref v2), (3, .int (gI v3)), (4, .int (gI v4))] [] (gi_cv h) (.inl none) (gi_cv h1)
  | 0, _, _, _, _, _, _, e => gx_0E e
  | k + 1, _, _, _, _, _, _, e => zb_X9_reduce_24 (n := n)  (zl_X9_reduce_24  k) e
set_option maxRecDepth 100000 in
def f_X9_reduce (n : Nat) (v0 : Nat) (v1 : Int) (h : gi_H) : Option (gi_H) :=
  Option.bind (gi_gR h v0 8 1) fun t1 => Option.bind (gi_is h t1 0) fun _ => Option.bind (f_X0_facts t1 h) fun q3 => Option.bind (gi_is h q3 2) fun _ => Option.bind (f_X3_grammar q3 h) fun q5 => gx_nm (v1 + (1 : Int)) fun t6 => Option.bind (gi_is h q5 3) fun _ => Option.bind (f_X4_length q5 v1 h) fun q8 => gx_nm (q8 - (1 : Int)) fun t9 => l_X9_reduce_24 n  n v0 v1 q5 t6 t9 h
set_option maxRecDepth 100000 in
theorem z_X9_reduce {al : Bool} {n : Nat} {v0 : Nat} {v1 : Int} {h : gi_H} {h1 : gi_H} (e : f_X9_reduce n v0 v1 h = some h1) : gx_Cw mX9_reduce al [.ref v0, .int (gI v1)] (gi_cv h) (.inl none) (gi_cv h1) := by
  refine gx_enter (by decide +kernel) rfl (Nat.le_of_ble_eq_true rfl) ?_
  show gx_Z mX9_reduce al al 0 0 0 [(0, .ref v0), (1, .int (gI v1))] [] (gi_cv h) (.inl none) (gi_cv h1)
  refine gx_aload_n dX9_reduce_0 rfl 0 rfl ?_
  refine gx_bE e (fun t1 ht1 e => ?_)
  refine gy_fR ht1 dX9_reduce_1 gf_RX9_18_8_1 (by decide) gkN_8_1 gkR_8_1 ?_
  refine gx_bE e (fun _ hu2 e => ?_)
  refine gx_bE e (fun q3 hq3 e => ?_)
  refine gx_callV (n := 0) (st := []) (As := []) (b := t1) dX9_reduce_4 (z_X0_facts hq3) rfl ⟨rfl, gw_cw_X0_facts, gw_7, gp_X0_facts, ⟨Nat.le_of_ble_eq_true rfl, Nat.le_of_ble_eq_true rfl⟩⟩ (gi_isS hu2) (by decide) gw_640 gw_641 gw_642 rfl ⟨Nat.le_of_ble_eq_true rfl, Nat.le_of_ble_eq_true rfl⟩ (Nat.le_of_ble_eq_true rfl) (gy_k1 (x := .ref q3) (kc2 := 0) (ks2 := 0) ⟨rfl, rfl⟩ ?_) gy_kn
  refine gx_bE e (fun _ hu4 e => ?_)
  refine gx_bE e (fun q5 hq5 e => ?_)
  refine gx_callV (n := 0) (st := []) (As := []) (b := q3) dX9_reduce_7 (z_X3_grammar hq5) rfl ⟨rfl, gw_cw_X3_grammar, gw_6, gp_X3_grammar, ⟨Nat.le_of_ble_eq_true rfl, Nat.le_of_ble_eq_true rfl⟩⟩ (gi_isS hu4) (by decide) gw_644 gw_556 gw_557 rfl ⟨Nat.le_of_ble_eq_true rfl, Nat.le_of_ble_eq_true rfl⟩ (Nat.le_of_ble_eq_true rfl) (gy_k1 (x := .ref q5) (kc2 := 0) (ks2 := 0) ⟨rfl, rfl⟩ ?_) gy_kn
  refine gx_astore_n (ls2 := [(2, .ref q5), (0, .ref v0), (1, .int (gI v1))]) dX9_reduce_10 rfl (Nat.le_of_ble_eq_true rfl) rfl ?_
  refine gx_iload_n dX9_reduce_11 rfl 2 rfl ?_
  refine gy_iconst dX9_reduce_12 ?_
  refine gy_iadd dX9_reduce_13 ?_
  refine gx_nE e (fun t6 ht6 e => ?_)
  rw [ht6]
  refine gx_istore_n (ls2 := [(3, .int (gI t6)), (2, .ref q5), (0, .ref v0), (1, .int (gI v1))]) dX9_reduce_14 rfl (Nat.le_of_ble_eq_true rfl) rfl ?_
  refine gx_aload_n dX9_reduce_15 rfl 1 rfl ?_
  refine gx_iload_n dX9_reduce_16 rfl 3 rfl ?_
  refine gx_bE e (fun _ hu7 e => ?_)
  refine gx_bE e (fun q8 hq8 e => ?_)
  refine gx_callV (n := 1) (st := []) (As := [.int (gI v1)]) (b := q5) dX9_reduce_17 (z_X4_length hq8) rfl ⟨rfl, gw_cw_X4_length, gw_3, gp_X4_length, ⟨Nat.le_of_ble_eq_true rfl, Nat.le_of_ble_eq_true rfl⟩⟩ (gi_isS hu7) (by decide) gw_659 gw_424 gw_425 rfl ⟨Nat.le_of_ble_eq_true rfl, Nat.le_of_ble_eq_true rfl⟩ (Nat.le_of_ble_eq_true rfl) (gy_k1 (x := .int (gI q8)) (kc2 := 0) (ks2 := 0) ⟨rfl, rfl⟩ ?_) gy_kn
  refine gy_iconst dX9_reduce_20 ?_
  refine gy_isub dX9_reduce_21 ?_
  refine gx_nE e (fun t9 ht9 e => ?_)
  rw [ht9]
  refine gx_istore (ls2 := [(4, .int (gI t9)), (3, .int (gI t6)), (2, .ref q5), (0, .ref v0), (1, .int (gI v1))]) dX9_reduce_22 (Nat.le_of_ble_eq_true rfl) rfl ?_
  refine gx_sub (ls2 := [(0, .ref v0), (1, .int (gI v1)), (2, .ref q5), (3, .int (gI t6)), (4, .int (gI t9))]) [3, 4, 2, 1, 0] rfl ?_
  exact zl_X9_reduce_24  n _ _ _ _ _ _ e
/-! X9_run  -/
set_option maxRecDepth 100000 in
def b_X9_run_64 (n : Nat)  (v0 : Nat)  (h : gi_H) : Option (Int × gi_H) :=
  Option.bind (gi_is h v0 8) fun _ => Option.bind (f_X9_worthOfTop v0 h) fun q20 => Option.bind (gi_is h v0 8) fun _ => Option.bind (f_X10_keepWorth_8 v0 q20 h) fun q22 => some ((-1 : Int), q22)
set_option maxRecDepth 100000 in
theorem zb_X9_run_64 {al : Bool} {n : Nat}  {res : Int} {h1 : gi_H}  {v0 : Nat}  {h : gi_H} (e : b_X9_run_64 n v0 h = some (res, h1)) : gx_Z mX9_run al al 0 0 64 [(0, .ref v0)] [] (gi_cv h) (.inl (some (.int (gI res)))) (gi_cv h1) := by
  refine gx_aload_n dX9_run_64 rfl 0 rfl ?_
  refine gx_aload_n dX9_run_65 rfl 0 rfl ?_
  refine gx_bE e (fun _ hu19 e => ?_)
  refine gx_bE e (fun q20 hq20 e => ?_)
  refine gx_callV (n := 0) (st := [.ref v0]) (As := []) (b := v0) dX9_run_66 (z_X9_worthOfTop hq20) rfl ⟨rfl, gw_cw_X9_worthOfTop, gw_10, gp_X9_worthOfTop, ⟨Nat.le_of_ble_eq_true rfl, Nat.le_of_ble_eq_true rfl⟩⟩ (gi_isS hu19) (by decide) gw_1296 gw_1298 gs_56 rfl ⟨Nat.le_of_ble_eq_true rfl, Nat.le_of_ble_eq_true rfl⟩ (Nat.le_of_ble_eq_true rfl) (gy_k1 (x := .int (gI q20)) (kc2 := 0) (ks2 := 0) ⟨rfl, rfl⟩ ?_) gy_kn
  refine gx_bE e (fun _ hu21 e => ?_)
  refine gx_bE e (fun q22 hq22 e => ?_)
  refine gx_callU (n := 1) (st := []) (As := [.int (gI q20)]) (b := v0) dX9_run_69 (z_X10_keepWorth_8 hq22) rfl ⟨rfl, gw_cw_X10_keepWorth, gw_8, gp_X10_keepWorth, ⟨Nat.le_of_ble_eq_true rfl, Nat.le_of_ble_eq_true rfl⟩⟩ (gi_isS hu21) (by decide) (x := ⟨"Grammarsmith$StateTable", "keepWorth", "(I)V"⟩) (owner := "Grammarsmith$Table") gw_1300 gw_1301 gw_1302 gw_1265 rfl (by decide +kernel) ⟨Nat.le_of_ble_eq_true rfl, Nat.le_of_ble_eq_true rfl⟩ (Nat.le_of_ble_eq_true rfl) (gy_k0 (kc2 := 0) (ks2 := 0) ⟨rfl, rfl⟩ ?_) gy_kn
  refine gy_iconst dX9_run_72 ?_
  cases e
  exact gx_iret dX9_run_73 rfl ⟨Nat.le_of_ble_eq_true rfl, Nat.le_of_ble_eq_true rfl⟩ (fun z => z)
set_option maxRecDepth 100000 in
def b_X9_run_134 (n : Nat) (r30 : Nat → Int → Int → gi_H → Option (Int × gi_H)) (v0 : Nat) (v1 : Int) (v2 : Int)  (h : gi_H) : Option (Int × gi_H) :=
  gx_nm (v2 + (1 : Int)) fun t27 => r30 v0 v1 t27 h
set_option maxRecDepth 100000 in
theorem zb_X9_run_134 {al : Bool} {n : Nat} {r30 : Nat → Int → Int → gi_H → Option (Int × gi_H)} {res : Int} {h1 : gi_H} (hr30 : ∀ (x0 : Nat) (x1 : Int) (x2 : Int) (hh : gi_H), r30 x0 x1 x2 hh = some (res, h1) → gx_Z mX9_run al al 0 0 30 [(0, .ref x0), (1, .int (gI x1)), (2, .int (gI x2))] [] (gi_cv hh) (.inl (some (.int (gI res)))) (gi_cv h1)) {v0 : Nat} {v1 : Int} {v2 : Int}  {h : gi_H} (e : b_X9_run_134 n r30 v0 v1 v2 h = some (res, h1)) : gx_Z mX9_run al al 0 0 134 [(0, .ref v0), (1, .int (gI v1)), (2, .int (gI v2))] [] (gi_cv h) (.inl (some (.int (gI res)))) (gi_cv h1) := by
  refine gx_nE e (fun t27 ht27 e => ?_)
  refine gy_iinc (v := t27) (ls2 := [(2, .int (gI t27)), (0, .ref v0), (1, .int (gI v1))]) dX9_run_134 2 rfl ht27 (Nat.le_of_ble_eq_true rfl) rfl ?_
  refine gx_goto (tgt := 30) dX9_run_137 (by decide) ?_
  refine gx_sub (ls2 := [(0, .ref v0), (1, .int (gI v1)), (2, .int (gI t27))]) [1, 2, 0] rfl ?_
  exact hr30 _ _ _ _ e
set_option maxRecDepth 100000 in
def b_X9_run_121 (n : Nat) (r30 : Nat → Int → Int → gi_H → Option (Int × gi_H)) (v0 : Nat) (v1 : Int) (v2 : Int) (v4 : Int)  (h : gi_H) : Option (Int × gi_H) :=
  Option.bind (gi_rg v2) fun _ => if (300 : Int) ≤ v2 then (b_X9_run_134 n r30 v0 v1 v2 h) else (Option.bind (gi_is h v0 8) fun _ => Option.bind (f_X9_reduce n v0 v4 h) fun q29 => b_X9_run_134 n r30 v0 v1 v2 q29)
set_option maxRecDepth 100000 in
theorem zb_X9_run_121 {al : Bool} {n : Nat} {r30 : Nat → Int → Int → gi_H → Option (Int × gi_H)} {res : Int} {h1 : gi_H} (hr30 : ∀ (x0 : Nat) (x1 : Int) (x2 : Int) (hh : gi_H), r30 x0 x1 x2 hh = some (res, h1) → gx_Z mX9_run al al 0 0 30 [(0, .ref x0), (1, .int (gI x1)), (2, .int (gI x2))] [] (gi_cv hh) (.inl (some (.int (gI res)))) (gi_cv h1)) {v0 : Nat} {v1 : Int} {v2 : Int} {v4 : Int}  {h : gi_H} (e : b_X9_run_121 n r30 v0 v1 v2 v4 h = some (res, h1)) : gx_Z mX9_run al al 0 0 121 [(0, .ref v0), (1, .int (gI v1)), (2, .int (gI v2)), (4, .int (gI v4))] [] (gi_cv h) (.inl (some (.int (gI res)))) (gi_cv h1) := by
  refine gx_iload_n dX9_run_121 rfl 2 rfl ?_
  refine gy_sipush dX9_run_122 gcs_300 ?_
  refine gx_bE e (fun _ g25 e => ?_)
  refine gx_iE e (fun c26 e => ?_) (fun c26 e => ?_)
  · refine gy_icmp_ge (tgt := 134) (gi_rgS g25) (by decide) dX9_run_125 (by decide) (fun _ => ?_) (fun z => absurd c26 z)
    refine gx_sub (ls2 := [(0, .ref v0), (1, .int (gI v1)), (2, .int (gI v2))]) [0, 1, 2] rfl ?_
    exact zb_X9_run_134 hr30 e
  · refine gy_icmp_ge (tgt := 134) (gi_rgS g25) (by decide) dX9_run_125 (by decide) (fun z => absurd z c26) (fun _ => ?_)
    refine gx_aload_n dX9_run_128 rfl 0 rfl ?_
    refine gx_iload dX9_run_129 3 rfl ?_
    refine gx_bE e (fun _ hu28 e => ?_)
    refine gx_bE e (fun q29 hq29 e => ?_)
    refine gx_callV (n := 1) (st := []) (As := [.int (gI v4)]) (b := v0) dX9_run_131 (z_X9_reduce hq29) rfl ⟨rfl, gw_cw_X9_reduce, gw_10, gp_X9_reduce, ⟨Nat.le_of_ble_eq_true rfl, Nat.le_of_ble_eq_true rfl⟩⟩ (gi_isS hu28) (by decide) gw_1303 gw_1305 gs_57 rfl ⟨Nat.le_of_ble_eq_true rfl, Nat.le_of_ble_eq_true rfl⟩ (Nat.le_of_ble_eq_true rfl) (gy_k0 (kc2 := 0) (ks2 := 0) ⟨rfl, rfl⟩ ?_) gy_kn
    refine gx_sub (ls2 := [(0, .ref v0), (1, .int (gI v1)), (2, .int (gI v2))]) [0, 1, 2] rfl ?_
    exact zb_X9_run_134 hr30 e
set_option maxRecDepth 100000 in
def b_X9_run_30 (n : Nat) (r30 : Nat → Int → Int → gi_H → Option (Int × gi_H)) (v0 : Nat) (v1 : Int) (v2 : Int)  (h : gi_H) : Option (Int × gi_H) :=
  Option.bind (gi_rg v2) fun _ => if (300 : Int) < v2 then (some ((-3 : Int), h)) else (Option.bind (gi_gR h v0 8 5) fun t11 => Option.bind (f_X11_lookAt t11 v1 h) fun q12 => Option.bind (gi_is h v0 8) fun _ => Option.bind (f_X9_state v0 h) fun q14 => Option.bind (gi_is h v0 8) fun _ => Option.bind (f_X9_action n v0 q14 q12 h) fun q16 => Option.bind (gi_rg q16.1) fun _ => if q16.1 = (25 : Int) then (b_X9_run_64 n  v0 q16.2) else (if q16.1 = (-1 : Int) then (some (v1, q16.2)) else (if (300 : Int) ≤ v2 then (b_X9_run_121 n r30 v0 v1 v2 q16.1 q16.2) else (if q16.1 = (24 : Int) then (Option.bind (gi_gR q16.2 v0 8 1) fun t31 => Option.bind (gi_is q16.2 v0 8) fun _ => Option.bind (f_X9_state v0 q16.2) fun q33 => Option.bind (gi_is q16.2 t31 0) fun _ => Option.bind (f_X0_move t31 q33 q12 q16.2) fun q35 => Option.bind (gi_is q16.2 v0 8) fun _ => Option.bind (f_X9_push v0 q35 (q12 + (1 : Int)) q16.2) fun q37 => gx_nm (v1 + (1 : Int)) fun t38 => b_X9_run_134 n r30 v0 t38 v2 q37) else (b_X9_run_121 n r30 v0 v1 v2 q16.1 q16.2)))))
set_option maxRecDepth 100000 in
theorem zb_X9_run_30 {al : Bool} {n : Nat} {r30 : Nat → Int → Int → gi_H → Option (Int × gi_H)} {res : Int} {h1 : gi_H} (hr30 : ∀ (x0 : Nat) (x1 : Int) (x2 : Int) (hh : gi_H), r30 x0 x1 x2 hh = some (res, h1) → gx_Z mX9_run al al 0 0 30 [(0, .ref x0), (1, .int (gI x1)), (2, .int (gI x2))] [] (gi_cv hh) (.inl (some (.int (gI res)))) (gi_cv h1)) {v0 : Nat} {v1 : Int} {v2 : Int}  {h : gi_H} (e : b_X9_run_30 n r30 v0 v1 v2 h = some (res, h1)) : gx_Z mX9_run al al 0 0 30 [(0, .ref v0), (1, .int (gI v1)), (2, .int (gI v2))] [] (gi_cv h) (.inl (some (.int (gI res)))) (gi_cv h1) := by
  refine gx_iload_n dX9_run_30 rfl 2 rfl ?_
  refine gy_sipush dX9_run_31 gcs_300 ?_
  refine gx_bE e (fun _ g9 e => ?_)
  refine gx_iE e (fun c10 e => ?_) (fun c10 e => ?_)
  · refine gy_icmp_gt (tgt := 140) (gi_rgS g9) (by decide) dX9_run_34 (by decide) (fun _ => ?_) (fun z => absurd c10 z)
    refine gy_bipush dX9_run_140 gcb_m3 ?_
    cases e
    exact gx_iret dX9_run_142 rfl ⟨Nat.le_of_ble_eq_true rfl, Nat.le_of_ble_eq_true rfl⟩ (fun z => z)
  · refine gy_icmp_gt (tgt := 140) (gi_rgS g9) (by decide) dX9_run_34 (by decide) (fun z => absurd z c10) (fun _ => ?_)
    refine gx_aload_n dX9_run_37 rfl 0 rfl ?_
    refine gx_bE e (fun t11 ht11 e => ?_)
    refine gy_fR ht11 dX9_run_38 gf_RX9_32_8_5 (by decide) gkN_8_5 gkR_8_5 ?_
    refine gx_iload_n dX9_run_41 rfl 1 rfl ?_
    refine gx_bE e (fun q12 hq12 e => ?_)
    refine gx_callSN (n := 2) (st := []) (As := [.ref t11, .int (gI v1)]) dX9_run_42 (z_X11_lookAt hq12) rfl ⟨rfl, gw_cw_X11_lookAt, gw_1, gp_X11_lookAt, ⟨Nat.le_of_ble_eq_true rfl, Nat.le_of_ble_eq_true rfl⟩⟩ (host := "Grammarsmith") (by decide +kernel) gw_1243 ⟨Nat.le_of_ble_eq_true rfl, Nat.le_of_ble_eq_true rfl⟩ (Nat.le_of_ble_eq_true rfl) (gy_k1 (x := .int (gI q12)) (kc2 := 0) (ks2 := 0) ⟨rfl, rfl⟩ ?_) gy_kn
    refine gx_istore_n (ls2 := [(3, .int (gI q12)), (0, .ref v0), (1, .int (gI v1)), (2, .int (gI v2))]) dX9_run_45 rfl (Nat.le_of_ble_eq_true rfl) rfl ?_
    refine gx_aload_n dX9_run_46 rfl 1 rfl ?_
    refine gx_aload_n dX9_run_47 rfl 1 rfl ?_
    refine gx_bE e (fun _ hu13 e => ?_)
    refine gx_bE e (fun q14 hq14 e => ?_)
    refine gx_callV (n := 0) (st := [.ref v0]) (As := []) (b := v0) dX9_run_48 (z_X9_state hq14) rfl ⟨rfl, gw_cw_X9_state, gw_10, gp_X9_state, ⟨Nat.le_of_ble_eq_true rfl, Nat.le_of_ble_eq_true rfl⟩⟩ (gi_isS hu13) (by decide) gw_1284 gw_1286 gs_53 rfl ⟨Nat.le_of_ble_eq_true rfl, Nat.le_of_ble_eq_true rfl⟩ (Nat.le_of_ble_eq_true rfl) (gy_k1 (x := .int (gI q14)) (kc2 := 0) (ks2 := 0) ⟨rfl, rfl⟩ ?_) gy_kn
    refine gx_iload_n dX9_run_51 rfl 0 rfl ?_
    refine gx_bE e (fun _ hu15 e => ?_)
    refine gx_bE e (fun q16 hq16 e => ?_)
    refine gx_callV (n := 2) (st := []) (As := [.int (gI q14), .int (gI q12)]) (b := v0) dX9_run_52 (z_X9_action hq16) rfl ⟨rfl, gw_cw_X9_action, gw_10, gp_X9_action, ⟨Nat.le_of_ble_eq_true rfl, Nat.le_of_ble_eq_true rfl⟩⟩ (gi_isS hu15) (by decide) gw_1288 gw_1290 gs_54 rfl ⟨Nat.le_of_ble_eq_true rfl, Nat.le_of_ble_eq_true rfl⟩ (Nat.le_of_ble_eq_true rfl) (gy_k1 (x := .int (gI q16.1)) (kc2 := 0) (ks2 := 0) ⟨rfl, rfl⟩ ?_) gy_kn
    refine gx_istore (ls2 := [(4, .int (gI q16.1)), (3, .int (gI q12)), (0, .ref v0), (1, .int (gI v1)), (2, .int (gI v2))]) dX9_run_55 (Nat.le_of_ble_eq_true rfl) rfl ?_
    refine gx_iload dX9_run_57 0 rfl ?_
    refine gy_bipush dX9_run_59 gcb_25 ?_
    refine gx_bE e (fun _ g17 e => ?_)
    refine gx_iE e (fun c18 e => ?_) (fun c18 e => ?_)
    · refine gy_icmp_ne (tgt := 74) (gi_rgS g17) (by decide) dX9_run_61 (by decide) (fun z => absurd c18 z) (fun _ => ?_)
      refine gx_sub (ls2 := [(0, .ref v0)]) [2] rfl ?_
      exact zb_X9_run_64  e
    · refine gy_icmp_ne (tgt := 74) (gi_rgS g17) (by decide) dX9_run_61 (by decide) (fun _ => ?_) (fun z => absurd z c18)
      refine gx_iload dX9_run_74 0 rfl ?_
      refine gy_iconst dX9_run_76 ?_
      refine gx_iE e (fun c23 e => ?_) (fun c23 e => ?_)
      · refine gy_icmp_ne (tgt := 82) (gi_rgS g17) (by decide) dX9_run_77 (by decide) (fun z => absurd c23 z) (fun _ => ?_)
        refine gx_iload_n dX9_run_80 rfl 3 rfl ?_
        cases e
        exact gx_iret dX9_run_81 rfl ⟨Nat.le_of_ble_eq_true rfl, Nat.le_of_ble_eq_true rfl⟩ (fun z => z)
      · refine gy_icmp_ne (tgt := 82) (gi_rgS g17) (by decide) dX9_run_77 (by decide) (fun _ => ?_) (fun z => absurd z c23)
        refine gx_iload_n dX9_run_82 rfl 4 rfl ?_
        refine gy_sipush dX9_run_83 gcs_300 ?_
        refine gx_iE e (fun c24 e => ?_) (fun c24 e => ?_)
        · refine gy_icmp_ge (tgt := 121) (gi_rgS g9) (by decide) dX9_run_86 (by decide) (fun _ => ?_) (fun z => absurd c24 z)
          refine gx_sub (ls2 := [(0, .ref v0), (1, .int (gI v1)), (2, .int (gI v2)), (4, .int (gI q16.1))]) [2, 3, 4, 0] rfl ?_
          exact zb_X9_run_121 hr30 e
        · refine gy_icmp_ge (tgt := 121) (gi_rgS g9) (by decide) dX9_run_86 (by decide) (fun z => absurd z c24) (fun _ => ?_)
          refine gx_iload dX9_run_89 0 rfl ?_
          refine gy_bipush dX9_run_91 gcb_24 ?_
          refine gx_iE e (fun c30 e => ?_) (fun c30 e => ?_)
          · refine gy_icmp_ne (tgt := 121) (gi_rgS g17) (by decide) dX9_run_93 (by decide) (fun z => absurd c30 z) (fun _ => ?_)
            refine gx_aload_n dX9_run_96 rfl 2 rfl ?_
            refine gx_aload_n dX9_run_97 rfl 2 rfl ?_
            refine gx_bE e (fun t31 ht31 e => ?_)
            refine gy_fR ht31 dX9_run_98 gf_RX9_18_8_1 (by decide) gkN_8_1 gkR_8_1 ?_
            refine gx_aload_n dX9_run_101 rfl 2 rfl ?_
            refine gx_bE e (fun _ hu32 e => ?_)
            refine gx_bE e (fun q33 hq33 e => ?_)
            refine gx_callV (n := 0) (st := [.ref t31, .ref v0]) (As := []) (b := v0) dX9_run_102 (z_X9_state hq33) rfl ⟨rfl, gw_cw_X9_state, gw_10, gp_X9_state, ⟨Nat.le_of_ble_eq_true rfl, Nat.le_of_ble_eq_true rfl⟩⟩ (gi_isS hu32) (by decide) gw_1284 gw_1286 gs_53 rfl ⟨Nat.le_of_ble_eq_true rfl, Nat.le_of_ble_eq_true rfl⟩ (Nat.le_of_ble_eq_true rfl) (gy_k1 (x := .int (gI q33)) (kc2 := 0) (ks2 := 0) ⟨rfl, rfl⟩ ?_) gy_kn
            refine gx_iload_n dX9_run_105 rfl 1 rfl ?_
            refine gx_bE e (fun _ hu34 e => ?_)
            refine gx_bE e (fun q35 hq35 e => ?_)
            refine gx_callV (n := 2) (st := [.ref v0]) (As := [.int (gI q33), .int (gI q12)]) (b := t31) dX9_run_106 (z_X0_move hq35) rfl ⟨rfl, gw_cw_X0_move, gw_7, gp_X0_move, ⟨Nat.le_of_ble_eq_true rfl, Nat.le_of_ble_eq_true rfl⟩⟩ (gi_isS hu34) (by decide) gw_648 gw_649 gw_650 rfl ⟨Nat.le_of_ble_eq_true rfl, Nat.le_of_ble_eq_true rfl⟩ (Nat.le_of_ble_eq_true rfl) (gy_k1 (x := .int (gI q35)) (kc2 := 0) (ks2 := 0) ⟨rfl, rfl⟩ ?_) gy_kn
            refine gx_iload_n dX9_run_109 rfl 1 rfl ?_
            refine gy_iconst dX9_run_110 ?_
            refine gy_iadd dX9_run_111 ?_
            refine gx_bE e (fun _ hu36 e => ?_)
            refine gx_bE e (fun q37 hq37 e => ?_)
            refine gx_callV (n := 2) (st := []) (As := [.int (gI q35), .int (gI (q12 + (1 : Int)))]) (b := v0) dX9_run_112 (z_X9_push hq37) rfl ⟨rfl, gw_cw_X9_push, gw_10, gp_X9_push, ⟨Nat.le_of_ble_eq_true rfl, Nat.le_of_ble_eq_true rfl⟩⟩ (gi_isS hu36) (by decide) gw_1279 gw_1281 gs_52 rfl ⟨Nat.le_of_ble_eq_true rfl, Nat.le_of_ble_eq_true rfl⟩ (Nat.le_of_ble_eq_true rfl) (gy_k0 (kc2 := 0) (ks2 := 0) ⟨rfl, rfl⟩ ?_) gy_kn
            refine gx_nE e (fun t38 ht38 e => ?_)
            refine gy_iinc (v := t38) (ls2 := [(1, .int (gI t38)), (4, .int (gI q16.1)), (3, .int (gI q12)), (0, .ref v0), (2, .int (gI v2))]) dX9_run_115 3 rfl ht38 (Nat.le_of_ble_eq_true rfl) rfl ?_
            refine gx_goto (tgt := 134) dX9_run_118 (by decide) ?_
            refine gx_sub (ls2 := [(0, .ref v0), (1, .int (gI t38)), (2, .int (gI v2))]) [3, 0, 4] rfl ?_
            exact zb_X9_run_134 hr30 e
          · refine gy_icmp_ne (tgt := 121) (gi_rgS g17) (by decide) dX9_run_93 (by decide) (fun _ => ?_) (fun z => absurd z c30)
            refine gx_sub (ls2 := [(0, .ref v0), (1, .int (gI v1)), (2, .int (gI v2)), (4, .int (gI q16.1))]) [2, 3, 4, 0] rfl ?_
            exact zb_X9_run_121 hr30 e
def l_X9_run_30 (n : Nat)  : Nat → Nat → Int → Int → gi_H → Option (Int × gi_H)
  | 0, _, _, _, _ => none
  | k + 1, v0, v1, v2, h => b_X9_run_30 n  (l_X9_run_30 n  k) v0 v1 v2 h
theorem zl_X9_run_30 {al : Bool} {n : Nat}  {res : Int} {h1 : gi_H}  : ∀ (k : Nat) (v0 : Nat) (v1 : Int) (v2 : Int) (h : gi_H), l_X9_run_30 n  k v0 v1 v2 h = some (res, h1) → gx_Z mX9_run al al 0 0 30 [(0, .ref v0), (1, .int (gI v1)), (2, .int (gI v2))] [] (gi_cv h) (.inl (some (.int (gI res)))) (gi_cv h1)
  | 0, _, _, _, _, e => gx_0E e
  | k + 1, _, _, _, _, e => zb_X9_run_30 (n := n)  (zl_X9_run_30  k) e
set_option maxRecDepth 100000 in
def f_X9_run (n : Nat) (v0 : Nat) (h : gi_H) : Option (Int × gi_H) :=
  Option.bind (gi_gR h v0 8 1) fun t1 => Option.bind (gi_is h t1 0) fun _ => Option.bind (f_X0_extent t1 h) fun q3 => Option.bind (gi_rg q3) fun _ => if q3 = (-2 : Int) then (some ((-2 : Int), h)) else (Option.bind (gi_pI h v0 8 12 (0 : Int)) fun h6 => Option.bind (gi_is h6 v0 8) fun _ => Option.bind (f_X9_push v0 (0 : Int) (0 : Int) h6) fun q8 => l_X9_run_30 n  n v0 (0 : Int) (0 : Int) q8)
set_option maxRecDepth 100000 in
theorem z_X9_run {al : Bool} {n : Nat} {v0 : Nat} {h : gi_H} {res : Int} {h1 : gi_H} (e : f_X9_run n v0 h = some (res, h1)) : gx_Cw mX9_run al [.ref v0] (gi_cv h) (.inl (some (.int (gI res)))) (gi_cv h1) := by
  refine gx_enter (by decide +kernel) rfl (Nat.le_of_ble_eq_true rfl) ?_
  show gx_Z mX9_run al al 0 0 0 [(0, .ref v0)] [] (gi_cv h) (.inl (some (.int (gI res)))) (gi_cv h1)
  refine gx_aload_n dX9_run_0 rfl 0 rfl ?_
  refine gx_bE e (fun t1 ht1 e => ?_)
  refine gy_fR ht1 dX9_run_1 gf_RX9_18_8_1 (by decide) gkN_8_1 gkR_8_1 ?_
  refine gx_bE e (fun _ hu2 e => ?_)
  refine gx_bE e (fun q3 hq3 e => ?_)
  refine gx_callV (n := 0) (st := []) (As := []) (b := t1) dX9_run_4 (z_X0_extent hq3) rfl ⟨rfl, gw_cw_X0_extent, gw_7, gp_X0_extent, ⟨Nat.le_of_ble_eq_true rfl, Nat.le_of_ble_eq_true rfl⟩⟩ (gi_isS hu2) (by decide) gw_619 gw_620 gw_621 rfl ⟨Nat.le_of_ble_eq_true rfl, Nat.le_of_ble_eq_true rfl⟩ (Nat.le_of_ble_eq_true rfl) (gy_k1 (x := .int (gI q3)) (kc2 := 0) (ks2 := 0) ⟨rfl, rfl⟩ ?_) gy_kn
  refine gy_bipush dX9_run_7 gcb_m2 ?_
  refine gx_bE e (fun _ g4 e => ?_)
  refine gx_iE e (fun c5 e => ?_) (fun c5 e => ?_)
  · refine gy_icmp_ne (tgt := 15) (gi_rgS g4) (by decide) dX9_run_9 (by decide) (fun z => absurd c5 z) (fun _ => ?_)
    refine gy_bipush dX9_run_12 gcb_m2 ?_
    cases e
    exact gx_iret dX9_run_14 rfl ⟨Nat.le_of_ble_eq_true rfl, Nat.le_of_ble_eq_true rfl⟩ (fun z => z)
  · refine gy_icmp_ne (tgt := 15) (gi_rgS g4) (by decide) dX9_run_9 (by decide) (fun _ => ?_) (fun z => absurd z c5)
    refine gx_aload_n dX9_run_15 rfl 0 rfl ?_
    refine gy_iconst dX9_run_16 ?_
    refine gx_bE e (fun h6 hh6 e => ?_)
    refine gy_qI hh6 dX9_run_17 gf_RX9_45_8_12 (by decide) gkN_8_12 rfl (Or.inl rfl) ?_
    refine gx_aload_n dX9_run_20 rfl 0 rfl ?_
    refine gy_iconst dX9_run_21 ?_
    refine gy_iconst dX9_run_22 ?_
    refine gx_bE e (fun _ hu7 e => ?_)
    refine gx_bE e (fun q8 hq8 e => ?_)
    refine gx_callV (n := 2) (st := []) (As := [.int (gI (0 : Int)), .int (gI (0 : Int))]) (b := v0) dX9_run_23 (z_X9_push hq8) rfl ⟨rfl, gw_cw_X9_push, gw_10, gp_X9_push, ⟨Nat.le_of_ble_eq_true rfl, Nat.le_of_ble_eq_true rfl⟩⟩ (gi_isS hu7) (by decide) gw_1279 gw_1281 gs_52 rfl ⟨Nat.le_of_ble_eq_true rfl, Nat.le_of_ble_eq_true rfl⟩ (Nat.le_of_ble_eq_true rfl) (gy_k0 (kc2 := 0) (ks2 := 0) ⟨rfl, rfl⟩ ?_) gy_kn
    refine gy_iconst dX9_run_26 ?_
    refine gx_istore_n (ls2 := [(1, .int (gI (0 : Int))), (0, .ref v0)]) dX9_run_27 rfl (Nat.le_of_ble_eq_true rfl) rfl ?_
    refine gy_iconst dX9_run_28 ?_
    refine gx_istore_n (ls2 := [(2, .int (gI (0 : Int))), (1, .int (gI (0 : Int))), (0, .ref v0)]) dX9_run_29 rfl (Nat.le_of_ble_eq_true rfl) rfl ?_
    refine gx_sub (ls2 := [(0, .ref v0), (1, .int (gI (0 : Int))), (2, .int (gI (0 : Int)))]) [2, 1, 0] rfl ?_
    exact zl_X9_run_30  n _ _ _ _ e
/-! X11_parse  -/
set_option maxRecDepth 100000 in
def f_X11_parse (n : Nat) (v0 : Nat) (v1 : Int) (h : gi_H) : Option ((Int ⊕ String) × gi_H) :=
  Option.bind (f_X11_requireKind v1 h) fun q1 => gx_sm q1.1 (fun t2 => Option.bind (gi_is q1.2 v0 9) fun _ => Option.bind (f_X11_table n v0 v1 q1.2) fun q4 => if gi_S q4.2 q4.1 = (0, 4) then (Option.bind (gi_is q4.2 q4.1 4) fun _ => Option.bind (f_X5_run n q4.1 q4.2) fun q7 => some (.inl q7.1, q7.2)) else (Option.bind (gi_is q4.2 q4.1 8) fun _ => Option.bind (f_X9_run n q4.1 q4.2) fun q9 => some (.inl q9.1, q9.2))) (fun t2 => some (.inr t2, q1.2))
set_option maxRecDepth 100000 in
theorem z_X11_parse {n : Nat} {v0 : Nat} {v1 : Int} {h : gi_H} {res : Int ⊕ String} {h1 : gi_H} (e : f_X11_parse n v0 v1 h = some (res, h1)) : gx_Cw mX11_parse false [.ref v0, .int (gI v1)] (gi_cv h) (gx_oI res) (gi_cv h1) := by
  refine gx_enter (by decide +kernel) rfl (Nat.le_of_ble_eq_true rfl) ?_
  show gx_Z mX11_parse false false 0 0 0 [(0, .ref v0), (1, .int (gI v1))] [] (gi_cv h) (gx_oI res) (gi_cv h1)
  refine gx_iload_n dX11_parse_0 rfl 1 rfl ?_
  refine gx_bE e (fun q1 hq1 e => ?_)
  refine gx_smE e (fun t2 ht2 e => ?_) (fun t2 ht2 e => ?_)
  · have zq1 := z_X11_requireKind hq1
    rw [ht2] at zq1
    refine gx_callS (n := 1) (st := []) (As := [.int (gI v1)]) dX11_parse_1 zq1 rfl ⟨rfl, gw_cw_X11_requireKind, gw_1, gp_X11_requireKind, ⟨Nat.le_of_ble_eq_true rfl, Nat.le_of_ble_eq_true rfl⟩⟩ gw_1190 gw_1191 ⟨Nat.le_of_ble_eq_true rfl, Nat.le_of_ble_eq_true rfl⟩ (Nat.le_of_ble_eq_true rfl) (gy_k0 (kc2 := 1) (ks2 := 6) ⟨rfl, rfl⟩ ?_) gy_kn
    refine gx_aload_n dX11_parse_4 rfl 0 rfl ?_
    refine gx_iload_n dX11_parse_5 rfl 1 rfl ?_
    refine gx_bE e (fun _ hu3 e => ?_)
    refine gx_bE e (fun q4 hq4 e => ?_)
    refine gx_callV (n := 1) (st := []) (As := [.int (gI v1)]) (b := v0) dX11_parse_6 (z_X11_table hq4) rfl ⟨rfl, gw_cw_X11_table, gw_1, gp_X11_table, ⟨Nat.le_of_ble_eq_true rfl, Nat.le_of_ble_eq_true rfl⟩⟩ (gi_isS hu3) (by decide) gw_400 gw_402 gs_0 rfl ⟨Nat.le_of_ble_eq_true rfl, Nat.le_of_ble_eq_true rfl⟩ (Nat.le_of_ble_eq_true rfl) (gy_k1 (x := .ref q4.1) (kc2 := 1) (ks2 := 6) ⟨rfl, rfl⟩ ?_) gy_kn
    refine gx_iE e (fun c5 e => ?_) (fun c5 e => ?_)
    · refine gx_bE e (fun _ hu6 e => ?_)
      refine gx_bE e (fun q7 hq7 e => ?_)
      refine gx_callA (n := 0) (st := []) (As := []) (b := q4.1) dX11_parse_9 (z_X5_run hq7) rfl ⟨rfl, gw_cw_X5_run, gw_9, gp_X5_run, ⟨Nat.le_of_ble_eq_true rfl, Nat.le_of_ble_eq_true rfl⟩⟩ (gi_isS hu6) (by decide) (x := ⟨"Grammarsmith$Table", "run", "()I"⟩) (owner := "Grammarsmith$Table") gw_1231 gw_1233 gw_1234 gw_1235 (by decide +kernel) (by decide +kernel) ⟨Nat.le_of_ble_eq_true rfl, Nat.le_of_ble_eq_true rfl⟩ (Nat.le_of_ble_eq_true rfl) (gy_k1 (x := .int (gI q7.1)) (kc2 := 1) (ks2 := 6) ⟨rfl, rfl⟩ ?_) gy_kn
      cases e
      exact gx_iret dX11_parse_12 rfl ⟨Nat.le_of_ble_eq_true rfl, Nat.le_of_ble_eq_true rfl⟩ (fun z => z)
    · refine gx_bE e (fun _ hu8 e => ?_)
      refine gx_bE e (fun q9 hq9 e => ?_)
      refine gx_callA (n := 0) (st := []) (As := []) (b := q4.1) dX11_parse_9 (z_X9_run hq9) rfl ⟨rfl, gw_cw_X9_run, gw_10, gp_X9_run, ⟨Nat.le_of_ble_eq_true rfl, Nat.le_of_ble_eq_true rfl⟩⟩ (gi_isS hu8) (by decide) (x := ⟨"Grammarsmith$Table", "run", "()I"⟩) (owner := "Grammarsmith$Table") gw_1231 gw_1233 gw_1276 gw_1277 (by decide +kernel) (by decide +kernel) ⟨Nat.le_of_ble_eq_true rfl, Nat.le_of_ble_eq_true rfl⟩ (Nat.le_of_ble_eq_true rfl) (gy_k1 (x := .int (gI q9.1)) (kc2 := 1) (ks2 := 6) ⟨rfl, rfl⟩ ?_) gy_kn
      cases e
      exact gx_iret dX11_parse_12 rfl ⟨Nat.le_of_ble_eq_true rfl, Nat.le_of_ble_eq_true rfl⟩ (fun z => z)
  · have zq1 := z_X11_requireKind hq1
    rw [ht2] at zq1
    refine gx_callS (n := 1) (st := []) (As := [.int (gI v1)]) dX11_parse_1 zq1 rfl ⟨rfl, gw_cw_X11_requireKind, gw_1, gp_X11_requireKind, ⟨Nat.le_of_ble_eq_true rfl, Nat.le_of_ble_eq_true rfl⟩⟩ gw_1190 gw_1191 ⟨Nat.le_of_ble_eq_true rfl, Nat.le_of_ble_eq_true rfl⟩ (Nat.le_of_ble_eq_true rfl) gy_kN (gy_kE (kc2 := 1) (ks2 := 6) ⟨rfl, rfl⟩ ?_)
    cases e
    exact gx_out rfl ⟨Nat.le_of_ble_eq_true rfl, Nat.le_of_ble_eq_true rfl⟩ (fun z => z)
/-! L_parse  -/
set_option maxRecDepth 100000 in
def f_L_parse (n : Nat) (v0 : Nat) (v1 : Int) (v2 : Nat) (h : gi_H) : Option (Int × gi_H) :=
  Option.bind (gi_is h v0 9) fun _ => Option.bind (f_X11_parse n v0 v1 h) fun q2 => gx_sm q2.1 (fun t3 => Option.bind (gi_rg t3) fun _ => Option.bind (gi_s2 q2.2 v2 (0 : Int) t3) fun h5 => some ((0 : Int), h5)) (fun t3 => if t3 = gx_IOB then (some ((1 : Int), q2.2)) else (none))
set_option maxRecDepth 100000 in
theorem z_L_parse {n : Nat} {v0 : Nat} {v1 : Int} {v2 : Nat} {h : gi_H} {res : Int} {h1 : gi_H} (e : f_L_parse n v0 v1 v2 h = some (res, h1)) : gx_Cw mL_parse false [.ref v0, .int (gI v1), .ref v2] (gi_cv h) (.inl (some (.int (gI res)))) (gi_cv h1) := by
  refine gx_enter (by decide +kernel) rfl (Nat.le_of_ble_eq_true rfl) ?_
  show gx_Z mL_parse false false 0 0 0 [(0, .ref v0), (1, .int (gI v1)), (2, .ref v2)] [] (gi_cv h) (.inl (some (.int (gI res)))) (gi_cv h1)
  refine gx_aload_n dL_parse_0 rfl 2 rfl ?_
  refine gy_iconst dL_parse_1 ?_
  refine gx_aload_n dL_parse_2 rfl 0 rfl ?_
  refine gx_iload_n dL_parse_3 rfl 1 rfl ?_
  refine gx_bE e (fun _ hu1 e => ?_)
  refine gx_bE e (fun q2 hq2 e => ?_)
  refine gx_smE e (fun t3 ht3 e => ?_) (fun t3 ht3 e => ?_)
  · have zq2 := z_X11_parse hq2
    rw [ht3] at zq2
    refine gx_callV (n := 1) (st := [.int (gI (0 : Int)), .ref v2]) (As := [.int (gI v1)]) (b := v0) dL_parse_4 zq2 rfl ⟨rfl, gw_cw_X11_parse, gw_1, gp_X11_parse, ⟨Nat.le_of_ble_eq_true rfl, Nat.le_of_ble_eq_true rfl⟩⟩ (gi_isS hu1) (by decide) gw_1227 gw_1228 gw_1229 rfl ⟨Nat.le_of_ble_eq_true rfl, Nat.le_of_ble_eq_true rfl⟩ (Nat.le_of_ble_eq_true rfl) (gy_k1 (x := .int (gI t3)) (kc2 := 1) (ks2 := 6) ⟨rfl, rfl⟩ ?_) gy_kn
    refine gx_bE e (fun _ g4 e => ?_)
    refine gy_i2l (gi_rgS g4) dL_parse_7 ?_
    refine gx_bE e (fun h5 hh5 e => ?_)
    refine gy_t2 hh5 dL_parse_8 ?_
    refine gx_goto (tgt := 15) dL_parse_9 (by decide) ?_
    refine gy_iconst dL_parse_15 ?_
    cases e
    exact gx_iret dL_parse_16 rfl ⟨Nat.le_of_ble_eq_true rfl, Nat.le_of_ble_eq_true rfl⟩ (fun z => z)
  · have zq2 := z_X11_parse hq2
    rw [ht3] at zq2
    refine gx_callV (n := 1) (st := [.int (gI (0 : Int)), .ref v2]) (As := [.int (gI v1)]) (b := v0) dL_parse_4 zq2 rfl ⟨rfl, gw_cw_X11_parse, gw_1, gp_X11_parse, ⟨Nat.le_of_ble_eq_true rfl, Nat.le_of_ble_eq_true rfl⟩⟩ (gi_isS hu1) (by decide) gw_1227 gw_1228 gw_1229 rfl ⟨Nat.le_of_ble_eq_true rfl, Nat.le_of_ble_eq_true rfl⟩ (Nat.le_of_ble_eq_true rfl) gy_kN (gy_kE (kc2 := 1) (ks2 := 6) ⟨rfl, rfl⟩ ?_)
    refine gx_iE e (fun c6 e => ?_) (fun c6 e => ?_)
    · rw [c6]
      refine gx_catch (ls2 := [(0, .ref v0), (1, .int (gI v1)), (2, .ref v2)]) [] (x := (0, 9, 12, 28)) rfl (fun z hz => by cases hz) (by decide +kernel) (by decide) gw_1028 (by decide +kernel) (Nat.le_of_ble_eq_true rfl) (Or.inl ⟨3, rfl, rfl, dL_parse_12⟩) rfl ?_
      refine gy_iconst dL_parse_13 ?_
      cases e
      exact gx_iret dL_parse_14 rfl ⟨Nat.le_of_ble_eq_true rfl, Nat.le_of_ble_eq_true rfl⟩ (fun z => z)
    cases e
/-! X12_gathers  -/
set_option maxRecDepth 100000 in
def b_X12_gathers_123 (n : Nat)  (v0 : Nat)  (h : gi_H) : Option (gi_H) :=
  Option.bind (gi_gR h v0 10 37) fun t5 => Option.bind (gi_aI h 1 t5 (0 : Int)) fun t6 => Option.bind (gi_pI h v0 10 39 t6) fun h7 => some h7
set_option maxRecDepth 100000 in
theorem zb_X12_gathers_123 {al : Bool} {n : Nat}  {h1 : gi_H}  {v0 : Nat}  {h : gi_H} (e : b_X12_gathers_123 n v0 h = some h1) : gx_Z mX12_gathers al al 0 0 123 [(0, .ref v0)] [] (gi_cv h) (.inl none) (gi_cv h1) := by
  refine gx_aload_n dX12_gathers_123 rfl 0 rfl ?_
  refine gx_aload_n dX12_gathers_124 rfl 0 rfl ?_
  refine gx_bE e (fun t5 ht5 e => ?_)
  refine gy_fR ht5 dX12_gathers_125 gf_RX12_89_10_37 (by decide) gkN_10_37 gkR_10_37 ?_
  refine gy_iconst dX12_gathers_128 ?_
  refine gx_bE e (fun t6 ht6 e => ?_)
  refine gy_l1 ht6 dX12_gathers_129 ?_
  refine gx_bE e (fun h7 hh7 e => ?_)
  refine gy_qI hh7 dX12_gathers_130 gf_RX12_305_10_39 (by decide) gkN_10_39 rfl (Or.inl rfl) ?_
  cases e
  exact gx_vret dX12_gathers_133 rfl ⟨Nat.le_of_ble_eq_true rfl, Nat.le_of_ble_eq_true rfl⟩ (fun z => z)
set_option maxRecDepth 100000 in
def b_X12_gathers_93 (n : Nat) (r9 : Nat → Int → gi_H → Option (gi_H)) (v0 : Nat) (v2 : Int) (v3 : Int)  (h : gi_H) : Option (gi_H) :=
  Option.bind (gi_gR h v0 10 37) fun t22 => Option.bind (gi_gI h v0 10 38) fun t23 => Option.bind (gi_dg v3 (1009 : Int)) fun _ => Option.bind (gi_s1 h t22 t23 (v3 % (1009 : Int))) fun h25 => Option.bind (gi_gI h25 v0 10 38) fun t26 => Option.bind (gi_pI h25 v0 10 38 (t26 + (1 : Int))) fun h27 => gx_nm (v2 + (-1 : Int)) fun t28 => r9 v0 t28 h27
set_option maxRecDepth 100000 in
theorem zb_X12_gathers_93 {al : Bool} {n : Nat} {r9 : Nat → Int → gi_H → Option (gi_H)} {h1 : gi_H} (hr9 : ∀ (x0 : Nat) (x2 : Int) (hh : gi_H), r9 x0 x2 hh = some h1 → gx_Z mX12_gathers al al 0 0 9 [(0, .ref x0), (2, .int (gI x2))] [] (gi_cv hh) (.inl none) (gi_cv h1)) {v0 : Nat} {v2 : Int} {v3 : Int}  {h : gi_H} (e : b_X12_gathers_93 n r9 v0 v2 v3 h = some h1) : gx_Z mX12_gathers al al 0 0 93 [(0, .ref v0), (2, .int (gI v2)), (3, .int (gI v3))] [] (gi_cv h) (.inl none) (gi_cv h1) := by
  refine gx_aload_n dX12_gathers_93 rfl 0 rfl ?_
  refine gx_bE e (fun t22 ht22 e => ?_)
  refine gy_fR ht22 dX12_gathers_94 gf_RX12_89_10_37 (by decide) gkN_10_37 gkR_10_37 ?_
  refine gx_aload_n dX12_gathers_97 rfl 0 rfl ?_
  refine gx_bE e (fun t23 ht23 e => ?_)
  refine gy_fI ht23 dX12_gathers_98 gf_RX12_302_10_38 (by decide) gkN_10_38 gkR_10_38 ?_
  refine gx_iload_n dX12_gathers_101 rfl 2 rfl ?_
  refine gy_sipush dX12_gathers_102 gcs_1009 ?_
  refine gx_bE e (fun _ hu24 e => ?_)
  refine gy_irem hu24 dX12_gathers_105 ?_
  refine gx_bE e (fun h25 hh25 e => ?_)
  refine gy_t1 hh25 dX12_gathers_106 ?_
  refine gx_aload_n dX12_gathers_107 rfl 0 rfl ?_
  refine gx_dup dX12_gathers_108 rfl ?_
  refine gx_bE e (fun t26 ht26 e => ?_)
  refine gy_fI ht26 dX12_gathers_109 gf_RX12_302_10_38 (by decide) gkN_10_38 gkR_10_38 ?_
  refine gy_iconst dX12_gathers_112 ?_
  refine gy_iadd dX12_gathers_113 ?_
  refine gx_bE e (fun h27 hh27 e => ?_)
  refine gy_qI hh27 dX12_gathers_114 gf_RX12_302_10_38 (by decide) gkN_10_38 rfl (Or.inl rfl) ?_
  refine gx_nE e (fun t28 ht28 e => ?_)
  refine gy_iinc (v := t28) (ls2 := [(2, .int (gI t28)), (0, .ref v0), (3, .int (gI v3))]) dX12_gathers_117 1 rfl ht28 (Nat.le_of_ble_eq_true rfl) rfl ?_
  refine gx_goto (tgt := 9) dX12_gathers_120 (by decide) ?_
  refine gx_sub (ls2 := [(0, .ref v0), (2, .int (gI t28))]) [1, 0] rfl ?_
  exact hr9 _ _ _ e
set_option maxRecDepth 100000 in
def b_X12_gathers_45 (n : Nat) (r9 : Nat → Int → gi_H → Option (gi_H)) (r45 : Nat → Int → Int → Int → gi_H → Option (gi_H)) (v0 : Nat) (v2 : Int) (v3 : Int) (v4 : Int)  (h : gi_H) : Option (gi_H) :=
  Option.bind (gi_gR h v0 10 40) fun t15 => Option.bind (gi_aI h 1 t15 v2) fun t16 => Option.bind (gi_is h v0 10) fun _ => Option.bind (f_X12_sizeOf v0 t16 h) fun q18 => Option.bind (gi_rg v4) fun _ => Option.bind (gi_rg q18) fun _ => if q18 ≤ v4 then (b_X12_gathers_93 n r9 v0 v2 v3 h) else (Option.bind (gi_gI h v0 10 38) fun t29 => Option.bind (gi_pI h v0 10 38 (t29 - (1 : Int))) fun h30 => Option.bind (gi_gR h30 v0 10 37) fun t31 => Option.bind (gi_gI h30 v0 10 38) fun t32 => Option.bind (gi_aI h30 1 t31 t32) fun t33 => gx_nm (v3 + ((v4 + (1 : Int)) * t33)) fun t34 => gx_nm (v4 + (1 : Int)) fun t35 => r45 v0 v2 t34 t35 h30)
set_option maxRecDepth 100000 in
theorem zb_X12_gathers_45 {al : Bool} {n : Nat} {r9 : Nat → Int → gi_H → Option (gi_H)} {r45 : Nat → Int → Int → Int → gi_H → Option (gi_H)} {h1 : gi_H} (hr9 : ∀ (x0 : Nat) (x2 : Int) (hh : gi_H), r9 x0 x2 hh = some h1 → gx_Z mX12_gathers al al 0 0 9 [(0, .ref x0), (2, .int (gI x2))] [] (gi_cv hh) (.inl none) (gi_cv h1)) (hr45 : ∀ (x0 : Nat) (x2 : Int) (x3 : Int) (x4 : Int) (hh : gi_H), r45 x0 x2 x3 x4 hh = some h1 → gx_Z mX12_gathers al al 0 0 45 [(0, .ref x0), (2, .int (gI x2)), (3, .int (gI x3)), (4, .int (gI x4))] [] (gi_cv hh) (.inl none) (gi_cv h1)) {v0 : Nat} {v2 : Int} {v3 : Int} {v4 : Int}  {h : gi_H} (e : b_X12_gathers_45 n r9 r45 v0 v2 v3 v4 h = some h1) : gx_Z mX12_gathers al al 0 0 45 [(0, .ref v0), (2, .int (gI v2)), (3, .int (gI v3)), (4, .int (gI v4))] [] (gi_cv h) (.inl none) (gi_cv h1) := by
  refine gx_iload dX12_gathers_45 3 rfl ?_
  refine gx_aload_n dX12_gathers_47 rfl 0 rfl ?_
  refine gx_aload_n dX12_gathers_48 rfl 0 rfl ?_
  refine gx_bE e (fun t15 ht15 e => ?_)
  refine gy_fR ht15 dX12_gathers_49 gf_RX12_92_10_40 (by decide) gkN_10_40 gkR_10_40 ?_
  refine gx_iload_n dX12_gathers_52 rfl 1 rfl ?_
  refine gx_bE e (fun t16 ht16 e => ?_)
  refine gy_l1 ht16 dX12_gathers_53 ?_
  refine gx_bE e (fun _ hu17 e => ?_)
  refine gx_bE e (fun q18 hq18 e => ?_)
  refine gx_callV (n := 1) (st := [.int (gI v4)]) (As := [.int (gI t16)]) (b := v0) dX12_gathers_54 (z_X12_sizeOf hq18) rfl ⟨rfl, gw_cw_X12_sizeOf, gw_14, gp_X12_sizeOf, ⟨Nat.le_of_ble_eq_true rfl, Nat.le_of_ble_eq_true rfl⟩⟩ (gi_isS hu17) (by decide) gw_1579 gw_1581 gs_71 rfl ⟨Nat.le_of_ble_eq_true rfl, Nat.le_of_ble_eq_true rfl⟩ (Nat.le_of_ble_eq_true rfl) (gy_k1 (x := .int (gI q18)) (kc2 := 0) (ks2 := 0) ⟨rfl, rfl⟩ ?_) gy_kn
  refine gx_bE e (fun _ g19 e => ?_)
  refine gx_bE e (fun _ g20 e => ?_)
  refine gx_iE e (fun c21 e => ?_) (fun c21 e => ?_)
  · refine gy_icmp_ge (tgt := 93) (gi_rgS g19) (gi_rgS g20) dX12_gathers_57 (by decide) (fun _ => ?_) (fun z => absurd c21 z)
    refine gx_sub (ls2 := [(0, .ref v0), (2, .int (gI v2)), (3, .int (gI v3))]) [0, 1, 2] rfl ?_
    exact zb_X12_gathers_93 hr9 e
  · refine gy_icmp_ge (tgt := 93) (gi_rgS g19) (gi_rgS g20) dX12_gathers_57 (by decide) (fun z => absurd z c21) (fun _ => ?_)
    refine gx_aload_n dX12_gathers_60 rfl 0 rfl ?_
    refine gx_dup dX12_gathers_61 rfl ?_
    refine gx_bE e (fun t29 ht29 e => ?_)
    refine gy_fI ht29 dX12_gathers_62 gf_RX12_302_10_38 (by decide) gkN_10_38 gkR_10_38 ?_
    refine gy_iconst dX12_gathers_65 ?_
    refine gy_isub dX12_gathers_66 ?_
    refine gx_bE e (fun h30 hh30 e => ?_)
    refine gy_qI hh30 dX12_gathers_67 gf_RX12_302_10_38 (by decide) gkN_10_38 rfl (Or.inl rfl) ?_
    refine gx_iload_n dX12_gathers_70 rfl 2 rfl ?_
    refine gx_iload dX12_gathers_71 3 rfl ?_
    refine gy_iconst dX12_gathers_73 ?_
    refine gy_iadd dX12_gathers_74 ?_
    refine gx_aload_n dX12_gathers_75 rfl 0 rfl ?_
    refine gx_bE e (fun t31 ht31 e => ?_)
    refine gy_fR ht31 dX12_gathers_76 gf_RX12_89_10_37 (by decide) gkN_10_37 gkR_10_37 ?_
    refine gx_aload_n dX12_gathers_79 rfl 0 rfl ?_
    refine gx_bE e (fun t32 ht32 e => ?_)
    refine gy_fI ht32 dX12_gathers_80 gf_RX12_302_10_38 (by decide) gkN_10_38 gkR_10_38 ?_
    refine gx_bE e (fun t33 ht33 e => ?_)
    refine gy_l1 ht33 dX12_gathers_83 ?_
    refine gy_imul dX12_gathers_84 ?_
    refine gy_iadd dX12_gathers_85 ?_
    refine gx_nE e (fun t34 ht34 e => ?_)
    rw [ht34]
    refine gx_istore_n (ls2 := [(3, .int (gI t34)), (0, .ref v0), (2, .int (gI v2)), (4, .int (gI v4))]) dX12_gathers_86 rfl (Nat.le_of_ble_eq_true rfl) rfl ?_
    refine gx_nE e (fun t35 ht35 e => ?_)
    refine gy_iinc (v := t35) (ls2 := [(4, .int (gI t35)), (3, .int (gI t34)), (0, .ref v0), (2, .int (gI v2))]) dX12_gathers_87 3 rfl ht35 (Nat.le_of_ble_eq_true rfl) rfl ?_
    refine gx_goto (tgt := 45) dX12_gathers_90 (by decide) ?_
    refine gx_sub (ls2 := [(0, .ref v0), (2, .int (gI v2)), (3, .int (gI t34)), (4, .int (gI t35))]) [2, 3, 1, 0] rfl ?_
    exact hr45 _ _ _ _ _ e
def l_X12_gathers_45 (n : Nat) (r9 : Nat → Int → gi_H → Option (gi_H)) : Nat → Nat → Int → Int → Int → gi_H → Option (gi_H)
  | 0, _, _, _, _, _ => none
  | k + 1, v0, v2, v3, v4, h => b_X12_gathers_45 n r9 (l_X12_gathers_45 n r9 k) v0 v2 v3 v4 h
theorem zl_X12_gathers_45 {al : Bool} {n : Nat} {r9 : Nat → Int → gi_H → Option (gi_H)} {h1 : gi_H} (hr9 : ∀ (x0 : Nat) (x2 : Int) (hh : gi_H), r9 x0 x2 hh = some h1 → gx_Z mX12_gathers al al 0 0 9 [(0, .ref x0), (2, .int (gI x2))] [] (gi_cv hh) (.inl none) (gi_cv h1)) : ∀ (k : Nat) (v0 : Nat) (v2 : Int) (v3 : Int) (v4 : Int) (h : gi_H), l_X12_gathers_45 n r9 k v0 v2 v3 v4 h = some h1 → gx_Z mX12_gathers al al 0 0 45 [(0, .ref v0), (2, .int (gI v2)), (3, .int (gI v3)), (4, .int (gI v4))] [] (gi_cv h) (.inl none) (gi_cv h1)
  | 0, _, _, _, _, _, e => gx_0E e
  | k + 1, _, _, _, _, _, e => zb_X12_gathers_45 (n := n) hr9 (zl_X12_gathers_45 hr9 k) e
set_option maxRecDepth 100000 in
def b_X12_gathers_9 (n : Nat) (r9 : Nat → Int → gi_H → Option (gi_H)) (v0 : Nat) (v2 : Int)  (h : gi_H) : Option (gi_H) :=
  Option.bind (gi_rg v2) fun _ => if v2 < 0 then (b_X12_gathers_123 n  v0 h) else (Option.bind (gi_gR h v0 10 40) fun t8 => Option.bind (gi_aI h 1 t8 v2) fun t9 => gx_nm (t9 + (1 : Int)) fun t10 => Option.bind (gi_gR h v0 10 40) fun t11 => Option.bind (gi_aI h 1 t11 v2) fun t12 => Option.bind (gi_rg t12) fun _ => if 0 ≤ t12 then (l_X12_gathers_45 n r9 n v0 v2 t10 (0 : Int) h) else (Option.bind (gi_gR h v0 10 40) fun t36 => Option.bind (gi_aI h 1 t36 v2) fun t37 => gx_nm (-t37) fun t38 => b_X12_gathers_93 n r9 v0 v2 t38 h))
set_option maxRecDepth 100000 in
theorem zb_X12_gathers_9 {al : Bool} {n : Nat} {r9 : Nat → Int → gi_H → Option (gi_H)} {h1 : gi_H} (hr9 : ∀ (x0 : Nat) (x2 : Int) (hh : gi_H), r9 x0 x2 hh = some h1 → gx_Z mX12_gathers al al 0 0 9 [(0, .ref x0), (2, .int (gI x2))] [] (gi_cv hh) (.inl none) (gi_cv h1)) {v0 : Nat} {v2 : Int}  {h : gi_H} (e : b_X12_gathers_9 n r9 v0 v2 h = some h1) : gx_Z mX12_gathers al al 0 0 9 [(0, .ref v0), (2, .int (gI v2))] [] (gi_cv h) (.inl none) (gi_cv h1) := by
  refine gx_iload_n dX12_gathers_9 rfl 1 rfl ?_
  refine gx_bE e (fun _ g3 e => ?_)
  refine gx_iE e (fun c4 e => ?_) (fun c4 e => ?_)
  · refine gy_if_lt (tgt := 123) (gi_rgS g3) dX12_gathers_10 (by decide) (fun _ => ?_) (fun z => absurd c4 z)
    refine gx_sub (ls2 := [(0, .ref v0)]) [0] rfl ?_
    exact zb_X12_gathers_123  e
  · refine gy_if_lt (tgt := 123) (gi_rgS g3) dX12_gathers_10 (by decide) (fun z => absurd z c4) (fun _ => ?_)
    refine gx_aload_n dX12_gathers_13 rfl 0 rfl ?_
    refine gx_bE e (fun t8 ht8 e => ?_)
    refine gy_fR ht8 dX12_gathers_14 gf_RX12_92_10_40 (by decide) gkN_10_40 gkR_10_40 ?_
    refine gx_iload_n dX12_gathers_17 rfl 1 rfl ?_
    refine gx_bE e (fun t9 ht9 e => ?_)
    refine gy_l1 ht9 dX12_gathers_18 ?_
    refine gy_iconst dX12_gathers_19 ?_
    refine gy_iadd dX12_gathers_20 ?_
    refine gx_nE e (fun t10 ht10 e => ?_)
    rw [ht10]
    refine gx_istore_n (ls2 := [(3, .int (gI t10)), (0, .ref v0), (2, .int (gI v2))]) dX12_gathers_21 rfl (Nat.le_of_ble_eq_true rfl) rfl ?_
    refine gx_aload_n dX12_gathers_22 rfl 1 rfl ?_
    refine gx_bE e (fun t11 ht11 e => ?_)
    refine gy_fR ht11 dX12_gathers_23 gf_RX12_92_10_40 (by decide) gkN_10_40 gkR_10_40 ?_
    refine gx_iload_n dX12_gathers_26 rfl 2 rfl ?_
    refine gx_bE e (fun t12 ht12 e => ?_)
    refine gy_l1 ht12 dX12_gathers_27 ?_
    refine gx_bE e (fun _ g13 e => ?_)
    refine gx_iE e (fun c14 e => ?_) (fun c14 e => ?_)
    · refine gy_if_ge (tgt := 42) (gi_rgS g13) dX12_gathers_28 (by decide) (fun _ => ?_) (fun z => absurd c14 z)
      refine gy_iconst dX12_gathers_42 ?_
      refine gx_istore (ls2 := [(4, .int (gI (0 : Int))), (3, .int (gI t10)), (0, .ref v0), (2, .int (gI v2))]) dX12_gathers_43 (Nat.le_of_ble_eq_true rfl) rfl ?_
      refine gx_sub (ls2 := [(0, .ref v0), (2, .int (gI v2)), (3, .int (gI t10)), (4, .int (gI (0 : Int)))]) [2, 3, 1, 0] rfl ?_
      exact zl_X12_gathers_45 hr9 n _ _ _ _ _ e
    · refine gy_if_ge (tgt := 42) (gi_rgS g13) dX12_gathers_28 (by decide) (fun z => absurd z c14) (fun _ => ?_)
      refine gx_aload_n dX12_gathers_31 rfl 1 rfl ?_
      refine gx_bE e (fun t36 ht36 e => ?_)
      refine gy_fR ht36 dX12_gathers_32 gf_RX12_92_10_40 (by decide) gkN_10_40 gkR_10_40 ?_
      refine gx_iload_n dX12_gathers_35 rfl 2 rfl ?_
      refine gx_bE e (fun t37 ht37 e => ?_)
      refine gy_l1 ht37 dX12_gathers_36 ?_
      refine gy_ineg dX12_gathers_37 ?_
      refine gx_nE e (fun t38 ht38 e => ?_)
      rw [ht38]
      refine gx_istore_n (ls2 := [(3, .int (gI t38)), (0, .ref v0), (2, .int (gI v2))]) dX12_gathers_38 rfl (Nat.le_of_ble_eq_true rfl) rfl ?_
      refine gx_goto (tgt := 93) dX12_gathers_39 (by decide) ?_
      refine gx_sub (ls2 := [(0, .ref v0), (2, .int (gI v2)), (3, .int (gI t38))]) [1, 2, 0] rfl ?_
      exact zb_X12_gathers_93 hr9 e
def l_X12_gathers_9 (n : Nat)  : Nat → Nat → Int → gi_H → Option (gi_H)
  | 0, _, _, _ => none
  | k + 1, v0, v2, h => b_X12_gathers_9 n  (l_X12_gathers_9 n  k) v0 v2 h
theorem zl_X12_gathers_9 {al : Bool} {n : Nat}  {h1 : gi_H}  : ∀ (k : Nat) (v0 : Nat) (v2 : Int) (h : gi_H), l_X12_gathers_9 n  k v0 v2 h = some h1 → gx_Z mX12_gathers al al 0 0 9 [(0, .ref v0), (2, .int (gI v2))] [] (gi_cv h) (.inl none) (gi_cv h1)
  | 0, _, _, _, e => gx_0E e
  | k + 1, _, _, _, e => zb_X12_gathers_9 (n := n)  (zl_X12_gathers_9  k) e
set_option maxRecDepth 100000 in
def f_X12_gathers (n : Nat) (v0 : Nat) (v1 : Int) (h : gi_H) : Option (gi_H) :=
  Option.bind (gi_pI h v0 10 38 (0 : Int)) fun h1 => gx_nm (v1 - (1 : Int)) fun t2 => l_X12_gathers_9 n  n v0 t2 h1
set_option maxRecDepth 100000 in
theorem z_X12_gathers {al : Bool} {n : Nat} {v0 : Nat} {v1 : Int} {h : gi_H} {h1 : gi_H} (e : f_X12_gathers n v0 v1 h = some h1) : gx_Cw mX12_gathers al [.ref v0, .int (gI v1)] (gi_cv h) (.inl none) (gi_cv h1) := by
  refine gx_enter (by decide +kernel) rfl (Nat.le_of_ble_eq_true rfl) ?_
  show gx_Z mX12_gathers al al 0 0 0 [(0, .ref v0), (1, .int (gI v1))] [] (gi_cv h) (.inl none) (gi_cv h1)
  refine gx_aload_n dX12_gathers_0 rfl 0 rfl ?_
  refine gy_iconst dX12_gathers_1 ?_
  refine gx_bE e (fun h1 hh1 e => ?_)
  refine gy_qI hh1 dX12_gathers_2 gf_RX12_302_10_38 (by decide) gkN_10_38 rfl (Or.inl rfl) ?_
  refine gx_iload_n dX12_gathers_5 rfl 1 rfl ?_
  refine gy_iconst dX12_gathers_6 ?_
  refine gy_isub dX12_gathers_7 ?_
  refine gx_nE e (fun t2 ht2 e => ?_)
  rw [ht2]
  refine gx_istore_n (ls2 := [(2, .int (gI t2)), (0, .ref v0), (1, .int (gI v1))]) dX12_gathers_8 rfl (Nat.le_of_ble_eq_true rfl) rfl ?_
  refine gx_sub (ls2 := [(0, .ref v0), (2, .int (gI t2))]) [1, 0] rfl ?_
  exact zl_X12_gathers_9  n _ _ _ e
/-! X12_sizeOr  -/
set_option maxRecDepth 100000 in
def f_X12_sizeOr (v0 : Nat) (v1 : Int) (h : gi_H) : Option (Int) :=
  Option.bind (gi_rg v1) fun _ => if v1 = (-1 : Int) then (some (0 : Int)) else (Option.bind (gi_is h v0 10) fun _ => Option.bind (f_X12_sizeOf v0 v1 h) fun q4 => some q4)
set_option maxRecDepth 100000 in
theorem z_X12_sizeOr {al : Bool} {v0 : Nat} {v1 : Int} {h : gi_H} {res : Int} (e : f_X12_sizeOr v0 v1 h = some res) : gx_Cw mX12_sizeOr al [.ref v0, .int (gI v1)] (gi_cv h) (.inl (some (.int (gI res)))) (gi_cv h) := by
  refine gx_enter (by decide +kernel) rfl (Nat.le_of_ble_eq_true rfl) ?_
  show gx_Z mX12_sizeOr al al 0 0 0 [(0, .ref v0), (1, .int (gI v1))] [] (gi_cv h) (.inl (some (.int (gI res)))) (gi_cv h)
  refine gx_iload_n dX12_sizeOr_0 rfl 1 rfl ?_
  refine gy_iconst dX12_sizeOr_1 ?_
  refine gx_bE e (fun _ g1 e => ?_)
  refine gx_iE e (fun c2 e => ?_) (fun c2 e => ?_)
  · refine gy_icmp_ne (tgt := 9) (gi_rgS g1) (by decide) dX12_sizeOr_2 (by decide) (fun z => absurd c2 z) (fun _ => ?_)
    refine gy_iconst dX12_sizeOr_5 ?_
    refine gx_goto (tgt := 14) dX12_sizeOr_6 (by decide) ?_
    cases e
    exact gx_iret dX12_sizeOr_14 rfl ⟨Nat.le_of_ble_eq_true rfl, Nat.le_of_ble_eq_true rfl⟩ (fun z => z)
  · refine gy_icmp_ne (tgt := 9) (gi_rgS g1) (by decide) dX12_sizeOr_2 (by decide) (fun _ => ?_) (fun z => absurd z c2)
    refine gx_aload_n dX12_sizeOr_9 rfl 0 rfl ?_
    refine gx_iload_n dX12_sizeOr_10 rfl 1 rfl ?_
    refine gx_bE e (fun _ hu3 e => ?_)
    refine gx_bE e (fun q4 hq4 e => ?_)
    refine gx_callV (n := 1) (st := []) (As := [.int (gI v1)]) (b := v0) dX12_sizeOr_11 (z_X12_sizeOf hq4) rfl ⟨rfl, gw_cw_X12_sizeOf, gw_14, gp_X12_sizeOf, ⟨Nat.le_of_ble_eq_true rfl, Nat.le_of_ble_eq_true rfl⟩⟩ (gi_isS hu3) (by decide) gw_1579 gw_1581 gs_71 rfl ⟨Nat.le_of_ble_eq_true rfl, Nat.le_of_ble_eq_true rfl⟩ (Nat.le_of_ble_eq_true rfl) (gy_k1 (x := .int (gI q4)) (kc2 := 0) (ks2 := 0) ⟨rfl, rfl⟩ ?_) gy_kn
    cases e
    exact gx_iret dX12_sizeOr_14 rfl ⟨Nat.le_of_ble_eq_true rfl, Nat.le_of_ble_eq_true rfl⟩ (fun z => z)
/-! X12_derives  -/
set_option maxRecDepth 100000 in
def b_X12_derives_53 (n : Nat)  (v0 : Nat) (v2 : Int)  (h : gi_H) : Option (Int × gi_H) :=
  Option.bind (gi_is h v0 10) fun _ => Option.bind (f_X12_gathers n v0 v2 h) fun q19 => some ((-1 : Int), q19)
set_option maxRecDepth 100000 in
theorem zb_X12_derives_53 {al : Bool} {n : Nat}  {res : Int} {h1 : gi_H}  {v0 : Nat} {v2 : Int}  {h : gi_H} (e : b_X12_derives_53 n v0 v2 h = some (res, h1)) : gx_Z mX12_derives al al 0 0 53 [(0, .ref v0), (2, .int (gI v2))] [] (gi_cv h) (.inl (some (.int (gI res)))) (gi_cv h1) := by
  refine gx_aload_n dX12_derives_53 rfl 0 rfl ?_
  refine gx_iload_n dX12_derives_54 rfl 1 rfl ?_
  refine gx_bE e (fun _ hu18 e => ?_)
  refine gx_bE e (fun q19 hq19 e => ?_)
  refine gx_callV (n := 1) (st := []) (As := [.int (gI v2)]) (b := v0) dX12_derives_55 (z_X12_gathers hq19) rfl ⟨rfl, gw_cw_X12_gathers, gw_14, gp_X12_gathers, ⟨Nat.le_of_ble_eq_true rfl, Nat.le_of_ble_eq_true rfl⟩⟩ (gi_isS hu18) (by decide) gw_1759 gw_1761 gs_100 rfl ⟨Nat.le_of_ble_eq_true rfl, Nat.le_of_ble_eq_true rfl⟩ (Nat.le_of_ble_eq_true rfl) (gy_k0 (kc2 := 0) (ks2 := 0) ⟨rfl, rfl⟩ ?_) gy_kn
  refine gy_iconst dX12_derives_58 ?_
  cases e
  exact gx_iret dX12_derives_59 rfl ⟨Nat.le_of_ble_eq_true rfl, Nat.le_of_ble_eq_true rfl⟩ (fun z => z)
set_option maxRecDepth 100000 in
def b_X12_derives_257 (n : Nat) (r31 : Nat → Int → Int → gi_H → Option (Int × gi_H)) (v0 : Nat) (v1 : Int) (v2 : Int)  (h : gi_H) : Option (Int × gi_H) :=
  gx_nm (v2 + (1 : Int)) fun t38 => r31 v0 v1 t38 h
set_option maxRecDepth 100000 in
theorem zb_X12_derives_257 {al : Bool} {n : Nat} {r31 : Nat → Int → Int → gi_H → Option (Int × gi_H)} {res : Int} {h1 : gi_H} (hr31 : ∀ (x0 : Nat) (x1 : Int) (x2 : Int) (hh : gi_H), r31 x0 x1 x2 hh = some (res, h1) → gx_Z mX12_derives al al 0 0 31 [(0, .ref x0), (1, .int (gI x1)), (2, .int (gI x2))] [] (gi_cv hh) (.inl (some (.int (gI res)))) (gi_cv h1)) {v0 : Nat} {v1 : Int} {v2 : Int}  {h : gi_H} (e : b_X12_derives_257 n r31 v0 v1 v2 h = some (res, h1)) : gx_Z mX12_derives al al 0 0 257 [(0, .ref v0), (1, .int (gI v1)), (2, .int (gI v2))] [] (gi_cv h) (.inl (some (.int (gI res)))) (gi_cv h1) := by
  refine gx_nE e (fun t38 ht38 e => ?_)
  refine gy_iinc (v := t38) (ls2 := [(2, .int (gI t38)), (0, .ref v0), (1, .int (gI v1))]) dX12_derives_257 2 rfl ht38 (Nat.le_of_ble_eq_true rfl) rfl ?_
  refine gx_goto (tgt := 31) dX12_derives_260 (by decide) ?_
  refine gx_sub (ls2 := [(0, .ref v0), (1, .int (gI v1)), (2, .int (gI t38))]) [1, 2, 0] rfl ?_
  exact hr31 _ _ _ _ e
set_option maxRecDepth 100000 in
def b_X12_derives_219 (n : Nat) (r31 : Nat → Int → Int → gi_H → Option (Int × gi_H)) (r219 : Nat → Int → Int → Int → Int → gi_H → Option (Int × gi_H)) (v0 : Nat) (v1 : Int) (v2 : Int) (v5 : Int) (v6 : Int)  (h : gi_H) : Option (Int × gi_H) :=
  Option.bind (gi_rg v6) fun _ => if v6 < 0 then (b_X12_derives_257 n r31 v0 v1 v2 h) else (Option.bind (gi_gR h v0 10 36) fun t53 => Option.bind (gi_gI h v0 10 38) fun t54 => Option.bind (gi_is h v0 10) fun _ => Option.bind (f_X12_symbol v0 v5 v6 h) fun q56 => Option.bind (gi_s1 h t53 t54 q56) fun h57 => Option.bind (gi_gI h57 v0 10 38) fun t58 => Option.bind (gi_pI h57 v0 10 38 (t58 + (1 : Int))) fun h59 => gx_nm (v6 + (-1 : Int)) fun t60 => r219 v0 v1 v2 v5 t60 h59)
set_option maxRecDepth 100000 in
theorem zb_X12_derives_219 {al : Bool} {n : Nat} {r31 : Nat → Int → Int → gi_H → Option (Int × gi_H)} {r219 : Nat → Int → Int → Int → Int → gi_H → Option (Int × gi_H)} {res : Int} {h1 : gi_H} (hr31 : ∀ (x0 : Nat) (x1 : Int) (x2 : Int) (hh : gi_H), r31 x0 x1 x2 hh = some (res, h1) → gx_Z mX12_derives al al 0 0 31 [(0, .ref x0), (1, .int (gI x1)), (2, .int (gI x2))] [] (gi_cv hh) (.inl (some (.int (gI res)))) (gi_cv h1)) (hr219 : ∀ (x0 : Nat) (x1 : Int) (x2 : Int) (x5 : Int) (x6 : Int) (hh : gi_H), r219 x0 x1 x2 x5 x6 hh = some (res, h1) → gx_Z mX12_derives al al 0 0 219 [(0, .ref x0), (1, .int (gI x1)), (2, .int (gI x2)), (5, .int (gI x5)), (6, .int (gI x6))] [] (gi_cv hh) (.inl (some (.int (gI res)))) (gi_cv h1)) {v0 : Nat} {v1 : Int} {v2 : Int} {v5 : Int} {v6 : Int}  {h : gi_H} (e : b_X12_derives_219 n r31 r219 v0 v1 v2 v5 v6 h = some (res, h1)) : gx_Z mX12_derives al al 0 0 219 [(0, .ref v0), (1, .int (gI v1)), (2, .int (gI v2)), (5, .int (gI v5)), (6, .int (gI v6))] [] (gi_cv h) (.inl (some (.int (gI res)))) (gi_cv h1) := by
  refine gx_iload dX12_derives_219 4 rfl ?_
  refine gx_bE e (fun _ g51 e => ?_)
  refine gx_iE e (fun c52 e => ?_) (fun c52 e => ?_)
  · refine gy_if_lt (tgt := 257) (gi_rgS g51) dX12_derives_221 (by decide) (fun _ => ?_) (fun z => absurd c52 z)
    refine gx_sub (ls2 := [(0, .ref v0), (1, .int (gI v1)), (2, .int (gI v2))]) [0, 1, 2] rfl ?_
    exact zb_X12_derives_257 hr31 e
  · refine gy_if_lt (tgt := 257) (gi_rgS g51) dX12_derives_221 (by decide) (fun z => absurd z c52) (fun _ => ?_)
    refine gx_aload_n dX12_derives_224 rfl 0 rfl ?_
    refine gx_bE e (fun t53 ht53 e => ?_)
    refine gy_fR ht53 dX12_derives_225 gf_RX12_86_10_36 (by decide) gkN_10_36 gkR_10_36 ?_
    refine gx_aload_n dX12_derives_228 rfl 0 rfl ?_
    refine gx_bE e (fun t54 ht54 e => ?_)
    refine gy_fI ht54 dX12_derives_229 gf_RX12_302_10_38 (by decide) gkN_10_38 gkR_10_38 ?_
    refine gx_aload_n dX12_derives_232 rfl 0 rfl ?_
    refine gx_iload dX12_derives_233 3 rfl ?_
    refine gx_iload dX12_derives_235 4 rfl ?_
    refine gx_bE e (fun _ hu55 e => ?_)
    refine gx_bE e (fun q56 hq56 e => ?_)
    refine gx_callV (n := 2) (st := [.int (gI t54), .ref t53]) (As := [.int (gI v5), .int (gI v6)]) (b := v0) dX12_derives_237 (z_X12_symbol hq56) rfl ⟨rfl, gw_cw_X12_symbol, gw_14, gp_X12_symbol, ⟨Nat.le_of_ble_eq_true rfl, Nat.le_of_ble_eq_true rfl⟩⟩ (gi_isS hu55) (by decide) gw_1575 gw_1577 gs_70 rfl ⟨Nat.le_of_ble_eq_true rfl, Nat.le_of_ble_eq_true rfl⟩ (Nat.le_of_ble_eq_true rfl) (gy_k1 (x := .int (gI q56)) (kc2 := 0) (ks2 := 0) ⟨rfl, rfl⟩ ?_) gy_kn
    refine gx_bE e (fun h57 hh57 e => ?_)
    refine gy_t1 hh57 dX12_derives_240 ?_
    refine gx_aload_n dX12_derives_241 rfl 0 rfl ?_
    refine gx_dup dX12_derives_242 rfl ?_
    refine gx_bE e (fun t58 ht58 e => ?_)
    refine gy_fI ht58 dX12_derives_243 gf_RX12_302_10_38 (by decide) gkN_10_38 gkR_10_38 ?_
    refine gy_iconst dX12_derives_246 ?_
    refine gy_iadd dX12_derives_247 ?_
    refine gx_bE e (fun h59 hh59 e => ?_)
    refine gy_qI hh59 dX12_derives_248 gf_RX12_302_10_38 (by decide) gkN_10_38 rfl (Or.inl rfl) ?_
    refine gx_nE e (fun t60 ht60 e => ?_)
    refine gy_iinc (v := t60) (ls2 := [(6, .int (gI t60)), (0, .ref v0), (1, .int (gI v1)), (2, .int (gI v2)), (5, .int (gI v5))]) dX12_derives_251 4 rfl ht60 (Nat.le_of_ble_eq_true rfl) rfl ?_
    refine gx_goto (tgt := 219) dX12_derives_254 (by decide) ?_
    refine gx_sub (ls2 := [(0, .ref v0), (1, .int (gI v1)), (2, .int (gI v2)), (5, .int (gI v5)), (6, .int (gI t60))]) [1, 2, 3, 4, 0] rfl ?_
    exact hr219 _ _ _ _ _ _ e
def l_X12_derives_219 (n : Nat) (r31 : Nat → Int → Int → gi_H → Option (Int × gi_H)) : Nat → Nat → Int → Int → Int → Int → gi_H → Option (Int × gi_H)
  | 0, _, _, _, _, _, _ => none
  | k + 1, v0, v1, v2, v5, v6, h => b_X12_derives_219 n r31 (l_X12_derives_219 n r31 k) v0 v1 v2 v5 v6 h
theorem zl_X12_derives_219 {al : Bool} {n : Nat} {r31 : Nat → Int → Int → gi_H → Option (Int × gi_H)} {res : Int} {h1 : gi_H} (hr31 : ∀ (x0 : Nat) (x1 : Int) (x2 : Int) (hh : gi_H), r31 x0 x1 x2 hh = some (res, h1) → gx_Z mX12_derives al al 0 0 31 [(0, .ref x0), (1, .int (gI x1)), (2, .int (gI x2))] [] (gi_cv hh) (.inl (some (.int (gI res)))) (gi_cv h1)) : ∀ (k : Nat) (v0 : Nat) (v1 : Int) (v2 : Int) (v5 : Int) (v6 : Int) (h : gi_H), l_X12_derives_219 n r31 k v0 v1 v2 v5 v6 h = some (res, h1) → gx_Z mX12_derives al al 0 0 219 [(0, .ref v0), (1, .int (gI v1)), (2, .int (gI v2)), (5, .int (gI v5)), (6, .int (gI v6))] [] (gi_cv h) (.inl (some (.int (gI res)))) (gi_cv h1)
  | 0, _, _, _, _, _, _, e => gx_0E e
  | k + 1, _, _, _, _, _, _, e => zb_X12_derives_219 (n := n) hr31 (zl_X12_derives_219 hr31 k) e
set_option maxRecDepth 100000 in
def b_X12_derives_207 (n : Nat) (r31 : Nat → Int → Int → gi_H → Option (Int × gi_H)) (v0 : Nat) (v2 : Int) (v5 : Int) (s0 : Int) (s1 : Int) (h : gi_H) : Option (Int × gi_H) :=
  gx_nm (s0 + s1) fun t47 => Option.bind (gi_is h v0 10) fun _ => Option.bind (f_X12_sizeOr v0 v5 h) fun q49 => gx_nm (q49 - (1 : Int)) fun t50 => l_X12_derives_219 n r31 n v0 t47 v2 v5 t50 h
set_option maxRecDepth 100000 in
theorem zb_X12_derives_207 {al : Bool} {n : Nat} {r31 : Nat → Int → Int → gi_H → Option (Int × gi_H)} {res : Int} {h1 : gi_H} (hr31 : ∀ (x0 : Nat) (x1 : Int) (x2 : Int) (hh : gi_H), r31 x0 x1 x2 hh = some (res, h1) → gx_Z mX12_derives al al 0 0 31 [(0, .ref x0), (1, .int (gI x1)), (2, .int (gI x2))] [] (gi_cv hh) (.inl (some (.int (gI res)))) (gi_cv h1)) {v0 : Nat} {v2 : Int} {v5 : Int} {s0 : Int} {s1 : Int} {h : gi_H} (e : b_X12_derives_207 n r31 v0 v2 v5 s0 s1 h = some (res, h1)) : gx_Z mX12_derives al al 0 0 207 [(0, .ref v0), (2, .int (gI v2)), (5, .int (gI v5))] [.int (gI s1), .int (gI s0)] (gi_cv h) (.inl (some (.int (gI res)))) (gi_cv h1) := by
  refine gy_iadd dX12_derives_207 ?_
  refine gx_nE e (fun t47 ht47 e => ?_)
  rw [ht47]
  refine gx_istore_n (ls2 := [(1, .int (gI t47)), (0, .ref v0), (2, .int (gI v2)), (5, .int (gI v5))]) dX12_derives_208 rfl (Nat.le_of_ble_eq_true rfl) rfl ?_
  refine gx_aload_n dX12_derives_209 rfl 1 rfl ?_
  refine gx_iload dX12_derives_210 3 rfl ?_
  refine gx_bE e (fun _ hu48 e => ?_)
  refine gx_bE e (fun q49 hq49 e => ?_)
  refine gx_callV (n := 1) (st := []) (As := [.int (gI v5)]) (b := v0) dX12_derives_212 (z_X12_sizeOr hq49) rfl ⟨rfl, gw_cw_X12_sizeOr, gw_14, gp_X12_sizeOr, ⟨Nat.le_of_ble_eq_true rfl, Nat.le_of_ble_eq_true rfl⟩⟩ (gi_isS hu48) (by decide) gw_1763 gw_1765 gs_101 rfl ⟨Nat.le_of_ble_eq_true rfl, Nat.le_of_ble_eq_true rfl⟩ (Nat.le_of_ble_eq_true rfl) (gy_k1 (x := .int (gI q49)) (kc2 := 0) (ks2 := 0) ⟨rfl, rfl⟩ ?_) gy_kn
  refine gy_iconst dX12_derives_215 ?_
  refine gy_isub dX12_derives_216 ?_
  refine gx_nE e (fun t50 ht50 e => ?_)
  rw [ht50]
  refine gx_istore (ls2 := [(6, .int (gI t50)), (1, .int (gI t47)), (0, .ref v0), (2, .int (gI v2)), (5, .int (gI v5))]) dX12_derives_217 (Nat.le_of_ble_eq_true rfl) rfl ?_
  refine gx_sub (ls2 := [(0, .ref v0), (1, .int (gI t47)), (2, .int (gI v2)), (5, .int (gI v5)), (6, .int (gI t50))]) [2, 1, 3, 4, 0] rfl ?_
  exact zl_X12_derives_219 hr31 n _ _ _ _ _ _ e
set_option maxRecDepth 100000 in
def b_X12_derives_194 (n : Nat) (r31 : Nat → Int → Int → gi_H → Option (Int × gi_H)) (v0 : Nat) (v1 : Int) (v2 : Int) (v3 : Int) (v5 : Int) (s0 : Nat) (s1 : Int) (s2 : Int) (h : gi_H) : Option (Int × gi_H) :=
  Option.bind (gi_s1 h s0 s1 s2) fun h44 => Option.bind (gi_rg v3) fun _ => if (16 : Int) ≤ v3 then (b_X12_derives_207 n r31 v0 v2 v5 v1 (0 : Int) h44) else (b_X12_derives_207 n r31 v0 v2 v5 v1 (1 : Int) h44)
set_option maxRecDepth 100000 in
theorem zb_X12_derives_194 {al : Bool} {n : Nat} {r31 : Nat → Int → Int → gi_H → Option (Int × gi_H)} {res : Int} {h1 : gi_H} (hr31 : ∀ (x0 : Nat) (x1 : Int) (x2 : Int) (hh : gi_H), r31 x0 x1 x2 hh = some (res, h1) → gx_Z mX12_derives al al 0 0 31 [(0, .ref x0), (1, .int (gI x1)), (2, .int (gI x2))] [] (gi_cv hh) (.inl (some (.int (gI res)))) (gi_cv h1)) {v0 : Nat} {v1 : Int} {v2 : Int} {v3 : Int} {v5 : Int} {s0 : Nat} {s1 : Int} {s2 : Int} {h : gi_H} (e : b_X12_derives_194 n r31 v0 v1 v2 v3 v5 s0 s1 s2 h = some (res, h1)) : gx_Z mX12_derives al al 0 0 194 [(0, .ref v0), (1, .int (gI v1)), (2, .int (gI v2)), (3, .int (gI v3)), (5, .int (gI v5))] [.int (gI s2), .int (gI s1), .ref s0] (gi_cv h) (.inl (some (.int (gI res)))) (gi_cv h1) := by
  refine gx_bE e (fun h44 hh44 e => ?_)
  refine gy_t1 hh44 dX12_derives_194 ?_
  refine gx_iload_n dX12_derives_195 rfl 1 rfl ?_
  refine gx_iload_n dX12_derives_196 rfl 3 rfl ?_
  refine gy_bipush dX12_derives_197 gcb_16 ?_
  refine gx_bE e (fun _ g45 e => ?_)
  refine gx_iE e (fun c46 e => ?_) (fun c46 e => ?_)
  · refine gy_icmp_ge (tgt := 206) (gi_rgS g45) (by decide) dX12_derives_199 (by decide) (fun _ => ?_) (fun z => absurd c46 z)
    refine gy_iconst dX12_derives_206 ?_
    refine gx_sub (ls2 := [(0, .ref v0), (2, .int (gI v2)), (5, .int (gI v5))]) [0, 2, 4] rfl ?_
    exact zb_X12_derives_207 hr31 e
  · refine gy_icmp_ge (tgt := 206) (gi_rgS g45) (by decide) dX12_derives_199 (by decide) (fun z => absurd z c46) (fun _ => ?_)
    refine gy_iconst dX12_derives_202 ?_
    refine gx_goto (tgt := 207) dX12_derives_203 (by decide) ?_
    refine gx_sub (ls2 := [(0, .ref v0), (2, .int (gI v2)), (5, .int (gI v5))]) [0, 2, 4] rfl ?_
    exact zb_X12_derives_207 hr31 e
set_option maxRecDepth 100000 in
def b_X12_derives_157 (n : Nat) (r31 : Nat → Int → Int → gi_H → Option (Int × gi_H)) (v0 : Nat) (v1 : Int) (v2 : Int) (v3 : Int) (v5 : Int)  (h : gi_H) : Option (Int × gi_H) :=
  Option.bind (gi_rg v2) fun _ => if (300 : Int) ≤ v2 then (b_X12_derives_257 n r31 v0 v1 v2 h) else (Option.bind (gi_gI h v0 10 38) fun t39 => Option.bind (gi_pI h v0 10 38 (t39 - (1 : Int))) fun h40 => Option.bind (gi_gR h40 v0 10 40) fun t41 => Option.bind (gi_rg v3) fun _ => if (16 : Int) ≤ v3 then (b_X12_derives_194 n r31 v0 v1 v2 v3 v5 t41 v2 v5 h40) else (b_X12_derives_194 n r31 v0 v1 v2 v3 v5 t41 v2 (-(v3 + (1 : Int))) h40))
set_option maxRecDepth 100000 in
theorem zb_X12_derives_157 {al : Bool} {n : Nat} {r31 : Nat → Int → Int → gi_H → Option (Int × gi_H)} {res : Int} {h1 : gi_H} (hr31 : ∀ (x0 : Nat) (x1 : Int) (x2 : Int) (hh : gi_H), r31 x0 x1 x2 hh = some (res, h1) → gx_Z mX12_derives al al 0 0 31 [(0, .ref x0), (1, .int (gI x1)), (2, .int (gI x2))] [] (gi_cv hh) (.inl (some (.int (gI res)))) (gi_cv h1)) {v0 : Nat} {v1 : Int} {v2 : Int} {v3 : Int} {v5 : Int}  {h : gi_H} (e : b_X12_derives_157 n r31 v0 v1 v2 v3 v5 h = some (res, h1)) : gx_Z mX12_derives al al 0 0 157 [(0, .ref v0), (1, .int (gI v1)), (2, .int (gI v2)), (3, .int (gI v3)), (5, .int (gI v5))] [] (gi_cv h) (.inl (some (.int (gI res)))) (gi_cv h1) := by
  refine gx_iload_n dX12_derives_157 rfl 2 rfl ?_
  refine gy_sipush dX12_derives_158 gcs_300 ?_
  refine gx_bE e (fun _ g36 e => ?_)
  refine gx_iE e (fun c37 e => ?_) (fun c37 e => ?_)
  · refine gy_icmp_ge (tgt := 257) (gi_rgS g36) (by decide) dX12_derives_161 (by decide) (fun _ => ?_) (fun z => absurd c37 z)
    refine gx_sub (ls2 := [(0, .ref v0), (1, .int (gI v1)), (2, .int (gI v2))]) [0, 1, 2] rfl ?_
    exact zb_X12_derives_257 hr31 e
  · refine gy_icmp_ge (tgt := 257) (gi_rgS g36) (by decide) dX12_derives_161 (by decide) (fun z => absurd z c37) (fun _ => ?_)
    refine gx_aload_n dX12_derives_164 rfl 0 rfl ?_
    refine gx_dup dX12_derives_165 rfl ?_
    refine gx_bE e (fun t39 ht39 e => ?_)
    refine gy_fI ht39 dX12_derives_166 gf_RX12_302_10_38 (by decide) gkN_10_38 gkR_10_38 ?_
    refine gy_iconst dX12_derives_169 ?_
    refine gy_isub dX12_derives_170 ?_
    refine gx_bE e (fun h40 hh40 e => ?_)
    refine gy_qI hh40 dX12_derives_171 gf_RX12_302_10_38 (by decide) gkN_10_38 rfl (Or.inl rfl) ?_
    refine gx_aload_n dX12_derives_174 rfl 0 rfl ?_
    refine gx_bE e (fun t41 ht41 e => ?_)
    refine gy_fR ht41 dX12_derives_175 gf_RX12_92_10_40 (by decide) gkN_10_40 gkR_10_40 ?_
    refine gx_iload_n dX12_derives_178 rfl 2 rfl ?_
    refine gx_iload_n dX12_derives_179 rfl 3 rfl ?_
    refine gy_bipush dX12_derives_180 gcb_16 ?_
    refine gx_bE e (fun _ g42 e => ?_)
    refine gx_iE e (fun c43 e => ?_) (fun c43 e => ?_)
    · refine gy_icmp_ge (tgt := 192) (gi_rgS g42) (by decide) dX12_derives_182 (by decide) (fun _ => ?_) (fun z => absurd c43 z)
      refine gx_iload dX12_derives_192 4 rfl ?_
      exact zb_X12_derives_194 hr31 e
    · refine gy_icmp_ge (tgt := 192) (gi_rgS g42) (by decide) dX12_derives_182 (by decide) (fun z => absurd z c43) (fun _ => ?_)
      refine gx_iload_n dX12_derives_185 rfl 3 rfl ?_
      refine gy_iconst dX12_derives_186 ?_
      refine gy_iadd dX12_derives_187 ?_
      refine gy_ineg dX12_derives_188 ?_
      refine gx_goto (tgt := 194) dX12_derives_189 (by decide) ?_
      exact zb_X12_derives_194 hr31 e
set_option maxRecDepth 100000 in
def b_X12_derives_143 (n : Nat) (r31 : Nat → Int → Int → gi_H → Option (Int × gi_H)) (v0 : Nat) (v1 : Int) (v2 : Int) (v3 : Int) (v5 : Int)  (h : gi_H) : Option (Int × gi_H) :=
  Option.bind (gi_rg v3) fun _ => if v3 < (16 : Int) then (b_X12_derives_157 n r31 v0 v1 v2 v3 v5 h) else (Option.bind (gi_rg v5) fun _ => if v5 = (-1 : Int) then (some (v1, h)) else (b_X12_derives_157 n r31 v0 v1 v2 v3 v5 h))
set_option maxRecDepth 100000 in
theorem zb_X12_derives_143 {al : Bool} {n : Nat} {r31 : Nat → Int → Int → gi_H → Option (Int × gi_H)} {res : Int} {h1 : gi_H} (hr31 : ∀ (x0 : Nat) (x1 : Int) (x2 : Int) (hh : gi_H), r31 x0 x1 x2 hh = some (res, h1) → gx_Z mX12_derives al al 0 0 31 [(0, .ref x0), (1, .int (gI x1)), (2, .int (gI x2))] [] (gi_cv hh) (.inl (some (.int (gI res)))) (gi_cv h1)) {v0 : Nat} {v1 : Int} {v2 : Int} {v3 : Int} {v5 : Int}  {h : gi_H} (e : b_X12_derives_143 n r31 v0 v1 v2 v3 v5 h = some (res, h1)) : gx_Z mX12_derives al al 0 0 143 [(0, .ref v0), (1, .int (gI v1)), (2, .int (gI v2)), (3, .int (gI v3)), (5, .int (gI v5))] [] (gi_cv h) (.inl (some (.int (gI res)))) (gi_cv h1) := by
  refine gx_iload_n dX12_derives_143 rfl 3 rfl ?_
  refine gy_bipush dX12_derives_144 gcb_16 ?_
  refine gx_bE e (fun _ g34 e => ?_)
  refine gx_iE e (fun c35 e => ?_) (fun c35 e => ?_)
  · refine gy_icmp_lt (tgt := 157) (gi_rgS g34) (by decide) dX12_derives_146 (by decide) (fun _ => ?_) (fun z => absurd c35 z)
    exact zb_X12_derives_157 hr31 e
  · refine gy_icmp_lt (tgt := 157) (gi_rgS g34) (by decide) dX12_derives_146 (by decide) (fun z => absurd z c35) (fun _ => ?_)
    refine gx_iload dX12_derives_149 4 rfl ?_
    refine gy_iconst dX12_derives_151 ?_
    refine gx_bE e (fun _ g61 e => ?_)
    refine gx_iE e (fun c62 e => ?_) (fun c62 e => ?_)
    · refine gy_icmp_ne (tgt := 157) (gi_rgS g61) (by decide) dX12_derives_152 (by decide) (fun z => absurd c62 z) (fun _ => ?_)
      refine gx_iload_n dX12_derives_155 rfl 1 rfl ?_
      cases e
      exact gx_iret dX12_derives_156 rfl ⟨Nat.le_of_ble_eq_true rfl, Nat.le_of_ble_eq_true rfl⟩ (fun z => z)
    · refine gy_icmp_ne (tgt := 157) (gi_rgS g61) (by decide) dX12_derives_152 (by decide) (fun _ => ?_) (fun z => absurd z c62)
      exact zb_X12_derives_157 hr31 e
set_option maxRecDepth 100000 in
def b_X12_derives_129 (n : Nat) (r31 : Nat → Int → Int → gi_H → Option (Int × gi_H)) (v0 : Nat) (v1 : Int) (v2 : Int) (v3 : Int) (v4 : Int) (s0 : Int) (h : gi_H) : Option (Int × gi_H) :=
  Option.bind (gi_rg v3) fun _ => if (16 : Int) ≤ v3 then (b_X12_derives_143 n r31 v0 v1 v2 v3 s0 h) else (Option.bind (gi_rg v4) fun _ => if v3 = v4 then (b_X12_derives_143 n r31 v0 v1 v2 v3 s0 h) else (some (v1, h)))
set_option maxRecDepth 100000 in
theorem zb_X12_derives_129 {al : Bool} {n : Nat} {r31 : Nat → Int → Int → gi_H → Option (Int × gi_H)} {res : Int} {h1 : gi_H} (hr31 : ∀ (x0 : Nat) (x1 : Int) (x2 : Int) (hh : gi_H), r31 x0 x1 x2 hh = some (res, h1) → gx_Z mX12_derives al al 0 0 31 [(0, .ref x0), (1, .int (gI x1)), (2, .int (gI x2))] [] (gi_cv hh) (.inl (some (.int (gI res)))) (gi_cv h1)) {v0 : Nat} {v1 : Int} {v2 : Int} {v3 : Int} {v4 : Int} {s0 : Int} {h : gi_H} (e : b_X12_derives_129 n r31 v0 v1 v2 v3 v4 s0 h = some (res, h1)) : gx_Z mX12_derives al al 0 0 129 [(0, .ref v0), (1, .int (gI v1)), (2, .int (gI v2)), (3, .int (gI v3)), (4, .int (gI v4))] [.int (gI s0)] (gi_cv h) (.inl (some (.int (gI res)))) (gi_cv h1) := by
  refine gx_istore (ls2 := [(5, .int (gI s0)), (0, .ref v0), (1, .int (gI v1)), (2, .int (gI v2)), (3, .int (gI v3)), (4, .int (gI v4))]) dX12_derives_129 (Nat.le_of_ble_eq_true rfl) rfl ?_
  refine gx_iload_n dX12_derives_131 rfl 4 rfl ?_
  refine gy_bipush dX12_derives_132 gcb_16 ?_
  refine gx_bE e (fun _ g32 e => ?_)
  refine gx_iE e (fun c33 e => ?_) (fun c33 e => ?_)
  · refine gy_icmp_ge (tgt := 143) (gi_rgS g32) (by decide) dX12_derives_134 (by decide) (fun _ => ?_) (fun z => absurd c33 z)
    refine gx_sub (ls2 := [(0, .ref v0), (1, .int (gI v1)), (2, .int (gI v2)), (3, .int (gI v3)), (5, .int (gI s0))]) [1, 2, 3, 4, 0] rfl ?_
    exact zb_X12_derives_143 hr31 e
  · refine gy_icmp_ge (tgt := 143) (gi_rgS g32) (by decide) dX12_derives_134 (by decide) (fun z => absurd z c33) (fun _ => ?_)
    refine gx_iload_n dX12_derives_137 rfl 4 rfl ?_
    refine gx_iload dX12_derives_138 5 rfl ?_
    refine gx_bE e (fun _ g63 e => ?_)
    refine gx_iE e (fun c64 e => ?_) (fun c64 e => ?_)
    · refine gy_icmp_ne (tgt := 155) (gi_rgS g32) (gi_rgS g63) dX12_derives_140 (by decide) (fun z => absurd c64 z) (fun _ => ?_)
      refine gx_sub (ls2 := [(0, .ref v0), (1, .int (gI v1)), (2, .int (gI v2)), (3, .int (gI v3)), (5, .int (gI s0))]) [1, 2, 3, 4, 0] rfl ?_
      exact zb_X12_derives_143 hr31 e
    · refine gy_icmp_ne (tgt := 155) (gi_rgS g32) (gi_rgS g63) dX12_derives_140 (by decide) (fun _ => ?_) (fun z => absurd z c64)
      refine gx_iload_n dX12_derives_155 rfl 2 rfl ?_
      cases e
      exact gx_iret dX12_derives_156 rfl ⟨Nat.le_of_ble_eq_true rfl, Nat.le_of_ble_eq_true rfl⟩ (fun z => z)
set_option maxRecDepth 100000 in
def b_X12_derives_102 (n : Nat) (r31 : Nat → Int → Int → gi_H → Option (Int × gi_H)) (v0 : Nat) (v1 : Int) (v2 : Int) (v3 : Int) (s0 : Int) (h : gi_H) : Option (Int × gi_H) :=
  Option.bind (gi_rg v3) fun _ => if (16 : Int) ≤ v3 then (Option.bind (gi_is h v0 10) fun _ => Option.bind (f_X12_predicted n v0 (v3 - (16 : Int)) s0 h) fun q30 => Option.bind (gi_dg q30 (100 : Int)) fun _ => b_X12_derives_129 n r31 v0 v1 v2 v3 s0 ((q30 % (100 : Int)) - (1 : Int)) h) else (b_X12_derives_129 n r31 v0 v1 v2 v3 s0 (-1 : Int) h)
set_option maxRecDepth 100000 in
theorem zb_X12_derives_102 {al : Bool} {n : Nat} {r31 : Nat → Int → Int → gi_H → Option (Int × gi_H)} {res : Int} {h1 : gi_H} (hr31 : ∀ (x0 : Nat) (x1 : Int) (x2 : Int) (hh : gi_H), r31 x0 x1 x2 hh = some (res, h1) → gx_Z mX12_derives al al 0 0 31 [(0, .ref x0), (1, .int (gI x1)), (2, .int (gI x2))] [] (gi_cv hh) (.inl (some (.int (gI res)))) (gi_cv h1)) {v0 : Nat} {v1 : Int} {v2 : Int} {v3 : Int} {s0 : Int} {h : gi_H} (e : b_X12_derives_102 n r31 v0 v1 v2 v3 s0 h = some (res, h1)) : gx_Z mX12_derives al al 0 0 102 [(0, .ref v0), (1, .int (gI v1)), (2, .int (gI v2)), (3, .int (gI v3))] [.int (gI s0)] (gi_cv h) (.inl (some (.int (gI res)))) (gi_cv h1) := by
  refine gx_istore (ls2 := [(4, .int (gI s0)), (0, .ref v0), (1, .int (gI v1)), (2, .int (gI v2)), (3, .int (gI v3))]) dX12_derives_102 (Nat.le_of_ble_eq_true rfl) rfl ?_
  refine gx_iload_n dX12_derives_104 rfl 4 rfl ?_
  refine gy_bipush dX12_derives_105 gcb_16 ?_
  refine gx_bE e (fun _ g27 e => ?_)
  refine gx_iE e (fun c28 e => ?_) (fun c28 e => ?_)
  · refine gy_icmp_ge (tgt := 114) (gi_rgS g27) (by decide) dX12_derives_107 (by decide) (fun _ => ?_) (fun z => absurd c28 z)
    refine gx_aload_n dX12_derives_114 rfl 1 rfl ?_
    refine gx_iload_n dX12_derives_115 rfl 4 rfl ?_
    refine gy_bipush dX12_derives_116 gcb_16 ?_
    refine gy_isub dX12_derives_118 ?_
    refine gx_iload dX12_derives_119 0 rfl ?_
    refine gx_bE e (fun _ hu29 e => ?_)
    refine gx_bE e (fun q30 hq30 e => ?_)
    refine gx_callV (n := 2) (st := []) (As := [.int (gI (v3 - (16 : Int))), .int (gI s0)]) (b := v0) dX12_derives_121 (z_X12_predicted hq30) rfl ⟨rfl, gw_cw_X12_predicted, gw_14, gp_X12_predicted, ⟨Nat.le_of_ble_eq_true rfl, Nat.le_of_ble_eq_true rfl⟩⟩ (gi_isS hu29) (by decide) gw_1699 gw_1701 gs_91 rfl ⟨Nat.le_of_ble_eq_true rfl, Nat.le_of_ble_eq_true rfl⟩ (Nat.le_of_ble_eq_true rfl) (gy_k1 (x := .int (gI q30)) (kc2 := 0) (ks2 := 0) ⟨rfl, rfl⟩ ?_) gy_kn
    refine gy_bipush dX12_derives_124 gcb_100 ?_
    refine gx_bE e (fun _ hu31 e => ?_)
    refine gy_irem hu31 dX12_derives_126 ?_
    refine gy_iconst dX12_derives_127 ?_
    refine gy_isub dX12_derives_128 ?_
    refine gx_sub (ls2 := [(0, .ref v0), (1, .int (gI v1)), (2, .int (gI v2)), (3, .int (gI v3)), (4, .int (gI s0))]) [1, 2, 3, 4, 0] rfl ?_
    exact zb_X12_derives_129 hr31 e
  · refine gy_icmp_ge (tgt := 114) (gi_rgS g27) (by decide) dX12_derives_107 (by decide) (fun z => absurd z c28) (fun _ => ?_)
    refine gy_iconst dX12_derives_110 ?_
    refine gx_goto (tgt := 129) dX12_derives_111 (by decide) ?_
    refine gx_sub (ls2 := [(0, .ref v0), (1, .int (gI v1)), (2, .int (gI v2)), (3, .int (gI v3)), (4, .int (gI s0))]) [1, 2, 3, 4, 0] rfl ?_
    exact zb_X12_derives_129 hr31 e
set_option maxRecDepth 100000 in
def b_X12_derives_82 (n : Nat) (r31 : Nat → Int → Int → gi_H → Option (Int × gi_H)) (v0 : Nat) (v1 : Int) (v2 : Int) (s0 : Int) (h : gi_H) : Option (Int × gi_H) :=
  Option.bind (gi_gI h v0 10 17) fun t23 => Option.bind (gi_rg v1) fun _ => Option.bind (gi_rg t23) fun _ => if t23 ≤ v1 then (b_X12_derives_102 n r31 v0 v1 v2 s0 (8 : Int) h) else (Option.bind (gi_gR h v0 10 16) fun t65 => Option.bind (gi_aI h 1 t65 v1) fun t66 => b_X12_derives_102 n r31 v0 v1 v2 s0 t66 h)
set_option maxRecDepth 100000 in
theorem zb_X12_derives_82 {al : Bool} {n : Nat} {r31 : Nat → Int → Int → gi_H → Option (Int × gi_H)} {res : Int} {h1 : gi_H} (hr31 : ∀ (x0 : Nat) (x1 : Int) (x2 : Int) (hh : gi_H), r31 x0 x1 x2 hh = some (res, h1) → gx_Z mX12_derives al al 0 0 31 [(0, .ref x0), (1, .int (gI x1)), (2, .int (gI x2))] [] (gi_cv hh) (.inl (some (.int (gI res)))) (gi_cv h1)) {v0 : Nat} {v1 : Int} {v2 : Int} {s0 : Int} {h : gi_H} (e : b_X12_derives_82 n r31 v0 v1 v2 s0 h = some (res, h1)) : gx_Z mX12_derives al al 0 0 82 [(0, .ref v0), (1, .int (gI v1)), (2, .int (gI v2))] [.int (gI s0)] (gi_cv h) (.inl (some (.int (gI res)))) (gi_cv h1) := by
  refine gx_istore_n (ls2 := [(3, .int (gI s0)), (0, .ref v0), (1, .int (gI v1)), (2, .int (gI v2))]) dX12_derives_82 rfl (Nat.le_of_ble_eq_true rfl) rfl ?_
  refine gx_iload_n dX12_derives_83 rfl 2 rfl ?_
  refine gx_aload_n dX12_derives_84 rfl 1 rfl ?_
  refine gx_bE e (fun t23 ht23 e => ?_)
  refine gy_fI ht23 dX12_derives_85 gf_RX12_299_10_17 (by decide) gkN_10_17 gkR_10_17 ?_
  refine gx_bE e (fun _ g24 e => ?_)
  refine gx_bE e (fun _ g25 e => ?_)
  refine gx_iE e (fun c26 e => ?_) (fun c26 e => ?_)
  · refine gy_icmp_ge (tgt := 100) (gi_rgS g24) (gi_rgS g25) dX12_derives_88 (by decide) (fun _ => ?_) (fun z => absurd c26 z)
    refine gy_bipush dX12_derives_100 gcb_8 ?_
    refine gx_sub (ls2 := [(0, .ref v0), (1, .int (gI v1)), (2, .int (gI v2)), (3, .int (gI s0))]) [1, 2, 3, 0] rfl ?_
    exact zb_X12_derives_102 hr31 e
  · refine gy_icmp_ge (tgt := 100) (gi_rgS g24) (gi_rgS g25) dX12_derives_88 (by decide) (fun z => absurd z c26) (fun _ => ?_)
    refine gx_aload_n dX12_derives_91 rfl 1 rfl ?_
    refine gx_bE e (fun t65 ht65 e => ?_)
    refine gy_fR ht65 dX12_derives_92 gf_RX12_49_10_16 (by decide) gkN_10_16 gkR_10_16 ?_
    refine gx_iload_n dX12_derives_95 rfl 2 rfl ?_
    refine gx_bE e (fun t66 ht66 e => ?_)
    refine gy_l1 ht66 dX12_derives_96 ?_
    refine gx_goto (tgt := 102) dX12_derives_97 (by decide) ?_
    refine gx_sub (ls2 := [(0, .ref v0), (1, .int (gI v1)), (2, .int (gI v2)), (3, .int (gI s0))]) [1, 2, 3, 0] rfl ?_
    exact zb_X12_derives_102 hr31 e
set_option maxRecDepth 100000 in
def b_X12_derives_60 (n : Nat) (r31 : Nat → Int → Int → gi_H → Option (Int × gi_H)) (v0 : Nat) (v1 : Int) (v2 : Int)  (h : gi_H) : Option (Int × gi_H) :=
  Option.bind (gi_gI h v0 10 38) fun t20 => Option.bind (gi_rg t20) fun _ => if t20 = 0 then (b_X12_derives_82 n r31 v0 v1 v2 (-1 : Int) h) else (Option.bind (gi_gR h v0 10 36) fun t67 => Option.bind (gi_gI h v0 10 38) fun t68 => Option.bind (gi_aI h 1 t67 (t68 - (1 : Int))) fun t69 => b_X12_derives_82 n r31 v0 v1 v2 t69 h)
set_option maxRecDepth 100000 in
theorem zb_X12_derives_60 {al : Bool} {n : Nat} {r31 : Nat → Int → Int → gi_H → Option (Int × gi_H)} {res : Int} {h1 : gi_H} (hr31 : ∀ (x0 : Nat) (x1 : Int) (x2 : Int) (hh : gi_H), r31 x0 x1 x2 hh = some (res, h1) → gx_Z mX12_derives al al 0 0 31 [(0, .ref x0), (1, .int (gI x1)), (2, .int (gI x2))] [] (gi_cv hh) (.inl (some (.int (gI res)))) (gi_cv h1)) {v0 : Nat} {v1 : Int} {v2 : Int}  {h : gi_H} (e : b_X12_derives_60 n r31 v0 v1 v2 h = some (res, h1)) : gx_Z mX12_derives al al 0 0 60 [(0, .ref v0), (1, .int (gI v1)), (2, .int (gI v2))] [] (gi_cv h) (.inl (some (.int (gI res)))) (gi_cv h1) := by
  refine gx_aload_n dX12_derives_60 rfl 0 rfl ?_
  refine gx_bE e (fun t20 ht20 e => ?_)
  refine gy_fI ht20 dX12_derives_61 gf_RX12_302_10_38 (by decide) gkN_10_38 gkR_10_38 ?_
  refine gx_bE e (fun _ g21 e => ?_)
  refine gx_iE e (fun c22 e => ?_) (fun c22 e => ?_)
  · refine gy_if_ne (tgt := 71) (gi_rgS g21) dX12_derives_64 (by decide) (fun z => absurd c22 z) (fun _ => ?_)
    refine gy_iconst dX12_derives_67 ?_
    refine gx_goto (tgt := 82) dX12_derives_68 (by decide) ?_
    exact zb_X12_derives_82 hr31 e
  · refine gy_if_ne (tgt := 71) (gi_rgS g21) dX12_derives_64 (by decide) (fun _ => ?_) (fun z => absurd z c22)
    refine gx_aload_n dX12_derives_71 rfl 0 rfl ?_
    refine gx_bE e (fun t67 ht67 e => ?_)
    refine gy_fR ht67 dX12_derives_72 gf_RX12_86_10_36 (by decide) gkN_10_36 gkR_10_36 ?_
    refine gx_aload_n dX12_derives_75 rfl 0 rfl ?_
    refine gx_bE e (fun t68 ht68 e => ?_)
    refine gy_fI ht68 dX12_derives_76 gf_RX12_302_10_38 (by decide) gkN_10_38 gkR_10_38 ?_
    refine gy_iconst dX12_derives_79 ?_
    refine gy_isub dX12_derives_80 ?_
    refine gx_bE e (fun t69 ht69 e => ?_)
    refine gy_l1 ht69 dX12_derives_81 ?_
    exact zb_X12_derives_82 hr31 e
set_option maxRecDepth 100000 in
def b_X12_derives_31 (n : Nat) (r31 : Nat → Int → Int → gi_H → Option (Int × gi_H)) (v0 : Nat) (v1 : Int) (v2 : Int)  (h : gi_H) : Option (Int × gi_H) :=
  Option.bind (gi_rg v2) fun _ => if (300 : Int) < v2 then (some ((-3 : Int), h)) else (Option.bind (gi_gI h v0 10 38) fun t11 => Option.bind (gi_rg t11) fun _ => if t11 = 0 then (Option.bind (gi_gI h v0 10 17) fun t14 => Option.bind (gi_rg v1) fun _ => Option.bind (gi_rg t14) fun _ => if v1 = t14 then (b_X12_derives_53 n  v0 v2 h) else (b_X12_derives_60 n r31 v0 v1 v2 h)) else (b_X12_derives_60 n r31 v0 v1 v2 h))
set_option maxRecDepth 100000 in
theorem zb_X12_derives_31 {al : Bool} {n : Nat} {r31 : Nat → Int → Int → gi_H → Option (Int × gi_H)} {res : Int} {h1 : gi_H} (hr31 : ∀ (x0 : Nat) (x1 : Int) (x2 : Int) (hh : gi_H), r31 x0 x1 x2 hh = some (res, h1) → gx_Z mX12_derives al al 0 0 31 [(0, .ref x0), (1, .int (gI x1)), (2, .int (gI x2))] [] (gi_cv hh) (.inl (some (.int (gI res)))) (gi_cv h1)) {v0 : Nat} {v1 : Int} {v2 : Int}  {h : gi_H} (e : b_X12_derives_31 n r31 v0 v1 v2 h = some (res, h1)) : gx_Z mX12_derives al al 0 0 31 [(0, .ref v0), (1, .int (gI v1)), (2, .int (gI v2))] [] (gi_cv h) (.inl (some (.int (gI res)))) (gi_cv h1) := by
  refine gx_iload_n dX12_derives_31 rfl 2 rfl ?_
  refine gy_sipush dX12_derives_32 gcs_300 ?_
  refine gx_bE e (fun _ g9 e => ?_)
  refine gx_iE e (fun c10 e => ?_) (fun c10 e => ?_)
  · refine gy_icmp_gt (tgt := 263) (gi_rgS g9) (by decide) dX12_derives_35 (by decide) (fun _ => ?_) (fun z => absurd c10 z)
    refine gy_bipush dX12_derives_263 gcb_m3 ?_
    cases e
    exact gx_iret dX12_derives_265 rfl ⟨Nat.le_of_ble_eq_true rfl, Nat.le_of_ble_eq_true rfl⟩ (fun z => z)
  · refine gy_icmp_gt (tgt := 263) (gi_rgS g9) (by decide) dX12_derives_35 (by decide) (fun z => absurd z c10) (fun _ => ?_)
    refine gx_aload_n dX12_derives_38 rfl 0 rfl ?_
    refine gx_bE e (fun t11 ht11 e => ?_)
    refine gy_fI ht11 dX12_derives_39 gf_RX12_302_10_38 (by decide) gkN_10_38 gkR_10_38 ?_
    refine gx_bE e (fun _ g12 e => ?_)
    refine gx_iE e (fun c13 e => ?_) (fun c13 e => ?_)
    · refine gy_if_ne (tgt := 60) (gi_rgS g12) dX12_derives_42 (by decide) (fun z => absurd c13 z) (fun _ => ?_)
      refine gx_iload_n dX12_derives_45 rfl 1 rfl ?_
      refine gx_aload_n dX12_derives_46 rfl 0 rfl ?_
      refine gx_bE e (fun t14 ht14 e => ?_)
      refine gy_fI ht14 dX12_derives_47 gf_RX12_299_10_17 (by decide) gkN_10_17 gkR_10_17 ?_
      refine gx_bE e (fun _ g15 e => ?_)
      refine gx_bE e (fun _ g16 e => ?_)
      refine gx_iE e (fun c17 e => ?_) (fun c17 e => ?_)
      · refine gy_icmp_ne (tgt := 60) (gi_rgS g15) (gi_rgS g16) dX12_derives_50 (by decide) (fun z => absurd c17 z) (fun _ => ?_)
        refine gx_sub (ls2 := [(0, .ref v0), (2, .int (gI v2))]) [0, 2] rfl ?_
        exact zb_X12_derives_53  e
      · refine gy_icmp_ne (tgt := 60) (gi_rgS g15) (gi_rgS g16) dX12_derives_50 (by decide) (fun _ => ?_) (fun z => absurd z c17)
        exact zb_X12_derives_60 hr31 e
    · refine gy_if_ne (tgt := 60) (gi_rgS g12) dX12_derives_42 (by decide) (fun _ => ?_) (fun z => absurd z c13)
      exact zb_X12_derives_60 hr31 e
def l_X12_derives_31 (n : Nat)  : Nat → Nat → Int → Int → gi_H → Option (Int × gi_H)
  | 0, _, _, _, _ => none
  | k + 1, v0, v1, v2, h => b_X12_derives_31 n  (l_X12_derives_31 n  k) v0 v1 v2 h
theorem zl_X12_derives_31 {al : Bool} {n : Nat}  {res : Int} {h1 : gi_H}  : ∀ (k : Nat) (v0 : Nat) (v1 : Int) (v2 : Int) (h : gi_H), l_X12_derives_31 n  k v0 v1 v2 h = some (res, h1) → gx_Z mX12_derives al al 0 0 31 [(0, .ref v0), (1, .int (gI v1)), (2, .int (gI v2))] [] (gi_cv h) (.inl (some (.int (gI res)))) (gi_cv h1)
  | 0, _, _, _, _, e => gx_0E e
  | k + 1, _, _, _, _, e => zb_X12_derives_31 (n := n)  (zl_X12_derives_31  k) e
set_option maxRecDepth 100000 in
def f_X12_derives (n : Nat) (v0 : Nat) (h : gi_H) : Option (Int × gi_H) :=
  Option.bind (gi_is h v0 10) fun _ => Option.bind (f_X12_finds n v0 h) fun q2 => Option.bind (gi_gR q2 v0 10 36) fun t3 => Option.bind (gi_gR q2 v0 10 8) fun t4 => Option.bind (gi_gI q2 v0 10 9) fun t5 => Option.bind (gi_aI q2 1 t4 t5) fun t6 => Option.bind (gi_s1 q2 t3 (0 : Int) ((16 : Int) + t6)) fun h7 => Option.bind (gi_pI h7 v0 10 38 (1 : Int)) fun h8 => l_X12_derives_31 n  n v0 (0 : Int) (0 : Int) h8
set_option maxRecDepth 100000 in
theorem z_X12_derives {al : Bool} {n : Nat} {v0 : Nat} {h : gi_H} {res : Int} {h1 : gi_H} (e : f_X12_derives n v0 h = some (res, h1)) : gx_Cw mX12_derives al [.ref v0] (gi_cv h) (.inl (some (.int (gI res)))) (gi_cv h1) := by
  refine gx_enter (by decide +kernel) rfl (Nat.le_of_ble_eq_true rfl) ?_
  show gx_Z mX12_derives al al 0 0 0 [(0, .ref v0)] [] (gi_cv h) (.inl (some (.int (gI res)))) (gi_cv h1)
  refine gx_aload_n dX12_derives_0 rfl 0 rfl ?_
  refine gx_bE e (fun _ hu1 e => ?_)
  refine gx_bE e (fun q2 hq2 e => ?_)
  refine gx_callV (n := 0) (st := []) (As := []) (b := v0) dX12_derives_1 (z_X12_finds hq2) rfl ⟨rfl, gw_cw_X12_finds, gw_14, gp_X12_finds, ⟨Nat.le_of_ble_eq_true rfl, Nat.le_of_ble_eq_true rfl⟩⟩ (gi_isS hu1) (by decide) gw_1587 gw_1589 gs_72 rfl ⟨Nat.le_of_ble_eq_true rfl, Nat.le_of_ble_eq_true rfl⟩ (Nat.le_of_ble_eq_true rfl) (gy_k0 (kc2 := 0) (ks2 := 0) ⟨rfl, rfl⟩ ?_) gy_kn
  refine gx_aload_n dX12_derives_4 rfl 0 rfl ?_
  refine gx_bE e (fun t3 ht3 e => ?_)
  refine gy_fR ht3 dX12_derives_5 gf_RX12_86_10_36 (by decide) gkN_10_36 gkR_10_36 ?_
  refine gy_iconst dX12_derives_8 ?_
  refine gy_bipush dX12_derives_9 gcb_16 ?_
  refine gx_aload_n dX12_derives_11 rfl 0 rfl ?_
  refine gx_bE e (fun t4 ht4 e => ?_)
  refine gy_fR ht4 dX12_derives_12 gf_RX12_34_10_8 (by decide) gkN_10_8 gkR_10_8 ?_
  refine gx_aload_n dX12_derives_15 rfl 0 rfl ?_
  refine gx_bE e (fun t5 ht5 e => ?_)
  refine gy_fI ht5 dX12_derives_16 gf_RX12_139_10_9 (by decide) gkN_10_9 gkR_10_9 ?_
  refine gx_bE e (fun t6 ht6 e => ?_)
  refine gy_l1 ht6 dX12_derives_19 ?_
  refine gy_iadd dX12_derives_20 ?_
  refine gx_bE e (fun h7 hh7 e => ?_)
  refine gy_t1 hh7 dX12_derives_21 ?_
  refine gx_aload_n dX12_derives_22 rfl 0 rfl ?_
  refine gy_iconst dX12_derives_23 ?_
  refine gx_bE e (fun h8 hh8 e => ?_)
  refine gy_qI hh8 dX12_derives_24 gf_RX12_302_10_38 (by decide) gkN_10_38 rfl (Or.inl rfl) ?_
  refine gy_iconst dX12_derives_27 ?_
  refine gx_istore_n (ls2 := [(1, .int (gI (0 : Int))), (0, .ref v0)]) dX12_derives_28 rfl (Nat.le_of_ble_eq_true rfl) rfl ?_
  refine gy_iconst dX12_derives_29 ?_
  refine gx_istore_n (ls2 := [(2, .int (gI (0 : Int))), (1, .int (gI (0 : Int))), (0, .ref v0)]) dX12_derives_30 rfl (Nat.le_of_ble_eq_true rfl) rfl ?_
  refine gx_sub (ls2 := [(0, .ref v0), (1, .int (gI (0 : Int))), (2, .int (gI (0 : Int)))]) [2, 1, 0] rfl ?_
  exact zl_X12_derives_31  n _ _ _ _ e
/-! X12_reduced  -/
set_option maxRecDepth 100000 in
def b_X12_reduced_52 (n : Nat)  (v0 : Nat) (v1 : Int) (v2 : Int) (v3 : Int) (v4 : Int)  (h : gi_H) : Option (gi_H) :=
  Option.bind (gi_gI h v0 10 38) fun t7 => Option.bind (gi_pI h v0 10 38 (t7 - v4)) fun h8 => Option.bind (gi_gR h8 v0 10 36) fun t9 => Option.bind (gi_gI h8 v0 10 38) fun t10 => Option.bind (gi_aI h8 1 t9 t10) fun t11 => Option.bind (gi_is h8 v0 10) fun _ => Option.bind (f_X12_lead v0 v2 h8) fun q13 => Option.bind (gi_is h8 v0 10) fun _ => Option.bind (f_X12_goTo v0 v1 t11 ((8 : Int) + q13) h8) fun q15 => Option.bind (gi_gI h8 v0 10 38) fun t16 => Option.bind (gi_pI h8 v0 10 38 (t16 + (1 : Int))) fun h17 => Option.bind (gi_gR h17 v0 10 36) fun t18 => Option.bind (gi_gI h17 v0 10 38) fun t19 => Option.bind (gi_s1 h17 t18 t19 q15) fun h20 => Option.bind (gi_gR h20 v0 10 37) fun t21 => Option.bind (gi_gI h20 v0 10 38) fun t22 => Option.bind (gi_dg v3 (1009 : Int)) fun _ => Option.bind (gi_s1 h20 t21 t22 (v3 % (1009 : Int))) fun h24 => some h24
set_option maxRecDepth 100000 in
theorem zb_X12_reduced_52 {al : Bool} {n : Nat}  {h1 : gi_H}  {v0 : Nat} {v1 : Int} {v2 : Int} {v3 : Int} {v4 : Int}  {h : gi_H} (e : b_X12_reduced_52 n v0 v1 v2 v3 v4 h = some h1) : gx_Z mX12_reduced al al 0 0 52 [(0, .ref v0), (1, .int (gI v1)), (2, .int (gI v2)), (3, .int (gI v3)), (4, .int (gI v4))] [] (gi_cv h) (.inl none) (gi_cv h1) := by
  refine gx_aload_n dX12_reduced_52 rfl 0 rfl ?_
  refine gx_dup dX12_reduced_53 rfl ?_
  refine gx_bE e (fun t7 ht7 e => ?_)
  refine gy_fI ht7 dX12_reduced_54 gf_RX12_302_10_38 (by decide) gkN_10_38 gkR_10_38 ?_
  refine gx_iload dX12_reduced_57 4 rfl ?_
  refine gy_isub dX12_reduced_59 ?_
  refine gx_bE e (fun h8 hh8 e => ?_)
  refine gy_qI hh8 dX12_reduced_60 gf_RX12_302_10_38 (by decide) gkN_10_38 rfl (Or.inl rfl) ?_
  refine gx_aload_n dX12_reduced_63 rfl 0 rfl ?_
  refine gx_iload_n dX12_reduced_64 rfl 1 rfl ?_
  refine gx_aload_n dX12_reduced_65 rfl 0 rfl ?_
  refine gx_bE e (fun t9 ht9 e => ?_)
  refine gy_fR ht9 dX12_reduced_66 gf_RX12_86_10_36 (by decide) gkN_10_36 gkR_10_36 ?_
  refine gx_aload_n dX12_reduced_69 rfl 0 rfl ?_
  refine gx_bE e (fun t10 ht10 e => ?_)
  refine gy_fI ht10 dX12_reduced_70 gf_RX12_302_10_38 (by decide) gkN_10_38 gkR_10_38 ?_
  refine gx_bE e (fun t11 ht11 e => ?_)
  refine gy_l1 ht11 dX12_reduced_73 ?_
  refine gy_bipush dX12_reduced_74 gcb_8 ?_
  refine gx_aload_n dX12_reduced_76 rfl 0 rfl ?_
  refine gx_iload_n dX12_reduced_77 rfl 2 rfl ?_
  refine gx_bE e (fun _ hu12 e => ?_)
  refine gx_bE e (fun q13 hq13 e => ?_)
  refine gx_callV (n := 1) (st := [.int (gI (8 : Int)), .int (gI t11), .int (gI v1), .ref v0]) (As := [.int (gI v2)]) (b := v0) dX12_reduced_78 (z_X12_lead hq13) rfl ⟨rfl, gw_cw_X12_lead, gw_14, gp_X12_lead, ⟨Nat.le_of_ble_eq_true rfl, Nat.le_of_ble_eq_true rfl⟩⟩ (gi_isS hu12) (by decide) gw_1595 gw_1597 gs_74 rfl ⟨Nat.le_of_ble_eq_true rfl, Nat.le_of_ble_eq_true rfl⟩ (Nat.le_of_ble_eq_true rfl) (gy_k1 (x := .int (gI q13)) (kc2 := 0) (ks2 := 0) ⟨rfl, rfl⟩ ?_) gy_kn
  refine gy_iadd dX12_reduced_81 ?_
  refine gx_bE e (fun _ hu14 e => ?_)
  refine gx_bE e (fun q15 hq15 e => ?_)
  refine gx_callV (n := 3) (st := []) (As := [.int (gI v1), .int (gI t11), .int (gI ((8 : Int) + q13))]) (b := v0) dX12_reduced_82 (z_X12_goTo hq15) rfl ⟨rfl, gw_cw_X12_goTo, gw_14, gp_X12_goTo, ⟨Nat.le_of_ble_eq_true rfl, Nat.le_of_ble_eq_true rfl⟩⟩ (gi_isS hu14) (by decide) gw_1719 gw_1721 gs_95 rfl ⟨Nat.le_of_ble_eq_true rfl, Nat.le_of_ble_eq_true rfl⟩ (Nat.le_of_ble_eq_true rfl) (gy_k1 (x := .int (gI q15)) (kc2 := 0) (ks2 := 0) ⟨rfl, rfl⟩ ?_) gy_kn
  refine gx_istore (ls2 := [(5, .int (gI q15)), (0, .ref v0), (1, .int (gI v1)), (2, .int (gI v2)), (3, .int (gI v3)), (4, .int (gI v4))]) dX12_reduced_85 (Nat.le_of_ble_eq_true rfl) rfl ?_
  refine gx_aload_n dX12_reduced_87 rfl 1 rfl ?_
  refine gx_dup dX12_reduced_88 rfl ?_
  refine gx_bE e (fun t16 ht16 e => ?_)
  refine gy_fI ht16 dX12_reduced_89 gf_RX12_302_10_38 (by decide) gkN_10_38 gkR_10_38 ?_
  refine gy_iconst dX12_reduced_92 ?_
  refine gy_iadd dX12_reduced_93 ?_
  refine gx_bE e (fun h17 hh17 e => ?_)
  refine gy_qI hh17 dX12_reduced_94 gf_RX12_302_10_38 (by decide) gkN_10_38 rfl (Or.inl rfl) ?_
  refine gx_aload_n dX12_reduced_97 rfl 1 rfl ?_
  refine gx_bE e (fun t18 ht18 e => ?_)
  refine gy_fR ht18 dX12_reduced_98 gf_RX12_86_10_36 (by decide) gkN_10_36 gkR_10_36 ?_
  refine gx_aload_n dX12_reduced_101 rfl 1 rfl ?_
  refine gx_bE e (fun t19 ht19 e => ?_)
  refine gy_fI ht19 dX12_reduced_102 gf_RX12_302_10_38 (by decide) gkN_10_38 gkR_10_38 ?_
  refine gx_iload dX12_reduced_105 0 rfl ?_
  refine gx_bE e (fun h20 hh20 e => ?_)
  refine gy_t1 hh20 dX12_reduced_107 ?_
  refine gx_aload_n dX12_reduced_108 rfl 1 rfl ?_
  refine gx_bE e (fun t21 ht21 e => ?_)
  refine gy_fR ht21 dX12_reduced_109 gf_RX12_89_10_37 (by decide) gkN_10_37 gkR_10_37 ?_
  refine gx_aload_n dX12_reduced_112 rfl 1 rfl ?_
  refine gx_bE e (fun t22 ht22 e => ?_)
  refine gy_fI ht22 dX12_reduced_113 gf_RX12_302_10_38 (by decide) gkN_10_38 gkR_10_38 ?_
  refine gx_iload_n dX12_reduced_116 rfl 4 rfl ?_
  refine gy_sipush dX12_reduced_117 gcs_1009 ?_
  refine gx_bE e (fun _ hu23 e => ?_)
  refine gy_irem hu23 dX12_reduced_120 ?_
  refine gx_bE e (fun h24 hh24 e => ?_)
  refine gy_t1 hh24 dX12_reduced_121 ?_
  cases e
  exact gx_vret dX12_reduced_122 rfl ⟨Nat.le_of_ble_eq_true rfl, Nat.le_of_ble_eq_true rfl⟩ (fun z => z)
set_option maxRecDepth 100000 in
def b_X12_reduced_14 (n : Nat) (r14 : Nat → Int → Int → Int → Int → Int → gi_H → Option (gi_H)) (v0 : Nat) (v1 : Int) (v2 : Int) (v3 : Int) (v4 : Int) (v5 : Int)  (h : gi_H) : Option (gi_H) :=
  Option.bind (gi_rg v5) fun _ => Option.bind (gi_rg v4) fun _ => if v4 ≤ v5 then (b_X12_reduced_52 n  v0 v1 v2 v3 v4 h) else (Option.bind (gi_gR h v0 10 37) fun t25 => Option.bind (gi_gI h v0 10 38) fun t26 => Option.bind (gi_aI h 1 t25 (((t26 - v4) + (1 : Int)) + v5)) fun t27 => gx_nm (v3 + ((v5 + (1 : Int)) * t27)) fun t28 => gx_nm (v5 + (1 : Int)) fun t29 => r14 v0 v1 v2 t28 v4 t29 h)
set_option maxRecDepth 100000 in
theorem zb_X12_reduced_14 {al : Bool} {n : Nat} {r14 : Nat → Int → Int → Int → Int → Int → gi_H → Option (gi_H)} {h1 : gi_H} (hr14 : ∀ (x0 : Nat) (x1 : Int) (x2 : Int) (x3 : Int) (x4 : Int) (x5 : Int) (hh : gi_H), r14 x0 x1 x2 x3 x4 x5 hh = some h1 → gx_Z mX12_reduced al al 0 0 14 [(0, .ref x0), (1, .int (gI x1)), (2, .int (gI x2)), (3, .int (gI x3)), (4, .int (gI x4)), (5, .int (gI x5))] [] (gi_cv hh) (.inl none) (gi_cv h1)) {v0 : Nat} {v1 : Int} {v2 : Int} {v3 : Int} {v4 : Int} {v5 : Int}  {h : gi_H} (e : b_X12_reduced_14 n r14 v0 v1 v2 v3 v4 v5 h = some h1) : gx_Z mX12_reduced al al 0 0 14 [(0, .ref v0), (1, .int (gI v1)), (2, .int (gI v2)), (3, .int (gI v3)), (4, .int (gI v4)), (5, .int (gI v5))] [] (gi_cv h) (.inl none) (gi_cv h1) := by
  refine gx_iload dX12_reduced_14 5 rfl ?_
  refine gx_iload dX12_reduced_16 4 rfl ?_
  refine gx_bE e (fun _ g4 e => ?_)
  refine gx_bE e (fun _ g5 e => ?_)
  refine gx_iE e (fun c6 e => ?_) (fun c6 e => ?_)
  · refine gy_icmp_ge (tgt := 52) (gi_rgS g4) (gi_rgS g5) dX12_reduced_18 (by decide) (fun _ => ?_) (fun z => absurd c6 z)
    refine gx_sub (ls2 := [(0, .ref v0), (1, .int (gI v1)), (2, .int (gI v2)), (3, .int (gI v3)), (4, .int (gI v4))]) [0, 1, 2, 3, 4] rfl ?_
    exact zb_X12_reduced_52  e
  · refine gy_icmp_ge (tgt := 52) (gi_rgS g4) (gi_rgS g5) dX12_reduced_18 (by decide) (fun z => absurd z c6) (fun _ => ?_)
    refine gx_iload_n dX12_reduced_21 rfl 3 rfl ?_
    refine gx_iload dX12_reduced_22 5 rfl ?_
    refine gy_iconst dX12_reduced_24 ?_
    refine gy_iadd dX12_reduced_25 ?_
    refine gx_aload_n dX12_reduced_26 rfl 0 rfl ?_
    refine gx_bE e (fun t25 ht25 e => ?_)
    refine gy_fR ht25 dX12_reduced_27 gf_RX12_89_10_37 (by decide) gkN_10_37 gkR_10_37 ?_
    refine gx_aload_n dX12_reduced_30 rfl 0 rfl ?_
    refine gx_bE e (fun t26 ht26 e => ?_)
    refine gy_fI ht26 dX12_reduced_31 gf_RX12_302_10_38 (by decide) gkN_10_38 gkR_10_38 ?_
    refine gx_iload dX12_reduced_34 4 rfl ?_
    refine gy_isub dX12_reduced_36 ?_
    refine gy_iconst dX12_reduced_37 ?_
    refine gy_iadd dX12_reduced_38 ?_
    refine gx_iload dX12_reduced_39 5 rfl ?_
    refine gy_iadd dX12_reduced_41 ?_
    refine gx_bE e (fun t27 ht27 e => ?_)
    refine gy_l1 ht27 dX12_reduced_42 ?_
    refine gy_imul dX12_reduced_43 ?_
    refine gy_iadd dX12_reduced_44 ?_
    refine gx_nE e (fun t28 ht28 e => ?_)
    rw [ht28]
    refine gx_istore_n (ls2 := [(3, .int (gI t28)), (0, .ref v0), (1, .int (gI v1)), (2, .int (gI v2)), (4, .int (gI v4)), (5, .int (gI v5))]) dX12_reduced_45 rfl (Nat.le_of_ble_eq_true rfl) rfl ?_
    refine gx_nE e (fun t29 ht29 e => ?_)
    refine gy_iinc (v := t29) (ls2 := [(5, .int (gI t29)), (3, .int (gI t28)), (0, .ref v0), (1, .int (gI v1)), (2, .int (gI v2)), (4, .int (gI v4))]) dX12_reduced_46 5 rfl ht29 (Nat.le_of_ble_eq_true rfl) rfl ?_
    refine gx_goto (tgt := 14) dX12_reduced_49 (by decide) ?_
    refine gx_sub (ls2 := [(0, .ref v0), (1, .int (gI v1)), (2, .int (gI v2)), (3, .int (gI t28)), (4, .int (gI v4)), (5, .int (gI t29))]) [2, 3, 4, 1, 5, 0] rfl ?_
    exact hr14 _ _ _ _ _ _ _ e
def l_X12_reduced_14 (n : Nat)  : Nat → Nat → Int → Int → Int → Int → Int → gi_H → Option (gi_H)
  | 0, _, _, _, _, _, _, _ => none
  | k + 1, v0, v1, v2, v3, v4, v5, h => b_X12_reduced_14 n  (l_X12_reduced_14 n  k) v0 v1 v2 v3 v4 v5 h
theorem zl_X12_reduced_14 {al : Bool} {n : Nat}  {h1 : gi_H}  : ∀ (k : Nat) (v0 : Nat) (v1 : Int) (v2 : Int) (v3 : Int) (v4 : Int) (v5 : Int) (h : gi_H), l_X12_reduced_14 n  k v0 v1 v2 v3 v4 v5 h = some h1 → gx_Z mX12_reduced al al 0 0 14 [(0, .ref v0), (1, .int (gI v1)), (2, .int (gI v2)), (3, .int (gI v3)), (4, .int (gI v4)), (5, .int (gI v5))] [] (gi_cv h) (.inl none) (gi_cv h1)
  | 0, _, _, _, _, _, _, _, e => gx_0E e
  | k + 1, _, _, _, _, _, _, _, e => zb_X12_reduced_14 (n := n)  (zl_X12_reduced_14  k) e
set_option maxRecDepth 100000 in
def f_X12_reduced (n : Nat) (v0 : Nat) (v1 : Int) (v2 : Int) (h : gi_H) : Option (gi_H) :=
  gx_nm (v2 + (1 : Int)) fun t1 => Option.bind (gi_is h v0 10) fun _ => Option.bind (f_X12_sizeOf v0 v2 h) fun q3 => l_X12_reduced_14 n  n v0 v1 v2 t1 q3 (0 : Int) h
set_option maxRecDepth 100000 in
theorem z_X12_reduced {al : Bool} {n : Nat} {v0 : Nat} {v1 : Int} {v2 : Int} {h : gi_H} {h1 : gi_H} (e : f_X12_reduced n v0 v1 v2 h = some h1) : gx_Cw mX12_reduced al [.ref v0, .int (gI v1), .int (gI v2)] (gi_cv h) (.inl none) (gi_cv h1) := by
  refine gx_enter (by decide +kernel) rfl (Nat.le_of_ble_eq_true rfl) ?_
  show gx_Z mX12_reduced al al 0 0 0 [(0, .ref v0), (1, .int (gI v1)), (2, .int (gI v2))] [] (gi_cv h) (.inl none) (gi_cv h1)
  refine gx_iload_n dX12_reduced_0 rfl 2 rfl ?_
  refine gy_iconst dX12_reduced_1 ?_
  refine gy_iadd dX12_reduced_2 ?_
  refine gx_nE e (fun t1 ht1 e => ?_)
  rw [ht1]
  refine gx_istore_n (ls2 := [(3, .int (gI t1)), (0, .ref v0), (1, .int (gI v1)), (2, .int (gI v2))]) dX12_reduced_3 rfl (Nat.le_of_ble_eq_true rfl) rfl ?_
  refine gx_aload_n dX12_reduced_4 rfl 1 rfl ?_
  refine gx_iload_n dX12_reduced_5 rfl 3 rfl ?_
  refine gx_bE e (fun _ hu2 e => ?_)
  refine gx_bE e (fun q3 hq3 e => ?_)
  refine gx_callV (n := 1) (st := []) (As := [.int (gI v2)]) (b := v0) dX12_reduced_6 (z_X12_sizeOf hq3) rfl ⟨rfl, gw_cw_X12_sizeOf, gw_14, gp_X12_sizeOf, ⟨Nat.le_of_ble_eq_true rfl, Nat.le_of_ble_eq_true rfl⟩⟩ (gi_isS hu2) (by decide) gw_1579 gw_1581 gs_71 rfl ⟨Nat.le_of_ble_eq_true rfl, Nat.le_of_ble_eq_true rfl⟩ (Nat.le_of_ble_eq_true rfl) (gy_k1 (x := .int (gI q3)) (kc2 := 0) (ks2 := 0) ⟨rfl, rfl⟩ ?_) gy_kn
  refine gx_istore (ls2 := [(4, .int (gI q3)), (3, .int (gI t1)), (0, .ref v0), (1, .int (gI v1)), (2, .int (gI v2))]) dX12_reduced_9 (Nat.le_of_ble_eq_true rfl) rfl ?_
  refine gy_iconst dX12_reduced_11 ?_
  refine gx_istore (ls2 := [(5, .int (gI (0 : Int))), (4, .int (gI q3)), (3, .int (gI t1)), (0, .ref v0), (1, .int (gI v1)), (2, .int (gI v2))]) dX12_reduced_12 (Nat.le_of_ble_eq_true rfl) rfl ?_
  refine gx_sub (ls2 := [(0, .ref v0), (1, .int (gI v1)), (2, .int (gI v2)), (3, .int (gI t1)), (4, .int (gI q3)), (5, .int (gI (0 : Int)))]) [3, 4, 5, 2, 1, 0] rfl ?_
  exact zl_X12_reduced_14  n _ _ _ _ _ _ _ e
